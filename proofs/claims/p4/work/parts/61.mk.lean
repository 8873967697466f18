/-! ===== what makes objects: bounds hold, the references lie as they are to ===== -/
noncomputable def okb (b : Option (Int × Int)) (v : Int) : Bool := match b with
  | none => true
  | some (lo, hi) => decide (lo ≤ v) && decide (v ≤ hi)
theorem okb_spec {b : Option (Int × Int)} {v lo hi : Int} (h : okb b v = true) (hb : b = some (lo, hi)) : lo ≤ v ∧ v ≤ hi := by
  subst hb
  unfold okb at h
  rw [Bool.and_eq_true, decide_eq_true_eq, decide_eq_true_eq] at h
  exact h
theorem Bd.kw {I : Im} (h : Bd I) {o k : Nat} {v : Int32} (hk : (okb (bnd (clsOf o) k) v.toInt && (okb (bna o) v.toInt && !(Nat.beq o 102))) = true) : Bd (uI I o k v) := by
  rw [Bool.and_eq_true, Bool.and_eq_true] at hk
  refine h.up (fun lo hi q => okb_spec hk.1 q) (fun lo hi q => okb_spec hk.2.1 q) (fun q => ?_)
  subst q; exact absurd hk.2.2 (by decide)
theorem bnd_0 {ci k : Nat} {lo hi : Int} (h : bnd ci k = some (lo, hi)) : lo ≤ 0 ∧ 0 ≤ hi := by
  unfold bnd at h
  split at h <;> first | (cases h; decide) | (cases h)
theorem bna_0 {a : Nat} {lo hi : Int} (h : bna a = some (lo, hi)) : lo ≤ 0 ∧ 0 ≤ hi := by
  unfold bna at h
  split at h <;> first | (cases h; decide) | (cases h)
theorem CK.zero : CK (fun _ => 0) := by
  have z0 : (0 : Int32).toInt = 0 := rfl
  refine ⟨fun j => ?_, fun c k hc hk => ?_, fun c s hc hd hs => absurd rfl hd⟩
  · show CB j (0 : Int32).toInt
    rw [z0]; unfold CB; omega
  · have : (k : Int) < (0 : Int32).toInt := hk
    omega
theorem Bd.z {I : Im} (h : Bd I) {a : Nat} : Bd (zI I a) := by
  have e : ∀ o, (zI I a o = fun _ => 0) ∨ zI I a o = I o := fun o => by
    by_cases q : o = a
    · exact Or.inl (if_pos q)
    · exact Or.inr (if_neg q)
  refine ⟨fun o k lo hi hb => ?_, fun o j lo hi hb => ?_, ?_⟩
  · rcases e o with q | q
    · rw [q]; exact bnd_0 hb
    · rw [q]; exact h.1 o k lo hi hb
  · rcases e o with q | q
    · rw [q]; exact bna_0 hb
    · rw [q]; exact h.2.1 o j lo hi hb
  · rcases e 102 with q | q
    · rw [q]; exact CK.zero
    · rw [q]; exact h.2.2
/-- the places that both sides have alike are 0 while the objects are made -/
noncomputable def ZP : List (Nat × Nat) := [(9, 4), (9, 3), (21, 0), (3, 1), (3, 3), (1, 13), (97, 8), (97, 23), (53, 0), (55, 0), (57, 0), (59, 0), (98, 0), (98, 1), (98, 2), (98, 3)]
noncomputable def BZ (I : Im) : Prop := Bd I ∧ (∀ q ∈ ZP, I q.1 q.2 = 0) ∧ ∀ k, I 4 k = 0 ∧ I 10 k = 0
theorem BZ.kw {I : Im} (h : BZ I) {o k : Nat} {v : Int32} (hk : (okb (bnd (clsOf o) k) v.toInt && (okb (bna o) v.toInt && !(Nat.beq o 102))) = true) (hz : ZP.all (fun q => !(Nat.beq q.1 o && Nat.beq q.2 k) || decide (v.toInt = 0)) = true) (h4 : (Nat.beq o 4 || Nat.beq o 10) = false) : BZ (uI I o k v) := by
  have n10 : ¬ (10 : Nat) = o := fun q => by subst q; exact absurd h4 (by decide)
  have n4 : ¬ (4 : Nat) = o := fun q => by subst q; exact absurd h4 (by decide)
  refine ⟨h.1.kw hk, fun q hq => ?_, fun k2 => by rw [uI_ne n4, uI_ne n10]; exact h.2.2 k2⟩
  have h1 := List.all_eq_true.mp hz q hq
  rw [Bool.or_eq_true, Bool.not_eq_true', decide_eq_true_eq] at h1
  by_cases ho : q.1 = o
  · by_cases hk2 : q.2 = k
    · rcases h1 with h1 | h1
      · rw [ho, hk2, nb_refl, nb_refl] at h1; exact absurd h1 (by decide)
      · rw [ho, hk2, uI_eq]
        have : upd (I o) k v k = v := by simp [upd]
        rw [this]; exact Int32.toInt_inj.mp h1
    · rw [ho, uI_eq]
      have : upd (I o) k v q.2 = I o q.2 := by simp [upd, hk2]
      rw [this, ← ho]; exact h.2.1 q hq
  · rw [uI_ne ho]; exact h.2.1 q hq
theorem BZ.z {I : Im} (h : BZ I) {a : Nat} : BZ (zI I a) := by
  refine ⟨h.1.z, fun q hq => ?_, fun k2 => ?_⟩
  · by_cases ho : q.1 = a
    · show (if q.1 = a then (fun _ => 0) else I q.1) q.2 = 0
      rw [if_pos ho]
    · rw [zI_ne ho]; exact h.2.1 q hq
  · refine ⟨?_, ?_⟩
    · by_cases ho : 4 = a
      · show (if 4 = a then (fun _ => 0) else I 4) k2 = 0
        rw [if_pos ho]
      · rw [zI_ne ho]; exact (h.2.2 k2).1
    · by_cases ho : 10 = a
      · show (if 10 = a then (fun _ => 0) else I 10) k2 = 0
        rw [if_pos ho]
      · rw [zI_ne ho]; exact (h.2.2 k2).2
/-- what is known of ints -/
noncomputable def KI (L : List (Nat × Nat × Int32)) (I : Im) : Prop := ∀ q ∈ L, I q.1 q.2.1 = q.2.2
noncomputable def FI (n : Nat) (I I2 : Im) : Prop := ∀ o, o < n → I2 o = I o
theorem KI.nil {I : Im} : KI [] I := fun q h => by cases h
theorem KI.z {L : List (Nat × Nat × Int32)} {I : Im} (h : KI L I) {a : Nat} (ha : L.all (fun q => !(Nat.beq q.1 a)) = true) : KI L (zI I a) := fun q hq => by
  have h1 := List.all_eq_true.mp ha q hq
  have h2 : ¬ q.1 = a := fun z => by rw [z, nb_refl] at h1; cases h1
  rw [zI_ne h2]; exact h q hq
theorem KI.w {L : List (Nat × Nat × Int32)} {I : Im} (h : KI L I) {a j : Nat} {v : Int32} (ha : L.all (fun q => !(Nat.beq q.1 a && Nat.beq q.2.1 j)) = true) : KI L (uI I a j v) := fun q hq => by
  have h1 := List.all_eq_true.mp ha q hq
  by_cases z : q.1 = a
  · have h2 : ¬ q.2.1 = j := fun y => by rw [z, y, nb_refl, nb_refl] at h1; cases h1
    have h3 := h q hq
    rw [z] at h3
    rw [z, uI_eq]
    have : upd (I a) j v q.2.1 = I a q.2.1 := by simp [upd, h2]
    rw [this]; exact h3
  · rw [uI_ne z]; exact h q hq
theorem KI.u {L : List (Nat × Nat × Int32)} {I : Im} (h : KI L I) {a j : Nat} {v : Int32} (ha : L.all (fun q => !(Nat.beq q.1 a && Nat.beq q.2.1 j)) = true) : KI ((a, j, v) :: L) (uI I a j v) := fun q hq => by
  rcases List.mem_cons.mp hq with rfl | hq
  · show uI I a j v a j = v
    rw [uI_eq]; simp [upd]
  · exact h.w ha q hq
theorem KI.app {A B : List (Nat × Nat × Int32)} {I : Im} (h : KI A I) (h2 : KI B I) : KI (A ++ B) I := fun q hq => by
  rcases List.mem_append.mp hq with hq | hq
  · exact h q hq
  · exact h2 q hq
theorem KI.fr {L : List (Nat × Nat × Int32)} {I I2 : Im} (h : KI L I) {n : Nat} (hf : FI n I I2) (hL : L.all (fun q => Nat.blt q.1 n) = true) : KI L I2 := fun q hq => by
  have h1 := List.all_eq_true.mp hL q hq
  rw [hf q.1 (Nat.lt_of_lt_of_le (Nat.lt_succ_self _) (Nat.le_of_ble_eq_true h1))]; exact h q hq
theorem FI.refl (n : Nat) (I : Im) : FI n I I := fun _ _ => rfl
noncomputable def FJ (n : Nat) (J J2 : Jm) : Prop := ∀ o, o < n → J2 o = J o
theorem FJ.refl (n : Nat) (J : Jm) : FJ n J J := fun _ _ => rfl
theorem FJ.z {n : Nat} {J J2 : Jm} (h : FJ n J J2) {a : Nat} (ha : Nat.ble n a = true) : FJ n J (zJ J2 a) := fun o ho => by
  have := Nat.le_of_ble_eq_true ha
  rw [zJ_ne (by omega)]; exact h o ho
theorem FJ.w {n : Nat} {J J2 : Jm} (h : FJ n J J2) {a j : Nat} {v : Int64} (ha : Nat.ble n a = true) : FJ n J (uJ J2 a j v) := fun o ho => by
  have := Nat.le_of_ble_eq_true ha
  rw [uJ_ne (by omega)]; exact h o ho
theorem JZ.z {J : Jm} {a : Nat} (h : J 47 0 = 0) (ha : Nat.beq 47 a = false) : zJ J a 47 0 = 0 := by
  have : ¬ 47 = a := fun q => by subst q; exact absurd ha (by decide)
  rw [zJ_ne this]; exact h
theorem JZ.w {J : Jm} {a j : Nat} {v : Int64} (h : J 47 0 = 0) (ha : Nat.beq 47 a = false) : uJ J a j v 47 0 = 0 := by
  have : ¬ 47 = a := fun q => by subst q; exact absurd ha (by decide)
  rw [uJ_ne this]; exact h
theorem J5.z {J : Jm} {a : Nat} (h : ∀ k, k < 22 → J 5 k = rsv.getD k 0) (ha : Nat.beq 5 a = false) : ∀ k, k < 22 → zJ J a 5 k = rsv.getD k 0 := fun k hk => by
  have : ¬ 5 = a := fun q => by subst q; exact absurd ha (by decide)
  rw [zJ_ne this]; exact h k hk
theorem J5.w {J : Jm} {a j : Nat} {v : Int64} (h : ∀ k, k < 22 → J 5 k = rsv.getD k 0) (ha : Nat.beq 5 a = false) : ∀ k, k < 22 → uJ J a j v 5 k = rsv.getD k 0 := fun k hk => by
  have : ¬ 5 = a := fun q => by subst q; exact absurd ha (by decide)
  rw [uJ_ne this]; exact h k hk
theorem FI.z {n : Nat} {I I2 : Im} (h : FI n I I2) {a : Nat} (ha : Nat.ble n a = true) : FI n I (zI I2 a) := fun o ho => by
  have := Nat.le_of_ble_eq_true ha
  rw [zI_ne (by omega)]; exact h o ho
theorem FI.w {n : Nat} {I I2 : Im} (h : FI n I I2) {a j : Nat} {v : Int32} (ha : Nat.ble n a = true) : FI n I (uI I2 a j v) := fun o ho => by
  have := Nat.le_of_ble_eq_true ha
  rw [uI_ne (by first | decide | omega)]; exact h o ho
theorem Bd.start : Bd (fun _ _ => 0) := ⟨fun _ _ _ _ hb => bnd_0 hb, fun _ _ _ _ hb => bna_0 hb, CK.zero⟩
theorem BZ.at {I : Im} (h : BZ I) {o k : Nat} (hq : (o, k) ∈ ZP) : I o k = 0 := h.2.1 (o, k) hq
theorem KI.at {L : List (Nat × Nat × Int32)} {I : Im} (h : KI L I) {o k : Nat} {v : Int32} (hq : (o, k, v) ∈ L) : I o k = v := h (o, k, v) hq
theorem BZ.start : BZ (fun _ _ => 0) := ⟨Bd.start, fun _ _ => rfl, fun _ => ⟨rfl, rfl⟩⟩
/-- what is known of the references -/
noncomputable def RK (L : List (Nat × Nat × Nat)) (R : Rm) : Prop := ∀ q ∈ L, R q.1 q.2.1 = q.2.2
theorem RK.nil {R : Rm} : RK [] R := fun q h => by cases h
theorem RK.z {L : List (Nat × Nat × Nat)} {R : Rm} (h : RK L R) {a : Nat} (ha : L.all (fun q => !(Nat.beq q.1 a)) = true) : RK L (zR R a) := fun q hq => by
  have h1 := List.all_eq_true.mp ha q hq
  have h2 : ¬ q.1 = a := fun z => by rw [z, Nat.beq_refl] at h1; cases h1
  show (if q.1 = a then (fun _ => 0) else R q.1) q.2.1 = q.2.2
  rw [if_neg h2]; exact h q hq
theorem RK.u {L : List (Nat × Nat × Nat)} {R : Rm} (h : RK L R) {a j v : Nat} (ha : L.all (fun q => !(Nat.beq q.1 a && Nat.beq q.2.1 j)) = true) : RK ((a, j, v) :: L) (uR R a j v) := fun q hq => by
  rcases List.mem_cons.mp hq with rfl | hq
  · show (if a = a then va_up (R a) j v else R a) j = v
    rw [if_pos rfl]; exact if_pos rfl
  · have h1 := List.all_eq_true.mp ha q hq
    show (if q.1 = a then va_up (R a) j v else R q.1) q.2.1 = q.2.2
    by_cases z : q.1 = a
    · rw [if_pos z]
      have h2 : ¬ q.2.1 = j := fun y => by rw [z, y, Nat.beq_refl, Nat.beq_refl] at h1; cases h1
      show (if q.2.1 = j then v else R a q.2.1) = q.2.2
      rw [if_neg h2, ← z]; exact h q hq
    · rw [if_neg z]; exact h q hq
theorem RK.app {A B : List (Nat × Nat × Nat)} {R : Rm} (h : RK A R) (h2 : RK B R) : RK (A ++ B) R := fun q hq => by
  rcases List.mem_append.mp hq with hq | hq
  · exact h q hq
  · exact h2 q hq
/-- the cells before one are as they were -/
noncomputable def FR (n : Nat) (R R2 : Rm) : Prop := ∀ o, o < n → R2 o = R o
theorem FR.refl (n : Nat) (R : Rm) : FR n R R := fun _ _ => rfl
theorem FR.z {n : Nat} {R R2 : Rm} (h : FR n R R2) {a : Nat} (ha : Nat.ble n a = true) : FR n R (zR R2 a) := fun o ho => by
  have := Nat.le_of_ble_eq_true ha
  show (if o = a then (fun _ => 0) else R2 o) = R o
  rw [if_neg (by omega)]; exact h o ho
theorem FR.u {n : Nat} {R R2 : Rm} (h : FR n R R2) {a j v : Nat} (ha : Nat.ble n a = true) : FR n R (uR R2 a j v) := fun o ho => by
  have := Nat.le_of_ble_eq_true ha
  show (if o = a then va_up (R2 a) j v else R2 o) = R o
  rw [if_neg (by omega)]; exact h o ho
theorem RK.fr {L : List (Nat × Nat × Nat)} {R R2 : Rm} (h : RK L R) {n : Nat} (hf : FR n R R2) (hL : L.all (fun q => Nat.blt q.1 n) = true) : RK L R2 := fun q hq => by
  have h1 := List.all_eq_true.mp hL q hq
  rw [hf q.1 (Nat.lt_of_lt_of_le (Nat.lt_succ_self _) (Nat.le_of_ble_eq_true h1))]; exact h q hq
noncomputable def lkq (L : List (Nat × Nat × Nat)) (o k : Nat) : Bool := L.any (fun q => Nat.beq q.1 o && (Nat.beq q.2.1 k && !(Nat.beq q.2.2 0)))
theorem RK.ne {L : List (Nat × Nat × Nat)} {R : Rm} (h : RK L R) {o k : Nat} (hq : lkq L o k = true) : ¬ R o k = 0 := by
  obtain ⟨q, h1, h2⟩ := List.any_eq_true.mp hq
  rw [Bool.and_eq_true, Bool.and_eq_true] at h2
  have e1 := Nat.eq_of_beq_eq_true h2.1
  have e2 := Nat.eq_of_beq_eq_true h2.2.1
  intro z
  have h3 := h q h1
  rw [e1, e2, z] at h3
  rw [← h3] at h2
  exact absurd h2.2.2 (by decide)
theorem RK.at {L : List (Nat × Nat × Nat)} {R : Rm} (h : RK L R) {o k v : Nat} (hq : L.contains (o, k, v) = true) : R o k = v := h (o, k, v) (List.contains_iff_mem.mp hq)
theorem amc_of {d mi rk : Nat} {n al kr : Nat} {as : List Value} {I : Im} {J : Jm} {R : Rm} {Q : Qt} {k : List En} (h1 : Nat.beq mi mReader = false) (hc : (mQ mi).1 = k) (hrk : qRk (mQ mi) = rk) (hal : qAl (mQ mi) = al) (hkr : qKr (mQ mi) = kr) (hph : Nat.beq (qPh (mQ mi)) 1 = false) (hlen : (lg_sl as).length ≤ qL (mQ mi)) (h : ∀ P : Kt, Cl (AM d) false false 0 (fun _ => 0) rk (n + al) k (fun n' x y I' J' R' => n' = n + al ∧ (kr = 1 → R' = R) ∧ Q x y I' J' R') P → P 0 n (lv_args 0 as) [] I J R) : AM (d + 1) mi n as I J R Q := by
  unfold AM
  rw [h1]
  refine ⟨hlen, ?_⟩
  rw [hc, hrk, hal, hph, hkr]
  exact h

noncomputable def lk_X6_init_3 : List (Nat × Nat × Nat) := [(3, 0, 4), (3, 2, 5)]
noncomputable def zk_X6_init_3 : List (Nat × Nat × Int32) := []
theorem ct_X6_init_3 {d : Nat} {Q : Qt} {I : Im} {J : Jm} {R : Rm} (hB : BZ I) (hQ : ∀ (I2 : Im) (J2 : Jm) (R2 : Rm), BZ I2 → FR 3 R R2 → RK lk_X6_init_3 R2 → FI 3 I I2 → KI zk_X6_init_3 I2 → FJ 3 J J2 → (∀ k, k < 22 → J2 5 k = rsv.getD k 0) → Q 0 0 I2 J2 R2) : AM (d + 6) 58 3 [.ref 3] I J R Q := by
  unfold AM
  show hReader 3 [.ref 3] I J R Q
  refine ⟨3, rfl, rfl, ⟨rfl, rfl, rfl, rfl, rfl⟩, ?_⟩
  intro I' J' R' hI hJ hR ⟨b0, r0, r2, i1, i3, i4, i5, i6, i7, i8, i9, j10, i11, i12, i13, j5⟩
  refine hQ I' J' R' ⟨?_, fun q hq => ?_, fun k => ⟨b0 k, by rw [hI 10 (by decide) (by decide) (by decide)]; exact (hB.2.2 k).2⟩⟩ (fun o ho => hR o (by omega) (by omega) (by omega)) (fun q hq => ?_) (fun o ho => hI o (by omega) (by omega) (by omega)) (fun q hq => by cases hq) (fun o ho => hJ o (by omega) (by omega) (by omega)) j5
  · refine ⟨fun o k lo hi hb => ?_, fun a j lo hi hb => ?_, ?_⟩
    · by_cases q3 : o = 3
      · subst q3
        have hb2 : bnd 6 k = some (lo, hi) := hb
        unfold bnd at hb2
        split at hb2 <;> first | (rename_i z; cases z) | skip
        all_goals first | (cases hb2; first | (rw [i1]; decide) | (rw [i3]; decide) | (rw [i4]; decide) | (rw [i5]; decide) | (rw [i6]; decide)) | (cases hb2)
      · by_cases q4 : o = 4
        · subst q4; rw [show bnd (clsOf 4) k = none from bnd_A (t := 2) rfl k] at hb; cases hb
        · by_cases q5 : o = 5
          · subst q5; rw [show bnd (clsOf 5) k = none from bnd_A (t := 1) rfl k] at hb; cases hb
          · rw [hI o q3 q4 q5]; exact hB.1.1 o k lo hi hb
    · by_cases q3 : a = 3
      · subst q3; cases hb
      · by_cases q4 : a = 4
        · subst q4; cases hb
        · by_cases q5 : a = 5
          · subst q5; cases hb
          · rw [hI a q3 q4 q5]; exact hB.1.2.1 a j lo hi hb
    · rw [hI 102 (by decide) (by decide) (by decide)]; exact hB.1.2.2
  · have hz : ∀ q ∈ ZP, ¬ q.1 = 4 ∧ ¬ q.1 = 5 ∧ (q.1 = 3 → q.2 = 1 ∨ q.2 = 3) := by decide
    obtain ⟨h4, h5, h3⟩ := hz q hq
    by_cases q3 : q.1 = 3
    · rw [q3]; exact (h3 q3).elim (fun z => by rw [z]; exact i1) (fun z => by rw [z]; exact i3)
    · rw [hI q.1 q3 h4 h5]; exact hB.2.1 q hq
  · rcases List.mem_cons.mp hq with rfl | hq
    · exact r0
    · rcases List.mem_cons.mp hq with rfl | hq
      · exact r2
      · cases hq
noncomputable def zk_X1_init_6 : List (Nat × Nat × Int32) := []
theorem ct_X1_init_6 {d : Nat} {Q : Qt} {I : Im} {J : Jm} {R : Rm} (hB : BZ I) (hQ : ∀ (I2 : Im) (J2 : Jm) (R2 : Rm), BZ I2 → R2 = R → True → FI 6 I I2 → KI zk_X1_init_6 I2 → FJ 6 J J2 → True → Q 0 0 I2 J2 R2) : AM (d + 1) 20 6 [.ref 6] I J R Q := by
  refine amc_of (k := kX1_init) rfl rfl rfl rfl rfl rfl (Nat.le_of_ble_eq_true rfl) (fun P hc => ?_)
  refine cs_X1_init_6_0_6 hc _ _ _ ?_
  refine ⟨Or.inl rfl, ?_⟩
  have hB1 : BZ (uI I 6 0 0) := hB.kw rfl rfl rfl
  have hZ2 : KI ([]) (uI I 6 0 0) := (KI.nil (I := I)).w rfl
  have hI3 : FI 6 I (uI I 6 0 0) := (FI.refl 6 I).w rfl
  refine ⟨Or.inl rfl, ?_⟩
  have hB4 : BZ (uI (uI I 6 0 0) 6 1 0) := hB1.kw rfl rfl rfl
  have hZ5 : KI ([]) (uI (uI I 6 0 0) 6 1 0) := hZ2.w rfl
  have hI6 : FI 6 I (uI (uI I 6 0 0) 6 1 0) := hI3.w rfl
  have hB7 : BZ (uI (uI (uI I 6 0 0) 6 1 0) 6 2 0) := hB4.kw rfl rfl rfl
  have hZ8 : KI ([]) (uI (uI (uI I 6 0 0) 6 1 0) 6 2 0) := hZ5.w rfl
  have hI9 : FI 6 I (uI (uI (uI I 6 0 0) 6 1 0) 6 2 0) := hI6.w rfl
  exact ⟨rfl, fun _ => rfl, hQ _ _ _ hB7 rfl trivial hI9 hZ8 (FJ.refl 6 J) trivial⟩
noncomputable def zk_X3_init_7 : List (Nat × Nat × Int32) := []
noncomputable def lk_X3_init_7 : List (Nat × Nat × Nat) := (7, 0, 8) :: ([])
set_option maxHeartbeats 4000000 in
set_option maxRecDepth 100000 in
theorem ct_X3_init_7 {d : Nat} {Q : Qt} {I : Im} {J : Jm} {R : Rm} (hB : BZ I) (hQ : ∀ (I2 : Im) (J2 : Jm) (R2 : Rm), BZ I2 → FR 7 R R2 → RK lk_X3_init_7 R2 → FI 7 I I2 → KI zk_X3_init_7 I2 → FJ 7 J J2 → True → Q 0 0 I2 J2 R2) : AM (d + 1) 32 7 [.ref 7] I J R Q := by
  refine amc_of (k := kX3_init) rfl rfl rfl rfl rfl rfl (Nat.le_of_ble_eq_true rfl) (fun P hc => ?_)
  refine cs_X3_init_7_0_7 hc _ _ _ ?_
  refine ⟨rfl, ?_⟩
  have hB1 : BZ (zI I 8) := hB.z
  have hZ2 : KI ([]) (zI I 8) := (KI.nil (I := I)).z rfl
  have hI3 : FI 7 I (zI I 8) := (FI.refl 7 I).z rfl
  have hJ4 : FJ 7 J (zJ J 8) := (FJ.refl 7 J).z rfl
  have hK5 : RK ([]) (zR R 8) := (RK.nil (R := R)).z rfl
  have hF6 : FR 7 R (zR R 8) := (FR.refl 7 R).z rfl
  have hK7 : RK ((7, 0, 8) :: ([])) (uR (zR R 8) 7 0 8) := hK5.u rfl
  have hF8 : FR 7 R (uR (zR R 8) 7 0 8) := hF6.u rfl
  have hB9 : BZ (uI (zI I 8) 7 1 0) := hB1.kw rfl rfl rfl
  have hZ10 : KI ([]) (uI (zI I 8) 7 1 0) := hZ2.w rfl
  have hI11 : FI 7 I (uI (zI I 8) 7 1 0) := hI3.w rfl
  exact ⟨rfl, fun z => absurd z (by decide), hQ _ _ _ hB9 hF8 hK7 hI11 hZ10 hJ4 trivial⟩
noncomputable def zk_X0_init_9 : List (Nat × Nat × Int32) := (9, 2, 1073741823) :: ((9, 1, 4) :: ([]))
noncomputable def lk_X0_init_9 : List (Nat × Nat × Nat) := (9, 8, 14) :: ((9, 7, 13) :: ((9, 6, 12) :: ((9, 5, 11) :: ((9, 0, 10) :: ([])))))
set_option maxHeartbeats 4000000 in
set_option maxRecDepth 100000 in
theorem ct_X0_init_9 {d : Nat} {Q : Qt} {I : Im} {J : Jm} {R : Rm} (hB : BZ I) (hQ : ∀ (I2 : Im) (J2 : Jm) (R2 : Rm), BZ I2 → FR 9 R R2 → RK lk_X0_init_9 R2 → FI 9 I I2 → KI zk_X0_init_9 I2 → FJ 9 J J2 → True → Q 0 0 I2 J2 R2) : AM (d + 1) 0 9 [.ref 9] I J R Q := by
  refine amc_of (k := kX0_init) rfl rfl rfl rfl rfl rfl (Nat.le_of_ble_eq_true rfl) (fun P hc => ?_)
  refine cs_X0_init_9_0_9 hc _ _ _ ?_
  refine ⟨rfl, ?_⟩
  have hB1 : BZ (zI I 10) := hB.z
  have hZ2 : KI ([]) (zI I 10) := (KI.nil (I := I)).z rfl
  have hI3 : FI 9 I (zI I 10) := (FI.refl 9 I).z rfl
  have hJ4 : FJ 9 J (zJ J 10) := (FJ.refl 9 J).z rfl
  have hK5 : RK ([]) (zR R 10) := (RK.nil (R := R)).z rfl
  have hF6 : FR 9 R (zR R 10) := (FR.refl 9 R).z rfl
  have hK7 : RK ((9, 0, 10) :: ([])) (uR (zR R 10) 9 0 10) := hK5.u rfl
  have hF8 : FR 9 R (uR (zR R 10) 9 0 10) := hF6.u rfl
  have hB9 : BZ (uI (zI I 10) 9 1 4) := hB1.kw rfl rfl rfl
  have hZ10 : KI ((9, 1, 4) :: ([])) (uI (zI I 10) 9 1 4) := hZ2.u rfl
  have hI11 : FI 9 I (uI (zI I 10) 9 1 4) := hI3.w rfl
  have hB12 : BZ (uI (uI (zI I 10) 9 1 4) 9 2 1073741823) := hB9.kw rfl rfl rfl
  have hZ13 : KI ((9, 2, 1073741823) :: ((9, 1, 4) :: ([]))) (uI (uI (zI I 10) 9 1 4) 9 2 1073741823) := hZ10.u rfl
  have hI14 : FI 9 I (uI (uI (zI I 10) 9 1 4) 9 2 1073741823) := hI11.w rfl
  have hB15 : BZ (uI (uI (uI (zI I 10) 9 1 4) 9 2 1073741823) 9 3 0) := hB12.kw rfl rfl rfl
  have hZ16 : KI ((9, 2, 1073741823) :: ((9, 1, 4) :: ([]))) (uI (uI (uI (zI I 10) 9 1 4) 9 2 1073741823) 9 3 0) := hZ13.w rfl
  have hI17 : FI 9 I (uI (uI (uI (zI I 10) 9 1 4) 9 2 1073741823) 9 3 0) := hI14.w rfl
  have hB18 : BZ (uI (uI (uI (uI (zI I 10) 9 1 4) 9 2 1073741823) 9 3 0) 9 4 0) := hB15.kw rfl rfl rfl
  have hZ19 : KI ((9, 2, 1073741823) :: ((9, 1, 4) :: ([]))) (uI (uI (uI (uI (zI I 10) 9 1 4) 9 2 1073741823) 9 3 0) 9 4 0) := hZ16.w rfl
  have hI20 : FI 9 I (uI (uI (uI (uI (zI I 10) 9 1 4) 9 2 1073741823) 9 3 0) 9 4 0) := hI17.w rfl
  refine ⟨rfl, ?_⟩
  have hB21 : BZ (zI (uI (uI (uI (uI (zI I 10) 9 1 4) 9 2 1073741823) 9 3 0) 9 4 0) 11) := hB18.z
  have hZ22 : KI ((9, 2, 1073741823) :: ((9, 1, 4) :: ([]))) (zI (uI (uI (uI (uI (zI I 10) 9 1 4) 9 2 1073741823) 9 3 0) 9 4 0) 11) := hZ19.z rfl
  have hI23 : FI 9 I (zI (uI (uI (uI (uI (zI I 10) 9 1 4) 9 2 1073741823) 9 3 0) 9 4 0) 11) := hI20.z rfl
  have hJ24 : FJ 9 J (zJ (zJ J 10) 11) := hJ4.z rfl
  have hK25 : RK ((9, 0, 10) :: ([])) (zR (uR (zR R 10) 9 0 10) 11) := hK7.z rfl
  have hF26 : FR 9 R (zR (uR (zR R 10) 9 0 10) 11) := hF8.z rfl
  have hK27 : RK ((9, 5, 11) :: ((9, 0, 10) :: ([]))) (uR (zR (uR (zR R 10) 9 0 10) 11) 9 5 11) := hK25.u rfl
  have hF28 : FR 9 R (uR (zR (uR (zR R 10) 9 0 10) 11) 9 5 11) := hF26.u rfl
  refine ⟨rfl, ?_⟩
  have hB29 : BZ (zI (zI (uI (uI (uI (uI (zI I 10) 9 1 4) 9 2 1073741823) 9 3 0) 9 4 0) 11) 12) := hB21.z
  have hZ30 : KI ((9, 2, 1073741823) :: ((9, 1, 4) :: ([]))) (zI (zI (uI (uI (uI (uI (zI I 10) 9 1 4) 9 2 1073741823) 9 3 0) 9 4 0) 11) 12) := hZ22.z rfl
  have hI31 : FI 9 I (zI (zI (uI (uI (uI (uI (zI I 10) 9 1 4) 9 2 1073741823) 9 3 0) 9 4 0) 11) 12) := hI23.z rfl
  have hJ32 : FJ 9 J (zJ (zJ (zJ J 10) 11) 12) := hJ24.z rfl
  have hK33 : RK ((9, 5, 11) :: ((9, 0, 10) :: ([]))) (zR (uR (zR (uR (zR R 10) 9 0 10) 11) 9 5 11) 12) := hK27.z rfl
  have hF34 : FR 9 R (zR (uR (zR (uR (zR R 10) 9 0 10) 11) 9 5 11) 12) := hF28.z rfl
  have hK35 : RK ((9, 6, 12) :: ((9, 5, 11) :: ((9, 0, 10) :: ([])))) (uR (zR (uR (zR (uR (zR R 10) 9 0 10) 11) 9 5 11) 12) 9 6 12) := hK33.u rfl
  have hF36 : FR 9 R (uR (zR (uR (zR (uR (zR R 10) 9 0 10) 11) 9 5 11) 12) 9 6 12) := hF34.u rfl
  refine ⟨rfl, ?_⟩
  have hB37 : BZ (zI (zI (zI (uI (uI (uI (uI (zI I 10) 9 1 4) 9 2 1073741823) 9 3 0) 9 4 0) 11) 12) 13) := hB29.z
  have hZ38 : KI ((9, 2, 1073741823) :: ((9, 1, 4) :: ([]))) (zI (zI (zI (uI (uI (uI (uI (zI I 10) 9 1 4) 9 2 1073741823) 9 3 0) 9 4 0) 11) 12) 13) := hZ30.z rfl
  have hI39 : FI 9 I (zI (zI (zI (uI (uI (uI (uI (zI I 10) 9 1 4) 9 2 1073741823) 9 3 0) 9 4 0) 11) 12) 13) := hI31.z rfl
  have hJ40 : FJ 9 J (zJ (zJ (zJ (zJ J 10) 11) 12) 13) := hJ32.z rfl
  have hK41 : RK ((9, 6, 12) :: ((9, 5, 11) :: ((9, 0, 10) :: ([])))) (zR (uR (zR (uR (zR (uR (zR R 10) 9 0 10) 11) 9 5 11) 12) 9 6 12) 13) := hK35.z rfl
  have hF42 : FR 9 R (zR (uR (zR (uR (zR (uR (zR R 10) 9 0 10) 11) 9 5 11) 12) 9 6 12) 13) := hF36.z rfl
  have hK43 : RK ((9, 7, 13) :: ((9, 6, 12) :: ((9, 5, 11) :: ((9, 0, 10) :: ([]))))) (uR (zR (uR (zR (uR (zR (uR (zR R 10) 9 0 10) 11) 9 5 11) 12) 9 6 12) 13) 9 7 13) := hK41.u rfl
  have hF44 : FR 9 R (uR (zR (uR (zR (uR (zR (uR (zR R 10) 9 0 10) 11) 9 5 11) 12) 9 6 12) 13) 9 7 13) := hF42.u rfl
  refine ⟨rfl, ?_⟩
  have hB45 : BZ (zI (zI (zI (zI (uI (uI (uI (uI (zI I 10) 9 1 4) 9 2 1073741823) 9 3 0) 9 4 0) 11) 12) 13) 14) := hB37.z
  have hZ46 : KI ((9, 2, 1073741823) :: ((9, 1, 4) :: ([]))) (zI (zI (zI (zI (uI (uI (uI (uI (zI I 10) 9 1 4) 9 2 1073741823) 9 3 0) 9 4 0) 11) 12) 13) 14) := hZ38.z rfl
  have hI47 : FI 9 I (zI (zI (zI (zI (uI (uI (uI (uI (zI I 10) 9 1 4) 9 2 1073741823) 9 3 0) 9 4 0) 11) 12) 13) 14) := hI39.z rfl
  have hJ48 : FJ 9 J (zJ (zJ (zJ (zJ (zJ J 10) 11) 12) 13) 14) := hJ40.z rfl
  have hK49 : RK ((9, 7, 13) :: ((9, 6, 12) :: ((9, 5, 11) :: ((9, 0, 10) :: ([]))))) (zR (uR (zR (uR (zR (uR (zR (uR (zR R 10) 9 0 10) 11) 9 5 11) 12) 9 6 12) 13) 9 7 13) 14) := hK43.z rfl
  have hF50 : FR 9 R (zR (uR (zR (uR (zR (uR (zR (uR (zR R 10) 9 0 10) 11) 9 5 11) 12) 9 6 12) 13) 9 7 13) 14) := hF44.z rfl
  have hK51 : RK ((9, 8, 14) :: ((9, 7, 13) :: ((9, 6, 12) :: ((9, 5, 11) :: ((9, 0, 10) :: ([])))))) (uR (zR (uR (zR (uR (zR (uR (zR (uR (zR R 10) 9 0 10) 11) 9 5 11) 12) 9 6 12) 13) 9 7 13) 14) 9 8 14) := hK49.u rfl
  have hF52 : FR 9 R (uR (zR (uR (zR (uR (zR (uR (zR (uR (zR R 10) 9 0 10) 11) 9 5 11) 12) 9 6 12) 13) 9 7 13) 14) 9 8 14) := hF50.u rfl
  exact ⟨rfl, fun z => absurd z (by decide), hQ _ _ _ hB45 hF52 hK51 hI47 hZ46 hJ48 trivial⟩
noncomputable def zk_X0_init_15 : List (Nat × Nat × Int32) := []
noncomputable def lk_X0_init_15 : List (Nat × Nat × Nat) := (15, 8, 20) :: ((15, 7, 19) :: ((15, 6, 18) :: ((15, 5, 17) :: ((15, 0, 16) :: ([])))))
set_option maxHeartbeats 4000000 in
set_option maxRecDepth 100000 in
theorem ct_X0_init_15 {d : Nat} {Q : Qt} {I : Im} {J : Jm} {R : Rm} (hB : BZ I) (hQ : ∀ (I2 : Im) (J2 : Jm) (R2 : Rm), BZ I2 → FR 15 R R2 → RK lk_X0_init_15 R2 → FI 15 I I2 → KI zk_X0_init_15 I2 → FJ 15 J J2 → True → Q 0 0 I2 J2 R2) : AM (d + 1) 0 15 [.ref 15] I J R Q := by
  refine amc_of (k := kX0_init) rfl rfl rfl rfl rfl rfl (Nat.le_of_ble_eq_true rfl) (fun P hc => ?_)
  refine cs_X0_init_15_0_15 hc _ _ _ ?_
  refine ⟨rfl, ?_⟩
  have hB1 : BZ (zI I 16) := hB.z
  have hZ2 : KI ([]) (zI I 16) := (KI.nil (I := I)).z rfl
  have hI3 : FI 15 I (zI I 16) := (FI.refl 15 I).z rfl
  have hJ4 : FJ 15 J (zJ J 16) := (FJ.refl 15 J).z rfl
  have hK5 : RK ([]) (zR R 16) := (RK.nil (R := R)).z rfl
  have hF6 : FR 15 R (zR R 16) := (FR.refl 15 R).z rfl
  have hK7 : RK ((15, 0, 16) :: ([])) (uR (zR R 16) 15 0 16) := hK5.u rfl
  have hF8 : FR 15 R (uR (zR R 16) 15 0 16) := hF6.u rfl
  have hB9 : BZ (uI (zI I 16) 15 1 4) := hB1.kw rfl rfl rfl
  have hZ10 : KI ([]) (uI (zI I 16) 15 1 4) := hZ2.w rfl
  have hI11 : FI 15 I (uI (zI I 16) 15 1 4) := hI3.w rfl
  have hB12 : BZ (uI (uI (zI I 16) 15 1 4) 15 2 1073741823) := hB9.kw rfl rfl rfl
  have hZ13 : KI ([]) (uI (uI (zI I 16) 15 1 4) 15 2 1073741823) := hZ10.w rfl
  have hI14 : FI 15 I (uI (uI (zI I 16) 15 1 4) 15 2 1073741823) := hI11.w rfl
  have hB15 : BZ (uI (uI (uI (zI I 16) 15 1 4) 15 2 1073741823) 15 3 0) := hB12.kw rfl rfl rfl
  have hZ16 : KI ([]) (uI (uI (uI (zI I 16) 15 1 4) 15 2 1073741823) 15 3 0) := hZ13.w rfl
  have hI17 : FI 15 I (uI (uI (uI (zI I 16) 15 1 4) 15 2 1073741823) 15 3 0) := hI14.w rfl
  have hB18 : BZ (uI (uI (uI (uI (zI I 16) 15 1 4) 15 2 1073741823) 15 3 0) 15 4 0) := hB15.kw rfl rfl rfl
  have hZ19 : KI ([]) (uI (uI (uI (uI (zI I 16) 15 1 4) 15 2 1073741823) 15 3 0) 15 4 0) := hZ16.w rfl
  have hI20 : FI 15 I (uI (uI (uI (uI (zI I 16) 15 1 4) 15 2 1073741823) 15 3 0) 15 4 0) := hI17.w rfl
  refine ⟨rfl, ?_⟩
  have hB21 : BZ (zI (uI (uI (uI (uI (zI I 16) 15 1 4) 15 2 1073741823) 15 3 0) 15 4 0) 17) := hB18.z
  have hZ22 : KI ([]) (zI (uI (uI (uI (uI (zI I 16) 15 1 4) 15 2 1073741823) 15 3 0) 15 4 0) 17) := hZ19.z rfl
  have hI23 : FI 15 I (zI (uI (uI (uI (uI (zI I 16) 15 1 4) 15 2 1073741823) 15 3 0) 15 4 0) 17) := hI20.z rfl
  have hJ24 : FJ 15 J (zJ (zJ J 16) 17) := hJ4.z rfl
  have hK25 : RK ((15, 0, 16) :: ([])) (zR (uR (zR R 16) 15 0 16) 17) := hK7.z rfl
  have hF26 : FR 15 R (zR (uR (zR R 16) 15 0 16) 17) := hF8.z rfl
  have hK27 : RK ((15, 5, 17) :: ((15, 0, 16) :: ([]))) (uR (zR (uR (zR R 16) 15 0 16) 17) 15 5 17) := hK25.u rfl
  have hF28 : FR 15 R (uR (zR (uR (zR R 16) 15 0 16) 17) 15 5 17) := hF26.u rfl
  refine ⟨rfl, ?_⟩
  have hB29 : BZ (zI (zI (uI (uI (uI (uI (zI I 16) 15 1 4) 15 2 1073741823) 15 3 0) 15 4 0) 17) 18) := hB21.z
  have hZ30 : KI ([]) (zI (zI (uI (uI (uI (uI (zI I 16) 15 1 4) 15 2 1073741823) 15 3 0) 15 4 0) 17) 18) := hZ22.z rfl
  have hI31 : FI 15 I (zI (zI (uI (uI (uI (uI (zI I 16) 15 1 4) 15 2 1073741823) 15 3 0) 15 4 0) 17) 18) := hI23.z rfl
  have hJ32 : FJ 15 J (zJ (zJ (zJ J 16) 17) 18) := hJ24.z rfl
  have hK33 : RK ((15, 5, 17) :: ((15, 0, 16) :: ([]))) (zR (uR (zR (uR (zR R 16) 15 0 16) 17) 15 5 17) 18) := hK27.z rfl
  have hF34 : FR 15 R (zR (uR (zR (uR (zR R 16) 15 0 16) 17) 15 5 17) 18) := hF28.z rfl
  have hK35 : RK ((15, 6, 18) :: ((15, 5, 17) :: ((15, 0, 16) :: ([])))) (uR (zR (uR (zR (uR (zR R 16) 15 0 16) 17) 15 5 17) 18) 15 6 18) := hK33.u rfl
  have hF36 : FR 15 R (uR (zR (uR (zR (uR (zR R 16) 15 0 16) 17) 15 5 17) 18) 15 6 18) := hF34.u rfl
  refine ⟨rfl, ?_⟩
  have hB37 : BZ (zI (zI (zI (uI (uI (uI (uI (zI I 16) 15 1 4) 15 2 1073741823) 15 3 0) 15 4 0) 17) 18) 19) := hB29.z
  have hZ38 : KI ([]) (zI (zI (zI (uI (uI (uI (uI (zI I 16) 15 1 4) 15 2 1073741823) 15 3 0) 15 4 0) 17) 18) 19) := hZ30.z rfl
  have hI39 : FI 15 I (zI (zI (zI (uI (uI (uI (uI (zI I 16) 15 1 4) 15 2 1073741823) 15 3 0) 15 4 0) 17) 18) 19) := hI31.z rfl
  have hJ40 : FJ 15 J (zJ (zJ (zJ (zJ J 16) 17) 18) 19) := hJ32.z rfl
  have hK41 : RK ((15, 6, 18) :: ((15, 5, 17) :: ((15, 0, 16) :: ([])))) (zR (uR (zR (uR (zR (uR (zR R 16) 15 0 16) 17) 15 5 17) 18) 15 6 18) 19) := hK35.z rfl
  have hF42 : FR 15 R (zR (uR (zR (uR (zR (uR (zR R 16) 15 0 16) 17) 15 5 17) 18) 15 6 18) 19) := hF36.z rfl
  have hK43 : RK ((15, 7, 19) :: ((15, 6, 18) :: ((15, 5, 17) :: ((15, 0, 16) :: ([]))))) (uR (zR (uR (zR (uR (zR (uR (zR R 16) 15 0 16) 17) 15 5 17) 18) 15 6 18) 19) 15 7 19) := hK41.u rfl
  have hF44 : FR 15 R (uR (zR (uR (zR (uR (zR (uR (zR R 16) 15 0 16) 17) 15 5 17) 18) 15 6 18) 19) 15 7 19) := hF42.u rfl
  refine ⟨rfl, ?_⟩
  have hB45 : BZ (zI (zI (zI (zI (uI (uI (uI (uI (zI I 16) 15 1 4) 15 2 1073741823) 15 3 0) 15 4 0) 17) 18) 19) 20) := hB37.z
  have hZ46 : KI ([]) (zI (zI (zI (zI (uI (uI (uI (uI (zI I 16) 15 1 4) 15 2 1073741823) 15 3 0) 15 4 0) 17) 18) 19) 20) := hZ38.z rfl
  have hI47 : FI 15 I (zI (zI (zI (zI (uI (uI (uI (uI (zI I 16) 15 1 4) 15 2 1073741823) 15 3 0) 15 4 0) 17) 18) 19) 20) := hI39.z rfl
  have hJ48 : FJ 15 J (zJ (zJ (zJ (zJ (zJ J 16) 17) 18) 19) 20) := hJ40.z rfl
  have hK49 : RK ((15, 7, 19) :: ((15, 6, 18) :: ((15, 5, 17) :: ((15, 0, 16) :: ([]))))) (zR (uR (zR (uR (zR (uR (zR (uR (zR R 16) 15 0 16) 17) 15 5 17) 18) 15 6 18) 19) 15 7 19) 20) := hK43.z rfl
  have hF50 : FR 15 R (zR (uR (zR (uR (zR (uR (zR (uR (zR R 16) 15 0 16) 17) 15 5 17) 18) 15 6 18) 19) 15 7 19) 20) := hF44.z rfl
  have hK51 : RK ((15, 8, 20) :: ((15, 7, 19) :: ((15, 6, 18) :: ((15, 5, 17) :: ((15, 0, 16) :: ([])))))) (uR (zR (uR (zR (uR (zR (uR (zR (uR (zR R 16) 15 0 16) 17) 15 5 17) 18) 15 6 18) 19) 15 7 19) 20) 15 8 20) := hK49.u rfl
  have hF52 : FR 15 R (uR (zR (uR (zR (uR (zR (uR (zR (uR (zR R 16) 15 0 16) 17) 15 5 17) 18) 15 6 18) 19) 15 7 19) 20) 15 8 20) := hF50.u rfl
  exact ⟨rfl, fun z => absurd z (by decide), hQ _ _ _ hB45 hF52 hK51 hI47 hZ46 hJ48 trivial⟩
noncomputable def zk_X2_init_21 : List (Nat × Nat × Int32) := []
noncomputable def lk_X2_init_21 : List (Nat × Nat × Nat) := (21, 7, 26) :: ((21, 6, 25) :: ((21, 5, 24) :: ((21, 4, 23) :: ((21, 3, 22) :: ([])))))
set_option maxHeartbeats 4000000 in
set_option maxRecDepth 100000 in
theorem ct_X2_init_21 {d : Nat} {Q : Qt} {I : Im} {J : Jm} {R : Rm} (hB : BZ I) (hQ : ∀ (I2 : Im) (J2 : Jm) (R2 : Rm), BZ I2 → FR 21 R R2 → RK lk_X2_init_21 R2 → FI 21 I I2 → KI zk_X2_init_21 I2 → FJ 21 J J2 → True → Q 0 0 I2 J2 R2) : AM (d + 1) 27 21 [.ref 21] I J R Q := by
  refine amc_of (k := kX2_init) rfl rfl rfl rfl rfl rfl (Nat.le_of_ble_eq_true rfl) (fun P hc => ?_)
  refine cs_X2_init_21_0_21 hc _ _ _ ?_
  refine ⟨Or.inl rfl, ?_⟩
  have hB1 : BZ (uI I 21 0 0) := hB.kw rfl rfl rfl
  have hZ2 : KI ([]) (uI I 21 0 0) := (KI.nil (I := I)).w rfl
  have hI3 : FI 21 I (uI I 21 0 0) := (FI.refl 21 I).w rfl
  have hB4 : BZ (uI (uI I 21 0 0) 21 1 0) := hB1.kw rfl rfl rfl
  have hZ5 : KI ([]) (uI (uI I 21 0 0) 21 1 0) := hZ2.w rfl
  have hI6 : FI 21 I (uI (uI I 21 0 0) 21 1 0) := hI3.w rfl
  have hB7 : BZ (uI (uI (uI I 21 0 0) 21 1 0) 21 2 0) := hB4.kw rfl rfl rfl
  have hZ8 : KI ([]) (uI (uI (uI I 21 0 0) 21 1 0) 21 2 0) := hZ5.w rfl
  have hI9 : FI 21 I (uI (uI (uI I 21 0 0) 21 1 0) 21 2 0) := hI6.w rfl
  refine ⟨rfl, ?_⟩
  have hB10 : BZ (zI (uI (uI (uI I 21 0 0) 21 1 0) 21 2 0) 22) := hB7.z
  have hZ11 : KI ([]) (zI (uI (uI (uI I 21 0 0) 21 1 0) 21 2 0) 22) := hZ8.z rfl
  have hI12 : FI 21 I (zI (uI (uI (uI I 21 0 0) 21 1 0) 21 2 0) 22) := hI9.z rfl
  have hJ13 : FJ 21 J (zJ J 22) := (FJ.refl 21 J).z rfl
  have hK14 : RK ([]) (zR R 22) := (RK.nil (R := R)).z rfl
  have hF15 : FR 21 R (zR R 22) := (FR.refl 21 R).z rfl
  have hK16 : RK ((21, 3, 22) :: ([])) (uR (zR R 22) 21 3 22) := hK14.u rfl
  have hF17 : FR 21 R (uR (zR R 22) 21 3 22) := hF15.u rfl
  refine ⟨rfl, ?_⟩
  have hB18 : BZ (zI (zI (uI (uI (uI I 21 0 0) 21 1 0) 21 2 0) 22) 23) := hB10.z
  have hZ19 : KI ([]) (zI (zI (uI (uI (uI I 21 0 0) 21 1 0) 21 2 0) 22) 23) := hZ11.z rfl
  have hI20 : FI 21 I (zI (zI (uI (uI (uI I 21 0 0) 21 1 0) 21 2 0) 22) 23) := hI12.z rfl
  have hJ21 : FJ 21 J (zJ (zJ J 22) 23) := hJ13.z rfl
  have hK22 : RK ((21, 3, 22) :: ([])) (zR (uR (zR R 22) 21 3 22) 23) := hK16.z rfl
  have hF23 : FR 21 R (zR (uR (zR R 22) 21 3 22) 23) := hF17.z rfl
  have hK24 : RK ((21, 4, 23) :: ((21, 3, 22) :: ([]))) (uR (zR (uR (zR R 22) 21 3 22) 23) 21 4 23) := hK22.u rfl
  have hF25 : FR 21 R (uR (zR (uR (zR R 22) 21 3 22) 23) 21 4 23) := hF23.u rfl
  refine ⟨rfl, ?_⟩
  have hB26 : BZ (zI (zI (zI (uI (uI (uI I 21 0 0) 21 1 0) 21 2 0) 22) 23) 24) := hB18.z
  have hZ27 : KI ([]) (zI (zI (zI (uI (uI (uI I 21 0 0) 21 1 0) 21 2 0) 22) 23) 24) := hZ19.z rfl
  have hI28 : FI 21 I (zI (zI (zI (uI (uI (uI I 21 0 0) 21 1 0) 21 2 0) 22) 23) 24) := hI20.z rfl
  have hJ29 : FJ 21 J (zJ (zJ (zJ J 22) 23) 24) := hJ21.z rfl
  have hK30 : RK ((21, 4, 23) :: ((21, 3, 22) :: ([]))) (zR (uR (zR (uR (zR R 22) 21 3 22) 23) 21 4 23) 24) := hK24.z rfl
  have hF31 : FR 21 R (zR (uR (zR (uR (zR R 22) 21 3 22) 23) 21 4 23) 24) := hF25.z rfl
  have hK32 : RK ((21, 5, 24) :: ((21, 4, 23) :: ((21, 3, 22) :: ([])))) (uR (zR (uR (zR (uR (zR R 22) 21 3 22) 23) 21 4 23) 24) 21 5 24) := hK30.u rfl
  have hF33 : FR 21 R (uR (zR (uR (zR (uR (zR R 22) 21 3 22) 23) 21 4 23) 24) 21 5 24) := hF31.u rfl
  refine ⟨rfl, ?_⟩
  have hB34 : BZ (zI (zI (zI (zI (uI (uI (uI I 21 0 0) 21 1 0) 21 2 0) 22) 23) 24) 25) := hB26.z
  have hZ35 : KI ([]) (zI (zI (zI (zI (uI (uI (uI I 21 0 0) 21 1 0) 21 2 0) 22) 23) 24) 25) := hZ27.z rfl
  have hI36 : FI 21 I (zI (zI (zI (zI (uI (uI (uI I 21 0 0) 21 1 0) 21 2 0) 22) 23) 24) 25) := hI28.z rfl
  have hJ37 : FJ 21 J (zJ (zJ (zJ (zJ J 22) 23) 24) 25) := hJ29.z rfl
  have hK38 : RK ((21, 5, 24) :: ((21, 4, 23) :: ((21, 3, 22) :: ([])))) (zR (uR (zR (uR (zR (uR (zR R 22) 21 3 22) 23) 21 4 23) 24) 21 5 24) 25) := hK32.z rfl
  have hF39 : FR 21 R (zR (uR (zR (uR (zR (uR (zR R 22) 21 3 22) 23) 21 4 23) 24) 21 5 24) 25) := hF33.z rfl
  have hK40 : RK ((21, 6, 25) :: ((21, 5, 24) :: ((21, 4, 23) :: ((21, 3, 22) :: ([]))))) (uR (zR (uR (zR (uR (zR (uR (zR R 22) 21 3 22) 23) 21 4 23) 24) 21 5 24) 25) 21 6 25) := hK38.u rfl
  have hF41 : FR 21 R (uR (zR (uR (zR (uR (zR (uR (zR R 22) 21 3 22) 23) 21 4 23) 24) 21 5 24) 25) 21 6 25) := hF39.u rfl
  refine ⟨rfl, ?_⟩
  have hB42 : BZ (zI (zI (zI (zI (zI (uI (uI (uI I 21 0 0) 21 1 0) 21 2 0) 22) 23) 24) 25) 26) := hB34.z
  have hZ43 : KI ([]) (zI (zI (zI (zI (zI (uI (uI (uI I 21 0 0) 21 1 0) 21 2 0) 22) 23) 24) 25) 26) := hZ35.z rfl
  have hI44 : FI 21 I (zI (zI (zI (zI (zI (uI (uI (uI I 21 0 0) 21 1 0) 21 2 0) 22) 23) 24) 25) 26) := hI36.z rfl
  have hJ45 : FJ 21 J (zJ (zJ (zJ (zJ (zJ J 22) 23) 24) 25) 26) := hJ37.z rfl
  have hK46 : RK ((21, 6, 25) :: ((21, 5, 24) :: ((21, 4, 23) :: ((21, 3, 22) :: ([]))))) (zR (uR (zR (uR (zR (uR (zR (uR (zR R 22) 21 3 22) 23) 21 4 23) 24) 21 5 24) 25) 21 6 25) 26) := hK40.z rfl
  have hF47 : FR 21 R (zR (uR (zR (uR (zR (uR (zR (uR (zR R 22) 21 3 22) 23) 21 4 23) 24) 21 5 24) 25) 21 6 25) 26) := hF41.z rfl
  have hK48 : RK ((21, 7, 26) :: ((21, 6, 25) :: ((21, 5, 24) :: ((21, 4, 23) :: ((21, 3, 22) :: ([])))))) (uR (zR (uR (zR (uR (zR (uR (zR (uR (zR R 22) 21 3 22) 23) 21 4 23) 24) 21 5 24) 25) 21 6 25) 26) 21 7 26) := hK46.u rfl
  have hF49 : FR 21 R (uR (zR (uR (zR (uR (zR (uR (zR (uR (zR R 22) 21 3 22) 23) 21 4 23) 24) 21 5 24) 25) 21 6 25) 26) 21 7 26) := hF47.u rfl
  exact ⟨rfl, fun z => absurd z (by decide), hQ _ _ _ hB42 hF49 hK48 hI44 hZ43 hJ45 trivial⟩
noncomputable def zk_X2_init_27 : List (Nat × Nat × Int32) := []
noncomputable def lk_X2_init_27 : List (Nat × Nat × Nat) := (27, 7, 32) :: ((27, 6, 31) :: ((27, 5, 30) :: ((27, 4, 29) :: ((27, 3, 28) :: ([])))))
set_option maxHeartbeats 4000000 in
set_option maxRecDepth 100000 in
theorem ct_X2_init_27 {d : Nat} {Q : Qt} {I : Im} {J : Jm} {R : Rm} (hB : BZ I) (hQ : ∀ (I2 : Im) (J2 : Jm) (R2 : Rm), BZ I2 → FR 27 R R2 → RK lk_X2_init_27 R2 → FI 27 I I2 → KI zk_X2_init_27 I2 → FJ 27 J J2 → True → Q 0 0 I2 J2 R2) : AM (d + 1) 27 27 [.ref 27] I J R Q := by
  refine amc_of (k := kX2_init) rfl rfl rfl rfl rfl rfl (Nat.le_of_ble_eq_true rfl) (fun P hc => ?_)
  refine cs_X2_init_27_0_27 hc _ _ _ ?_
  refine ⟨Or.inl rfl, ?_⟩
  have hB1 : BZ (uI I 27 0 0) := hB.kw rfl rfl rfl
  have hZ2 : KI ([]) (uI I 27 0 0) := (KI.nil (I := I)).w rfl
  have hI3 : FI 27 I (uI I 27 0 0) := (FI.refl 27 I).w rfl
  have hB4 : BZ (uI (uI I 27 0 0) 27 1 0) := hB1.kw rfl rfl rfl
  have hZ5 : KI ([]) (uI (uI I 27 0 0) 27 1 0) := hZ2.w rfl
  have hI6 : FI 27 I (uI (uI I 27 0 0) 27 1 0) := hI3.w rfl
  have hB7 : BZ (uI (uI (uI I 27 0 0) 27 1 0) 27 2 0) := hB4.kw rfl rfl rfl
  have hZ8 : KI ([]) (uI (uI (uI I 27 0 0) 27 1 0) 27 2 0) := hZ5.w rfl
  have hI9 : FI 27 I (uI (uI (uI I 27 0 0) 27 1 0) 27 2 0) := hI6.w rfl
  refine ⟨rfl, ?_⟩
  have hB10 : BZ (zI (uI (uI (uI I 27 0 0) 27 1 0) 27 2 0) 28) := hB7.z
  have hZ11 : KI ([]) (zI (uI (uI (uI I 27 0 0) 27 1 0) 27 2 0) 28) := hZ8.z rfl
  have hI12 : FI 27 I (zI (uI (uI (uI I 27 0 0) 27 1 0) 27 2 0) 28) := hI9.z rfl
  have hJ13 : FJ 27 J (zJ J 28) := (FJ.refl 27 J).z rfl
  have hK14 : RK ([]) (zR R 28) := (RK.nil (R := R)).z rfl
  have hF15 : FR 27 R (zR R 28) := (FR.refl 27 R).z rfl
  have hK16 : RK ((27, 3, 28) :: ([])) (uR (zR R 28) 27 3 28) := hK14.u rfl
  have hF17 : FR 27 R (uR (zR R 28) 27 3 28) := hF15.u rfl
  refine ⟨rfl, ?_⟩
  have hB18 : BZ (zI (zI (uI (uI (uI I 27 0 0) 27 1 0) 27 2 0) 28) 29) := hB10.z
  have hZ19 : KI ([]) (zI (zI (uI (uI (uI I 27 0 0) 27 1 0) 27 2 0) 28) 29) := hZ11.z rfl
  have hI20 : FI 27 I (zI (zI (uI (uI (uI I 27 0 0) 27 1 0) 27 2 0) 28) 29) := hI12.z rfl
  have hJ21 : FJ 27 J (zJ (zJ J 28) 29) := hJ13.z rfl
  have hK22 : RK ((27, 3, 28) :: ([])) (zR (uR (zR R 28) 27 3 28) 29) := hK16.z rfl
  have hF23 : FR 27 R (zR (uR (zR R 28) 27 3 28) 29) := hF17.z rfl
  have hK24 : RK ((27, 4, 29) :: ((27, 3, 28) :: ([]))) (uR (zR (uR (zR R 28) 27 3 28) 29) 27 4 29) := hK22.u rfl
  have hF25 : FR 27 R (uR (zR (uR (zR R 28) 27 3 28) 29) 27 4 29) := hF23.u rfl
  refine ⟨rfl, ?_⟩
  have hB26 : BZ (zI (zI (zI (uI (uI (uI I 27 0 0) 27 1 0) 27 2 0) 28) 29) 30) := hB18.z
  have hZ27 : KI ([]) (zI (zI (zI (uI (uI (uI I 27 0 0) 27 1 0) 27 2 0) 28) 29) 30) := hZ19.z rfl
  have hI28 : FI 27 I (zI (zI (zI (uI (uI (uI I 27 0 0) 27 1 0) 27 2 0) 28) 29) 30) := hI20.z rfl
  have hJ29 : FJ 27 J (zJ (zJ (zJ J 28) 29) 30) := hJ21.z rfl
  have hK30 : RK ((27, 4, 29) :: ((27, 3, 28) :: ([]))) (zR (uR (zR (uR (zR R 28) 27 3 28) 29) 27 4 29) 30) := hK24.z rfl
  have hF31 : FR 27 R (zR (uR (zR (uR (zR R 28) 27 3 28) 29) 27 4 29) 30) := hF25.z rfl
  have hK32 : RK ((27, 5, 30) :: ((27, 4, 29) :: ((27, 3, 28) :: ([])))) (uR (zR (uR (zR (uR (zR R 28) 27 3 28) 29) 27 4 29) 30) 27 5 30) := hK30.u rfl
  have hF33 : FR 27 R (uR (zR (uR (zR (uR (zR R 28) 27 3 28) 29) 27 4 29) 30) 27 5 30) := hF31.u rfl
  refine ⟨rfl, ?_⟩
  have hB34 : BZ (zI (zI (zI (zI (uI (uI (uI I 27 0 0) 27 1 0) 27 2 0) 28) 29) 30) 31) := hB26.z
  have hZ35 : KI ([]) (zI (zI (zI (zI (uI (uI (uI I 27 0 0) 27 1 0) 27 2 0) 28) 29) 30) 31) := hZ27.z rfl
  have hI36 : FI 27 I (zI (zI (zI (zI (uI (uI (uI I 27 0 0) 27 1 0) 27 2 0) 28) 29) 30) 31) := hI28.z rfl
  have hJ37 : FJ 27 J (zJ (zJ (zJ (zJ J 28) 29) 30) 31) := hJ29.z rfl
  have hK38 : RK ((27, 5, 30) :: ((27, 4, 29) :: ((27, 3, 28) :: ([])))) (zR (uR (zR (uR (zR (uR (zR R 28) 27 3 28) 29) 27 4 29) 30) 27 5 30) 31) := hK32.z rfl
  have hF39 : FR 27 R (zR (uR (zR (uR (zR (uR (zR R 28) 27 3 28) 29) 27 4 29) 30) 27 5 30) 31) := hF33.z rfl
  have hK40 : RK ((27, 6, 31) :: ((27, 5, 30) :: ((27, 4, 29) :: ((27, 3, 28) :: ([]))))) (uR (zR (uR (zR (uR (zR (uR (zR R 28) 27 3 28) 29) 27 4 29) 30) 27 5 30) 31) 27 6 31) := hK38.u rfl
  have hF41 : FR 27 R (uR (zR (uR (zR (uR (zR (uR (zR R 28) 27 3 28) 29) 27 4 29) 30) 27 5 30) 31) 27 6 31) := hF39.u rfl
  refine ⟨rfl, ?_⟩
  have hB42 : BZ (zI (zI (zI (zI (zI (uI (uI (uI I 27 0 0) 27 1 0) 27 2 0) 28) 29) 30) 31) 32) := hB34.z
  have hZ43 : KI ([]) (zI (zI (zI (zI (zI (uI (uI (uI I 27 0 0) 27 1 0) 27 2 0) 28) 29) 30) 31) 32) := hZ35.z rfl
  have hI44 : FI 27 I (zI (zI (zI (zI (zI (uI (uI (uI I 27 0 0) 27 1 0) 27 2 0) 28) 29) 30) 31) 32) := hI36.z rfl
  have hJ45 : FJ 27 J (zJ (zJ (zJ (zJ (zJ J 28) 29) 30) 31) 32) := hJ37.z rfl
  have hK46 : RK ((27, 6, 31) :: ((27, 5, 30) :: ((27, 4, 29) :: ((27, 3, 28) :: ([]))))) (zR (uR (zR (uR (zR (uR (zR (uR (zR R 28) 27 3 28) 29) 27 4 29) 30) 27 5 30) 31) 27 6 31) 32) := hK40.z rfl
  have hF47 : FR 27 R (zR (uR (zR (uR (zR (uR (zR (uR (zR R 28) 27 3 28) 29) 27 4 29) 30) 27 5 30) 31) 27 6 31) 32) := hF41.z rfl
  have hK48 : RK ((27, 7, 32) :: ((27, 6, 31) :: ((27, 5, 30) :: ((27, 4, 29) :: ((27, 3, 28) :: ([])))))) (uR (zR (uR (zR (uR (zR (uR (zR (uR (zR R 28) 27 3 28) 29) 27 4 29) 30) 27 5 30) 31) 27 6 31) 32) 27 7 32) := hK46.u rfl
  have hF49 : FR 27 R (uR (zR (uR (zR (uR (zR (uR (zR (uR (zR R 28) 27 3 28) 29) 27 4 29) 30) 27 5 30) 31) 27 6 31) 32) 27 7 32) := hF47.u rfl
  exact ⟨rfl, fun z => absurd z (by decide), hQ _ _ _ hB42 hF49 hK48 hI44 hZ43 hJ45 trivial⟩
noncomputable def zk_X7_init_35 : List (Nat × Nat × Int32) := []
noncomputable def lk_X7_init_35 : List (Nat × Nat × Nat) := (35, 7, 38) :: ((35, 4, 37) :: ((35, 3, 36) :: ([])))
set_option maxHeartbeats 4000000 in
set_option maxRecDepth 100000 in
theorem ct_X7_init_35 {d : Nat} {Q : Qt} {I : Im} {J : Jm} {R : Rm} (hB : BZ I) (hQ : ∀ (I2 : Im) (J2 : Jm) (R2 : Rm), BZ I2 → FR 35 R R2 → RK lk_X7_init_35 R2 → FI 35 I I2 → KI zk_X7_init_35 I2 → FJ 35 J J2 → True → Q 0 0 I2 J2 R2) : AM (d + 1) 74 35 [.ref 35] I J R Q := by
  refine amc_of (k := kX7_init) rfl rfl rfl rfl rfl rfl (Nat.le_of_ble_eq_true rfl) (fun P hc => ?_)
  refine cs_X7_init_35_0_35 hc _ _ _ ?_
  have hB1 : BZ (uI I 35 0 0) := hB.kw rfl rfl rfl
  have hZ2 : KI ([]) (uI I 35 0 0) := (KI.nil (I := I)).w rfl
  have hI3 : FI 35 I (uI I 35 0 0) := (FI.refl 35 I).w rfl
  have hB4 : BZ (uI (uI I 35 0 0) 35 1 0) := hB1.kw rfl rfl rfl
  have hZ5 : KI ([]) (uI (uI I 35 0 0) 35 1 0) := hZ2.w rfl
  have hI6 : FI 35 I (uI (uI I 35 0 0) 35 1 0) := hI3.w rfl
  have hB7 : BZ (uI (uI (uI I 35 0 0) 35 1 0) 35 2 0) := hB4.kw rfl rfl rfl
  have hZ8 : KI ([]) (uI (uI (uI I 35 0 0) 35 1 0) 35 2 0) := hZ5.w rfl
  have hI9 : FI 35 I (uI (uI (uI I 35 0 0) 35 1 0) 35 2 0) := hI6.w rfl
  refine ⟨rfl, ?_⟩
  have hB10 : BZ (zI (uI (uI (uI I 35 0 0) 35 1 0) 35 2 0) 36) := hB7.z
  have hZ11 : KI ([]) (zI (uI (uI (uI I 35 0 0) 35 1 0) 35 2 0) 36) := hZ8.z rfl
  have hI12 : FI 35 I (zI (uI (uI (uI I 35 0 0) 35 1 0) 35 2 0) 36) := hI9.z rfl
  have hJ13 : FJ 35 J (zJ J 36) := (FJ.refl 35 J).z rfl
  have hK14 : RK ([]) (zR R 36) := (RK.nil (R := R)).z rfl
  have hF15 : FR 35 R (zR R 36) := (FR.refl 35 R).z rfl
  have hK16 : RK ((35, 3, 36) :: ([])) (uR (zR R 36) 35 3 36) := hK14.u rfl
  have hF17 : FR 35 R (uR (zR R 36) 35 3 36) := hF15.u rfl
  refine ⟨rfl, ?_⟩
  have hB18 : BZ (zI (zI (uI (uI (uI I 35 0 0) 35 1 0) 35 2 0) 36) 37) := hB10.z
  have hZ19 : KI ([]) (zI (zI (uI (uI (uI I 35 0 0) 35 1 0) 35 2 0) 36) 37) := hZ11.z rfl
  have hI20 : FI 35 I (zI (zI (uI (uI (uI I 35 0 0) 35 1 0) 35 2 0) 36) 37) := hI12.z rfl
  have hJ21 : FJ 35 J (zJ (zJ J 36) 37) := hJ13.z rfl
  have hK22 : RK ((35, 3, 36) :: ([])) (zR (uR (zR R 36) 35 3 36) 37) := hK16.z rfl
  have hF23 : FR 35 R (zR (uR (zR R 36) 35 3 36) 37) := hF17.z rfl
  have hK24 : RK ((35, 4, 37) :: ((35, 3, 36) :: ([]))) (uR (zR (uR (zR R 36) 35 3 36) 37) 35 4 37) := hK22.u rfl
  have hF25 : FR 35 R (uR (zR (uR (zR R 36) 35 3 36) 37) 35 4 37) := hF23.u rfl
  have hB26 : BZ (uI (zI (zI (uI (uI (uI I 35 0 0) 35 1 0) 35 2 0) 36) 37) 35 5 0) := hB18.kw rfl rfl rfl
  have hZ27 : KI ([]) (uI (zI (zI (uI (uI (uI I 35 0 0) 35 1 0) 35 2 0) 36) 37) 35 5 0) := hZ19.w rfl
  have hI28 : FI 35 I (uI (zI (zI (uI (uI (uI I 35 0 0) 35 1 0) 35 2 0) 36) 37) 35 5 0) := hI20.w rfl
  have hB29 : BZ (uI (uI (zI (zI (uI (uI (uI I 35 0 0) 35 1 0) 35 2 0) 36) 37) 35 5 0) 35 6 0) := hB26.kw rfl rfl rfl
  have hZ30 : KI ([]) (uI (uI (zI (zI (uI (uI (uI I 35 0 0) 35 1 0) 35 2 0) 36) 37) 35 5 0) 35 6 0) := hZ27.w rfl
  have hI31 : FI 35 I (uI (uI (zI (zI (uI (uI (uI I 35 0 0) 35 1 0) 35 2 0) 36) 37) 35 5 0) 35 6 0) := hI28.w rfl
  refine ⟨rfl, ?_⟩
  have hB32 : BZ (zI (uI (uI (zI (zI (uI (uI (uI I 35 0 0) 35 1 0) 35 2 0) 36) 37) 35 5 0) 35 6 0) 38) := hB29.z
  have hZ33 : KI ([]) (zI (uI (uI (zI (zI (uI (uI (uI I 35 0 0) 35 1 0) 35 2 0) 36) 37) 35 5 0) 35 6 0) 38) := hZ30.z rfl
  have hI34 : FI 35 I (zI (uI (uI (zI (zI (uI (uI (uI I 35 0 0) 35 1 0) 35 2 0) 36) 37) 35 5 0) 35 6 0) 38) := hI31.z rfl
  have hJ35 : FJ 35 J (zJ (zJ (zJ J 36) 37) 38) := hJ21.z rfl
  have hK36 : RK ((35, 4, 37) :: ((35, 3, 36) :: ([]))) (zR (uR (zR (uR (zR R 36) 35 3 36) 37) 35 4 37) 38) := hK24.z rfl
  have hF37 : FR 35 R (zR (uR (zR (uR (zR R 36) 35 3 36) 37) 35 4 37) 38) := hF25.z rfl
  have hK38 : RK ((35, 7, 38) :: ((35, 4, 37) :: ((35, 3, 36) :: ([])))) (uR (zR (uR (zR (uR (zR R 36) 35 3 36) 37) 35 4 37) 38) 35 7 38) := hK36.u rfl
  have hF39 : FR 35 R (uR (zR (uR (zR (uR (zR R 36) 35 3 36) 37) 35 4 37) 38) 35 7 38) := hF37.u rfl
  exact ⟨rfl, fun z => absurd z (by decide), hQ _ _ _ hB32 hF39 hK38 hI34 hZ33 hJ35 trivial⟩
noncomputable def zk_X8_init_39 : List (Nat × Nat × Int32) := []
noncomputable def lk_X8_init_39 : List (Nat × Nat × Nat) := (39, 1, 41) :: ((39, 0, 40) :: ([]))
set_option maxHeartbeats 4000000 in
set_option maxRecDepth 100000 in
theorem ct_X8_init_39 {d : Nat} {Q : Qt} {I : Im} {J : Jm} {R : Rm} (hB : BZ I) (hQ : ∀ (I2 : Im) (J2 : Jm) (R2 : Rm), BZ I2 → FR 39 R R2 → RK lk_X8_init_39 R2 → FI 39 I I2 → KI zk_X8_init_39 I2 → FJ 39 J J2 → True → Q 0 0 I2 J2 R2) : AM (d + 1) 85 39 [.ref 39] I J R Q := by
  refine amc_of (k := kX8_init) rfl rfl rfl rfl rfl rfl (Nat.le_of_ble_eq_true rfl) (fun P hc => ?_)
  refine cs_X8_init_39_0_39 hc _ _ _ ?_
  refine ⟨rfl, ?_⟩
  have hB1 : BZ (zI I 40) := hB.z
  have hZ2 : KI ([]) (zI I 40) := (KI.nil (I := I)).z rfl
  have hI3 : FI 39 I (zI I 40) := (FI.refl 39 I).z rfl
  have hJ4 : FJ 39 J (zJ J 40) := (FJ.refl 39 J).z rfl
  have hK5 : RK ([]) (zR R 40) := (RK.nil (R := R)).z rfl
  have hF6 : FR 39 R (zR R 40) := (FR.refl 39 R).z rfl
  have hK7 : RK ((39, 0, 40) :: ([])) (uR (zR R 40) 39 0 40) := hK5.u rfl
  have hF8 : FR 39 R (uR (zR R 40) 39 0 40) := hF6.u rfl
  refine ⟨rfl, ?_⟩
  have hB9 : BZ (zI (zI I 40) 41) := hB1.z
  have hZ10 : KI ([]) (zI (zI I 40) 41) := hZ2.z rfl
  have hI11 : FI 39 I (zI (zI I 40) 41) := hI3.z rfl
  have hJ12 : FJ 39 J (zJ (zJ J 40) 41) := hJ4.z rfl
  have hK13 : RK ((39, 0, 40) :: ([])) (zR (uR (zR R 40) 39 0 40) 41) := hK7.z rfl
  have hF14 : FR 39 R (zR (uR (zR R 40) 39 0 40) 41) := hF8.z rfl
  have hK15 : RK ((39, 1, 41) :: ((39, 0, 40) :: ([]))) (uR (zR (uR (zR R 40) 39 0 40) 41) 39 1 41) := hK13.u rfl
  have hF16 : FR 39 R (uR (zR (uR (zR R 40) 39 0 40) 41) 39 1 41) := hF14.u rfl
  have hB17 : BZ (uI (zI (zI I 40) 41) 39 2 0) := hB9.kw rfl rfl rfl
  have hZ18 : KI ([]) (uI (zI (zI I 40) 41) 39 2 0) := hZ10.w rfl
  have hI19 : FI 39 I (uI (zI (zI I 40) 41) 39 2 0) := hI11.w rfl
  exact ⟨rfl, fun z => absurd z (by decide), hQ _ _ _ hB17 hF16 hK15 hI19 hZ18 hJ12 trivial⟩
noncomputable def zk_X5_init_42 : List (Nat × Nat × Int32) := []
noncomputable def lk_X5_init_42 : List (Nat × Nat × Nat) := (42, 1, 44) :: ((42, 0, 43) :: ([]))
set_option maxHeartbeats 4000000 in
set_option maxRecDepth 100000 in
theorem ct_X5_init_42 {d : Nat} {Q : Qt} {I : Im} {J : Jm} {R : Rm} (hB : BZ I) (hQ : ∀ (I2 : Im) (J2 : Jm) (R2 : Rm), BZ I2 → FR 42 R R2 → RK lk_X5_init_42 R2 → FI 42 I I2 → KI zk_X5_init_42 I2 → FJ 42 J J2 → True → Q 0 0 I2 J2 R2) : AM (d + 1) 53 42 [.ref 42] I J R Q := by
  refine amc_of (k := kX5_init) rfl rfl rfl rfl rfl rfl (Nat.le_of_ble_eq_true rfl) (fun P hc => ?_)
  refine cs_X5_init_42_0_42 hc _ _ _ ?_
  refine ⟨rfl, ?_⟩
  have hB1 : BZ (zI I 43) := hB.z
  have hZ2 : KI ([]) (zI I 43) := (KI.nil (I := I)).z rfl
  have hI3 : FI 42 I (zI I 43) := (FI.refl 42 I).z rfl
  have hJ4 : FJ 42 J (zJ J 43) := (FJ.refl 42 J).z rfl
  have hK5 : RK ([]) (zR R 43) := (RK.nil (R := R)).z rfl
  have hF6 : FR 42 R (zR R 43) := (FR.refl 42 R).z rfl
  have hK7 : RK ((42, 0, 43) :: ([])) (uR (zR R 43) 42 0 43) := hK5.u rfl
  have hF8 : FR 42 R (uR (zR R 43) 42 0 43) := hF6.u rfl
  refine ⟨rfl, ?_⟩
  have hB9 : BZ (zI (zI I 43) 44) := hB1.z
  have hZ10 : KI ([]) (zI (zI I 43) 44) := hZ2.z rfl
  have hI11 : FI 42 I (zI (zI I 43) 44) := hI3.z rfl
  have hJ12 : FJ 42 J (zJ (zJ J 43) 44) := hJ4.z rfl
  have hK13 : RK ((42, 0, 43) :: ([])) (zR (uR (zR R 43) 42 0 43) 44) := hK7.z rfl
  have hF14 : FR 42 R (zR (uR (zR R 43) 42 0 43) 44) := hF8.z rfl
  have hK15 : RK ((42, 1, 44) :: ((42, 0, 43) :: ([]))) (uR (zR (uR (zR R 43) 42 0 43) 44) 42 1 44) := hK13.u rfl
  have hF16 : FR 42 R (uR (zR (uR (zR R 43) 42 0 43) 44) 42 1 44) := hF14.u rfl
  have hB17 : BZ (uI (zI (zI I 43) 44) 42 2 0) := hB9.kw rfl rfl rfl
  have hZ18 : KI ([]) (uI (zI (zI I 43) 44) 42 2 0) := hZ10.w rfl
  have hI19 : FI 42 I (uI (zI (zI I 43) 44) 42 2 0) := hI11.w rfl
  exact ⟨rfl, fun z => absurd z (by decide), hQ _ _ _ hB17 hF16 hK15 hI19 hZ18 hJ12 trivial⟩
noncomputable def zk_X9_init_45 : List (Nat × Nat × Int32) := []
noncomputable def lk_X9_init_45 : List (Nat × Nat × Nat) := (45, 3, 48) :: ((45, 2, 47) :: ((45, 0, 46) :: ([])))
set_option maxHeartbeats 4000000 in
set_option maxRecDepth 100000 in
theorem ct_X9_init_45 {d : Nat} {Q : Qt} {I : Im} {J : Jm} {R : Rm} (hB : BZ I) (hQ : ∀ (I2 : Im) (J2 : Jm) (R2 : Rm), BZ I2 → FR 45 R R2 → RK lk_X9_init_45 R2 → FI 45 I I2 → KI zk_X9_init_45 I2 → FJ 45 J J2 → J2 47 0 = 0 → Q 0 0 I2 J2 R2) : AM (d + 1) 88 45 [.ref 45] I J R Q := by
  refine amc_of (k := kX9_init) rfl rfl rfl rfl rfl rfl (Nat.le_of_ble_eq_true rfl) (fun P hc => ?_)
  refine cs_X9_init_45_0_45 hc _ _ _ ?_
  refine ⟨rfl, ?_⟩
  have hB1 : BZ (zI I 46) := hB.z
  have hZ2 : KI ([]) (zI I 46) := (KI.nil (I := I)).z rfl
  have hI3 : FI 45 I (zI I 46) := (FI.refl 45 I).z rfl
  have hJ4 : FJ 45 J (zJ J 46) := (FJ.refl 45 J).z rfl
  have hK5 : RK ([]) (zR R 46) := (RK.nil (R := R)).z rfl
  have hF6 : FR 45 R (zR R 46) := (FR.refl 45 R).z rfl
  have hK7 : RK ((45, 0, 46) :: ([])) (uR (zR R 46) 45 0 46) := hK5.u rfl
  have hF8 : FR 45 R (uR (zR R 46) 45 0 46) := hF6.u rfl
  have hB9 : BZ (uI (zI I 46) 45 1 0) := hB1.kw rfl rfl rfl
  have hZ10 : KI ([]) (uI (zI I 46) 45 1 0) := hZ2.w rfl
  have hI11 : FI 45 I (uI (zI I 46) 45 1 0) := hI3.w rfl
  refine ⟨rfl, ?_⟩
  have hB12 : BZ (zI (uI (zI I 46) 45 1 0) 47) := hB9.z
  have hZ13 : KI ([]) (zI (uI (zI I 46) 45 1 0) 47) := hZ10.z rfl
  have hI14 : FI 45 I (zI (uI (zI I 46) 45 1 0) 47) := hI11.z rfl
  have hJ15 : FJ 45 J (zJ (zJ J 46) 47) := hJ4.z rfl
  have jz16 : (zJ (zJ J 46) 47) 47 0 = 0 := rfl
  have hK17 : RK ((45, 0, 46) :: ([])) (zR (uR (zR R 46) 45 0 46) 47) := hK7.z rfl
  have hF18 : FR 45 R (zR (uR (zR R 46) 45 0 46) 47) := hF8.z rfl
  have hK19 : RK ((45, 2, 47) :: ((45, 0, 46) :: ([]))) (uR (zR (uR (zR R 46) 45 0 46) 47) 45 2 47) := hK17.u rfl
  have hF20 : FR 45 R (uR (zR (uR (zR R 46) 45 0 46) 47) 45 2 47) := hF18.u rfl
  refine ⟨rfl, ?_⟩
  have hB21 : BZ (zI (zI (uI (zI I 46) 45 1 0) 47) 48) := hB12.z
  have hZ22 : KI ([]) (zI (zI (uI (zI I 46) 45 1 0) 47) 48) := hZ13.z rfl
  have hI23 : FI 45 I (zI (zI (uI (zI I 46) 45 1 0) 47) 48) := hI14.z rfl
  have hJ24 : FJ 45 J (zJ (zJ (zJ J 46) 47) 48) := hJ15.z rfl
  have jz25 : (zJ (zJ (zJ J 46) 47) 48) 47 0 = 0 := JZ.z jz16 rfl
  have hK26 : RK ((45, 2, 47) :: ((45, 0, 46) :: ([]))) (zR (uR (zR (uR (zR R 46) 45 0 46) 47) 45 2 47) 48) := hK19.z rfl
  have hF27 : FR 45 R (zR (uR (zR (uR (zR R 46) 45 0 46) 47) 45 2 47) 48) := hF20.z rfl
  have hK28 : RK ((45, 3, 48) :: ((45, 2, 47) :: ((45, 0, 46) :: ([])))) (uR (zR (uR (zR (uR (zR R 46) 45 0 46) 47) 45 2 47) 48) 45 3 48) := hK26.u rfl
  have hF29 : FR 45 R (uR (zR (uR (zR (uR (zR R 46) 45 0 46) 47) 45 2 47) 48) 45 3 48) := hF27.u rfl
  exact ⟨rfl, fun z => absurd z (by decide), hQ _ _ _ hB21 hF29 hK28 hI23 hZ22 hJ24 jz25⟩
noncomputable def zk_X4_init_49 : List (Nat × Nat × Int32) := []
noncomputable def lk_X4_init_49 : List (Nat × Nat × Nat) := (49, 8, 50) :: ([])
set_option maxHeartbeats 4000000 in
set_option maxRecDepth 100000 in
theorem ct_X4_init_49 {d : Nat} {Q : Qt} {I : Im} {J : Jm} {R : Rm} (hB : BZ I) (hQ : ∀ (I2 : Im) (J2 : Jm) (R2 : Rm), BZ I2 → FR 49 R R2 → RK lk_X4_init_49 R2 → FI 49 I I2 → KI zk_X4_init_49 I2 → FJ 49 J J2 → True → Q 0 0 I2 J2 R2) : AM (d + 1) 40 49 [.ref 49] I J R Q := by
  refine amc_of (k := kX4_init) rfl rfl rfl rfl rfl rfl (Nat.le_of_ble_eq_true rfl) (fun P hc => ?_)
  refine cs_X4_init_49_0_49 hc _ _ _ ?_
  refine ⟨Or.inl rfl, ?_⟩
  have hB1 : BZ (uI I 49 0 0) := hB.kw rfl rfl rfl
  have hZ2 : KI ([]) (uI I 49 0 0) := (KI.nil (I := I)).w rfl
  have hI3 : FI 49 I (uI I 49 0 0) := (FI.refl 49 I).w rfl
  have hB4 : BZ (uI (uI I 49 0 0) 49 1 0) := hB1.kw rfl rfl rfl
  have hZ5 : KI ([]) (uI (uI I 49 0 0) 49 1 0) := hZ2.w rfl
  have hI6 : FI 49 I (uI (uI I 49 0 0) 49 1 0) := hI3.w rfl
  have hB7 : BZ (uI (uI (uI I 49 0 0) 49 1 0) 49 2 0) := hB4.kw rfl rfl rfl
  have hZ8 : KI ([]) (uI (uI (uI I 49 0 0) 49 1 0) 49 2 0) := hZ5.w rfl
  have hI9 : FI 49 I (uI (uI (uI I 49 0 0) 49 1 0) 49 2 0) := hI6.w rfl
  have hB10 : BZ (uI (uI (uI (uI I 49 0 0) 49 1 0) 49 2 0) 49 3 0) := hB7.kw rfl rfl rfl
  have hZ11 : KI ([]) (uI (uI (uI (uI I 49 0 0) 49 1 0) 49 2 0) 49 3 0) := hZ8.w rfl
  have hI12 : FI 49 I (uI (uI (uI (uI I 49 0 0) 49 1 0) 49 2 0) 49 3 0) := hI9.w rfl
  have hB13 : BZ (uI (uI (uI (uI (uI I 49 0 0) 49 1 0) 49 2 0) 49 3 0) 49 4 0) := hB10.kw rfl rfl rfl
  have hZ14 : KI ([]) (uI (uI (uI (uI (uI I 49 0 0) 49 1 0) 49 2 0) 49 3 0) 49 4 0) := hZ11.w rfl
  have hI15 : FI 49 I (uI (uI (uI (uI (uI I 49 0 0) 49 1 0) 49 2 0) 49 3 0) 49 4 0) := hI12.w rfl
  have hB16 : BZ (uI (uI (uI (uI (uI (uI I 49 0 0) 49 1 0) 49 2 0) 49 3 0) 49 4 0) 49 5 0) := hB13.kw rfl rfl rfl
  have hZ17 : KI ([]) (uI (uI (uI (uI (uI (uI I 49 0 0) 49 1 0) 49 2 0) 49 3 0) 49 4 0) 49 5 0) := hZ14.w rfl
  have hI18 : FI 49 I (uI (uI (uI (uI (uI (uI I 49 0 0) 49 1 0) 49 2 0) 49 3 0) 49 4 0) 49 5 0) := hI15.w rfl
  have hB19 : BZ (uI (uI (uI (uI (uI (uI (uI I 49 0 0) 49 1 0) 49 2 0) 49 3 0) 49 4 0) 49 5 0) 49 6 0) := hB16.kw rfl rfl rfl
  have hZ20 : KI ([]) (uI (uI (uI (uI (uI (uI (uI I 49 0 0) 49 1 0) 49 2 0) 49 3 0) 49 4 0) 49 5 0) 49 6 0) := hZ17.w rfl
  have hI21 : FI 49 I (uI (uI (uI (uI (uI (uI (uI I 49 0 0) 49 1 0) 49 2 0) 49 3 0) 49 4 0) 49 5 0) 49 6 0) := hI18.w rfl
  have hB22 : BZ (uI (uI (uI (uI (uI (uI (uI (uI I 49 0 0) 49 1 0) 49 2 0) 49 3 0) 49 4 0) 49 5 0) 49 6 0) 49 7 0) := hB19.kw rfl rfl rfl
  have hZ23 : KI ([]) (uI (uI (uI (uI (uI (uI (uI (uI I 49 0 0) 49 1 0) 49 2 0) 49 3 0) 49 4 0) 49 5 0) 49 6 0) 49 7 0) := hZ20.w rfl
  have hI24 : FI 49 I (uI (uI (uI (uI (uI (uI (uI (uI I 49 0 0) 49 1 0) 49 2 0) 49 3 0) 49 4 0) 49 5 0) 49 6 0) 49 7 0) := hI21.w rfl
  refine ⟨rfl, ?_⟩
  have hB25 : BZ (zI (uI (uI (uI (uI (uI (uI (uI (uI I 49 0 0) 49 1 0) 49 2 0) 49 3 0) 49 4 0) 49 5 0) 49 6 0) 49 7 0) 50) := hB22.z
  have hZ26 : KI ([]) (zI (uI (uI (uI (uI (uI (uI (uI (uI I 49 0 0) 49 1 0) 49 2 0) 49 3 0) 49 4 0) 49 5 0) 49 6 0) 49 7 0) 50) := hZ23.z rfl
  have hI27 : FI 49 I (zI (uI (uI (uI (uI (uI (uI (uI (uI I 49 0 0) 49 1 0) 49 2 0) 49 3 0) 49 4 0) 49 5 0) 49 6 0) 49 7 0) 50) := hI24.z rfl
  have hJ28 : FJ 49 J (zJ J 50) := (FJ.refl 49 J).z rfl
  have hK29 : RK ([]) (zR R 50) := (RK.nil (R := R)).z rfl
  have hF30 : FR 49 R (zR R 50) := (FR.refl 49 R).z rfl
  have hK31 : RK ((49, 8, 50) :: ([])) (uR (zR R 50) 49 8 50) := hK29.u rfl
  have hF32 : FR 49 R (uR (zR R 50) 49 8 50) := hF30.u rfl
  exact ⟨rfl, fun z => absurd z (by decide), hQ _ _ _ hB25 hF32 hK31 hI27 hZ26 hJ28 trivial⟩
noncomputable def zk_X4_init_51 : List (Nat × Nat × Int32) := []
noncomputable def lk_X4_init_51 : List (Nat × Nat × Nat) := (51, 8, 52) :: ([])
set_option maxHeartbeats 4000000 in
set_option maxRecDepth 100000 in
theorem ct_X4_init_51 {d : Nat} {Q : Qt} {I : Im} {J : Jm} {R : Rm} (hB : BZ I) (hQ : ∀ (I2 : Im) (J2 : Jm) (R2 : Rm), BZ I2 → FR 51 R R2 → RK lk_X4_init_51 R2 → FI 51 I I2 → KI zk_X4_init_51 I2 → FJ 51 J J2 → True → Q 0 0 I2 J2 R2) : AM (d + 1) 40 51 [.ref 51] I J R Q := by
  refine amc_of (k := kX4_init) rfl rfl rfl rfl rfl rfl (Nat.le_of_ble_eq_true rfl) (fun P hc => ?_)
  refine cs_X4_init_51_0_51 hc _ _ _ ?_
  refine ⟨Or.inl rfl, ?_⟩
  have hB1 : BZ (uI I 51 0 0) := hB.kw rfl rfl rfl
  have hZ2 : KI ([]) (uI I 51 0 0) := (KI.nil (I := I)).w rfl
  have hI3 : FI 51 I (uI I 51 0 0) := (FI.refl 51 I).w rfl
  have hB4 : BZ (uI (uI I 51 0 0) 51 1 0) := hB1.kw rfl rfl rfl
  have hZ5 : KI ([]) (uI (uI I 51 0 0) 51 1 0) := hZ2.w rfl
  have hI6 : FI 51 I (uI (uI I 51 0 0) 51 1 0) := hI3.w rfl
  have hB7 : BZ (uI (uI (uI I 51 0 0) 51 1 0) 51 2 0) := hB4.kw rfl rfl rfl
  have hZ8 : KI ([]) (uI (uI (uI I 51 0 0) 51 1 0) 51 2 0) := hZ5.w rfl
  have hI9 : FI 51 I (uI (uI (uI I 51 0 0) 51 1 0) 51 2 0) := hI6.w rfl
  have hB10 : BZ (uI (uI (uI (uI I 51 0 0) 51 1 0) 51 2 0) 51 3 0) := hB7.kw rfl rfl rfl
  have hZ11 : KI ([]) (uI (uI (uI (uI I 51 0 0) 51 1 0) 51 2 0) 51 3 0) := hZ8.w rfl
  have hI12 : FI 51 I (uI (uI (uI (uI I 51 0 0) 51 1 0) 51 2 0) 51 3 0) := hI9.w rfl
  have hB13 : BZ (uI (uI (uI (uI (uI I 51 0 0) 51 1 0) 51 2 0) 51 3 0) 51 4 0) := hB10.kw rfl rfl rfl
  have hZ14 : KI ([]) (uI (uI (uI (uI (uI I 51 0 0) 51 1 0) 51 2 0) 51 3 0) 51 4 0) := hZ11.w rfl
  have hI15 : FI 51 I (uI (uI (uI (uI (uI I 51 0 0) 51 1 0) 51 2 0) 51 3 0) 51 4 0) := hI12.w rfl
  have hB16 : BZ (uI (uI (uI (uI (uI (uI I 51 0 0) 51 1 0) 51 2 0) 51 3 0) 51 4 0) 51 5 0) := hB13.kw rfl rfl rfl
  have hZ17 : KI ([]) (uI (uI (uI (uI (uI (uI I 51 0 0) 51 1 0) 51 2 0) 51 3 0) 51 4 0) 51 5 0) := hZ14.w rfl
  have hI18 : FI 51 I (uI (uI (uI (uI (uI (uI I 51 0 0) 51 1 0) 51 2 0) 51 3 0) 51 4 0) 51 5 0) := hI15.w rfl
  have hB19 : BZ (uI (uI (uI (uI (uI (uI (uI I 51 0 0) 51 1 0) 51 2 0) 51 3 0) 51 4 0) 51 5 0) 51 6 0) := hB16.kw rfl rfl rfl
  have hZ20 : KI ([]) (uI (uI (uI (uI (uI (uI (uI I 51 0 0) 51 1 0) 51 2 0) 51 3 0) 51 4 0) 51 5 0) 51 6 0) := hZ17.w rfl
  have hI21 : FI 51 I (uI (uI (uI (uI (uI (uI (uI I 51 0 0) 51 1 0) 51 2 0) 51 3 0) 51 4 0) 51 5 0) 51 6 0) := hI18.w rfl
  have hB22 : BZ (uI (uI (uI (uI (uI (uI (uI (uI I 51 0 0) 51 1 0) 51 2 0) 51 3 0) 51 4 0) 51 5 0) 51 6 0) 51 7 0) := hB19.kw rfl rfl rfl
  have hZ23 : KI ([]) (uI (uI (uI (uI (uI (uI (uI (uI I 51 0 0) 51 1 0) 51 2 0) 51 3 0) 51 4 0) 51 5 0) 51 6 0) 51 7 0) := hZ20.w rfl
  have hI24 : FI 51 I (uI (uI (uI (uI (uI (uI (uI (uI I 51 0 0) 51 1 0) 51 2 0) 51 3 0) 51 4 0) 51 5 0) 51 6 0) 51 7 0) := hI21.w rfl
  refine ⟨rfl, ?_⟩
  have hB25 : BZ (zI (uI (uI (uI (uI (uI (uI (uI (uI I 51 0 0) 51 1 0) 51 2 0) 51 3 0) 51 4 0) 51 5 0) 51 6 0) 51 7 0) 52) := hB22.z
  have hZ26 : KI ([]) (zI (uI (uI (uI (uI (uI (uI (uI (uI I 51 0 0) 51 1 0) 51 2 0) 51 3 0) 51 4 0) 51 5 0) 51 6 0) 51 7 0) 52) := hZ23.z rfl
  have hI27 : FI 51 I (zI (uI (uI (uI (uI (uI (uI (uI (uI I 51 0 0) 51 1 0) 51 2 0) 51 3 0) 51 4 0) 51 5 0) 51 6 0) 51 7 0) 52) := hI24.z rfl
  have hJ28 : FJ 51 J (zJ J 52) := (FJ.refl 51 J).z rfl
  have hK29 : RK ([]) (zR R 52) := (RK.nil (R := R)).z rfl
  have hF30 : FR 51 R (zR R 52) := (FR.refl 51 R).z rfl
  have hK31 : RK ((51, 8, 52) :: ([])) (uR (zR R 52) 51 8 52) := hK29.u rfl
  have hF32 : FR 51 R (uR (zR R 52) 51 8 52) := hF30.u rfl
  exact ⟨rfl, fun z => absurd z (by decide), hQ _ _ _ hB25 hF32 hK31 hI27 hZ26 hJ28 trivial⟩
noncomputable def zk_X10_init_53 : List (Nat × Nat × Int32) := (53, 1, -1) :: ([])
noncomputable def lk_X10_init_53 : List (Nat × Nat × Nat) := (53, 2, 54) :: ([])
set_option maxHeartbeats 4000000 in
set_option maxRecDepth 100000 in
theorem ct_X10_init_53 {d : Nat} {Q : Qt} {I : Im} {J : Jm} {R : Rm} (hB : BZ I) (hQ : ∀ (I2 : Im) (J2 : Jm) (R2 : Rm), BZ I2 → FR 53 R R2 → RK lk_X10_init_53 R2 → FI 53 I I2 → KI zk_X10_init_53 I2 → FJ 53 J J2 → True → Q 0 0 I2 J2 R2) : AM (d + 1) 94 53 [.ref 53] I J R Q := by
  refine amc_of (k := kX10_init) rfl rfl rfl rfl rfl rfl (Nat.le_of_ble_eq_true rfl) (fun P hc => ?_)
  refine cs_X10_init_53_0_53 hc _ _ _ ?_
  have hB1 : BZ (uI I 53 0 0) := hB.kw rfl rfl rfl
  have hZ2 : KI ([]) (uI I 53 0 0) := (KI.nil (I := I)).w rfl
  have hI3 : FI 53 I (uI I 53 0 0) := (FI.refl 53 I).w rfl
  have hB4 : BZ (uI (uI I 53 0 0) 53 1 (-1)) := hB1.kw rfl rfl rfl
  have hZ5 : KI ((53, 1, -1) :: ([])) (uI (uI I 53 0 0) 53 1 (-1)) := hZ2.u rfl
  have hI6 : FI 53 I (uI (uI I 53 0 0) 53 1 (-1)) := hI3.w rfl
  refine ⟨rfl, ?_⟩
  have hB7 : BZ (zI (uI (uI I 53 0 0) 53 1 (-1)) 54) := hB4.z
  have hZ8 : KI ((53, 1, -1) :: ([])) (zI (uI (uI I 53 0 0) 53 1 (-1)) 54) := hZ5.z rfl
  have hI9 : FI 53 I (zI (uI (uI I 53 0 0) 53 1 (-1)) 54) := hI6.z rfl
  have hJ10 : FJ 53 J (zJ J 54) := (FJ.refl 53 J).z rfl
  have hK11 : RK ([]) (zR R 54) := (RK.nil (R := R)).z rfl
  have hF12 : FR 53 R (zR R 54) := (FR.refl 53 R).z rfl
  have hK13 : RK ((53, 2, 54) :: ([])) (uR (zR R 54) 53 2 54) := hK11.u rfl
  have hF14 : FR 53 R (uR (zR R 54) 53 2 54) := hF12.u rfl
  exact ⟨rfl, fun z => absurd z (by decide), hQ _ _ _ hB7 hF14 hK13 hI9 hZ8 hJ10 trivial⟩
noncomputable def zk_X10_init_55 : List (Nat × Nat × Int32) := (55, 1, -1) :: ([])
noncomputable def lk_X10_init_55 : List (Nat × Nat × Nat) := (55, 2, 56) :: ([])
set_option maxHeartbeats 4000000 in
set_option maxRecDepth 100000 in
theorem ct_X10_init_55 {d : Nat} {Q : Qt} {I : Im} {J : Jm} {R : Rm} (hB : BZ I) (hQ : ∀ (I2 : Im) (J2 : Jm) (R2 : Rm), BZ I2 → FR 55 R R2 → RK lk_X10_init_55 R2 → FI 55 I I2 → KI zk_X10_init_55 I2 → FJ 55 J J2 → True → Q 0 0 I2 J2 R2) : AM (d + 1) 94 55 [.ref 55] I J R Q := by
  refine amc_of (k := kX10_init) rfl rfl rfl rfl rfl rfl (Nat.le_of_ble_eq_true rfl) (fun P hc => ?_)
  refine cs_X10_init_55_0_55 hc _ _ _ ?_
  have hB1 : BZ (uI I 55 0 0) := hB.kw rfl rfl rfl
  have hZ2 : KI ([]) (uI I 55 0 0) := (KI.nil (I := I)).w rfl
  have hI3 : FI 55 I (uI I 55 0 0) := (FI.refl 55 I).w rfl
  have hB4 : BZ (uI (uI I 55 0 0) 55 1 (-1)) := hB1.kw rfl rfl rfl
  have hZ5 : KI ((55, 1, -1) :: ([])) (uI (uI I 55 0 0) 55 1 (-1)) := hZ2.u rfl
  have hI6 : FI 55 I (uI (uI I 55 0 0) 55 1 (-1)) := hI3.w rfl
  refine ⟨rfl, ?_⟩
  have hB7 : BZ (zI (uI (uI I 55 0 0) 55 1 (-1)) 56) := hB4.z
  have hZ8 : KI ((55, 1, -1) :: ([])) (zI (uI (uI I 55 0 0) 55 1 (-1)) 56) := hZ5.z rfl
  have hI9 : FI 55 I (zI (uI (uI I 55 0 0) 55 1 (-1)) 56) := hI6.z rfl
  have hJ10 : FJ 55 J (zJ J 56) := (FJ.refl 55 J).z rfl
  have hK11 : RK ([]) (zR R 56) := (RK.nil (R := R)).z rfl
  have hF12 : FR 55 R (zR R 56) := (FR.refl 55 R).z rfl
  have hK13 : RK ((55, 2, 56) :: ([])) (uR (zR R 56) 55 2 56) := hK11.u rfl
  have hF14 : FR 55 R (uR (zR R 56) 55 2 56) := hF12.u rfl
  exact ⟨rfl, fun z => absurd z (by decide), hQ _ _ _ hB7 hF14 hK13 hI9 hZ8 hJ10 trivial⟩
noncomputable def zk_X10_init_57 : List (Nat × Nat × Int32) := (57, 1, -1) :: ([])
noncomputable def lk_X10_init_57 : List (Nat × Nat × Nat) := (57, 2, 58) :: ([])
set_option maxHeartbeats 4000000 in
set_option maxRecDepth 100000 in
theorem ct_X10_init_57 {d : Nat} {Q : Qt} {I : Im} {J : Jm} {R : Rm} (hB : BZ I) (hQ : ∀ (I2 : Im) (J2 : Jm) (R2 : Rm), BZ I2 → FR 57 R R2 → RK lk_X10_init_57 R2 → FI 57 I I2 → KI zk_X10_init_57 I2 → FJ 57 J J2 → True → Q 0 0 I2 J2 R2) : AM (d + 1) 94 57 [.ref 57] I J R Q := by
  refine amc_of (k := kX10_init) rfl rfl rfl rfl rfl rfl (Nat.le_of_ble_eq_true rfl) (fun P hc => ?_)
  refine cs_X10_init_57_0_57 hc _ _ _ ?_
  have hB1 : BZ (uI I 57 0 0) := hB.kw rfl rfl rfl
  have hZ2 : KI ([]) (uI I 57 0 0) := (KI.nil (I := I)).w rfl
  have hI3 : FI 57 I (uI I 57 0 0) := (FI.refl 57 I).w rfl
  have hB4 : BZ (uI (uI I 57 0 0) 57 1 (-1)) := hB1.kw rfl rfl rfl
  have hZ5 : KI ((57, 1, -1) :: ([])) (uI (uI I 57 0 0) 57 1 (-1)) := hZ2.u rfl
  have hI6 : FI 57 I (uI (uI I 57 0 0) 57 1 (-1)) := hI3.w rfl
  refine ⟨rfl, ?_⟩
  have hB7 : BZ (zI (uI (uI I 57 0 0) 57 1 (-1)) 58) := hB4.z
  have hZ8 : KI ((57, 1, -1) :: ([])) (zI (uI (uI I 57 0 0) 57 1 (-1)) 58) := hZ5.z rfl
  have hI9 : FI 57 I (zI (uI (uI I 57 0 0) 57 1 (-1)) 58) := hI6.z rfl
  have hJ10 : FJ 57 J (zJ J 58) := (FJ.refl 57 J).z rfl
  have hK11 : RK ([]) (zR R 58) := (RK.nil (R := R)).z rfl
  have hF12 : FR 57 R (zR R 58) := (FR.refl 57 R).z rfl
  have hK13 : RK ((57, 2, 58) :: ([])) (uR (zR R 58) 57 2 58) := hK11.u rfl
  have hF14 : FR 57 R (uR (zR R 58) 57 2 58) := hF12.u rfl
  exact ⟨rfl, fun z => absurd z (by decide), hQ _ _ _ hB7 hF14 hK13 hI9 hZ8 hJ10 trivial⟩
noncomputable def zk_X10_init_59 : List (Nat × Nat × Int32) := (59, 1, -1) :: ([])
noncomputable def lk_X10_init_59 : List (Nat × Nat × Nat) := (59, 2, 60) :: ([])
set_option maxHeartbeats 4000000 in
set_option maxRecDepth 100000 in
theorem ct_X10_init_59 {d : Nat} {Q : Qt} {I : Im} {J : Jm} {R : Rm} (hB : BZ I) (hQ : ∀ (I2 : Im) (J2 : Jm) (R2 : Rm), BZ I2 → FR 59 R R2 → RK lk_X10_init_59 R2 → FI 59 I I2 → KI zk_X10_init_59 I2 → FJ 59 J J2 → True → Q 0 0 I2 J2 R2) : AM (d + 1) 94 59 [.ref 59] I J R Q := by
  refine amc_of (k := kX10_init) rfl rfl rfl rfl rfl rfl (Nat.le_of_ble_eq_true rfl) (fun P hc => ?_)
  refine cs_X10_init_59_0_59 hc _ _ _ ?_
  have hB1 : BZ (uI I 59 0 0) := hB.kw rfl rfl rfl
  have hZ2 : KI ([]) (uI I 59 0 0) := (KI.nil (I := I)).w rfl
  have hI3 : FI 59 I (uI I 59 0 0) := (FI.refl 59 I).w rfl
  have hB4 : BZ (uI (uI I 59 0 0) 59 1 (-1)) := hB1.kw rfl rfl rfl
  have hZ5 : KI ((59, 1, -1) :: ([])) (uI (uI I 59 0 0) 59 1 (-1)) := hZ2.u rfl
  have hI6 : FI 59 I (uI (uI I 59 0 0) 59 1 (-1)) := hI3.w rfl
  refine ⟨rfl, ?_⟩
  have hB7 : BZ (zI (uI (uI I 59 0 0) 59 1 (-1)) 60) := hB4.z
  have hZ8 : KI ((59, 1, -1) :: ([])) (zI (uI (uI I 59 0 0) 59 1 (-1)) 60) := hZ5.z rfl
  have hI9 : FI 59 I (zI (uI (uI I 59 0 0) 59 1 (-1)) 60) := hI6.z rfl
  have hJ10 : FJ 59 J (zJ J 60) := (FJ.refl 59 J).z rfl
  have hK11 : RK ([]) (zR R 60) := (RK.nil (R := R)).z rfl
  have hF12 : FR 59 R (zR R 60) := (FR.refl 59 R).z rfl
  have hK13 : RK ((59, 2, 60) :: ([])) (uR (zR R 60) 59 2 60) := hK11.u rfl
  have hF14 : FR 59 R (uR (zR R 60) 59 2 60) := hF12.u rfl
  exact ⟨rfl, fun z => absurd z (by decide), hQ _ _ _ hB7 hF14 hK13 hI9 hZ8 hJ10 trivial⟩
noncomputable def zk_X0_init_61 : List (Nat × Nat × Int32) := []
noncomputable def lk_X0_init_61 : List (Nat × Nat × Nat) := (61, 8, 66) :: ((61, 7, 65) :: ((61, 6, 64) :: ((61, 5, 63) :: ((61, 0, 62) :: ([])))))
set_option maxHeartbeats 4000000 in
set_option maxRecDepth 100000 in
theorem ct_X0_init_61 {d : Nat} {Q : Qt} {I : Im} {J : Jm} {R : Rm} (hB : BZ I) (hQ : ∀ (I2 : Im) (J2 : Jm) (R2 : Rm), BZ I2 → FR 61 R R2 → RK lk_X0_init_61 R2 → FI 61 I I2 → KI zk_X0_init_61 I2 → FJ 61 J J2 → True → Q 0 0 I2 J2 R2) : AM (d + 1) 0 61 [.ref 61] I J R Q := by
  refine amc_of (k := kX0_init) rfl rfl rfl rfl rfl rfl (Nat.le_of_ble_eq_true rfl) (fun P hc => ?_)
  refine cs_X0_init_61_0_61 hc _ _ _ ?_
  refine ⟨rfl, ?_⟩
  have hB1 : BZ (zI I 62) := hB.z
  have hZ2 : KI ([]) (zI I 62) := (KI.nil (I := I)).z rfl
  have hI3 : FI 61 I (zI I 62) := (FI.refl 61 I).z rfl
  have hJ4 : FJ 61 J (zJ J 62) := (FJ.refl 61 J).z rfl
  have hK5 : RK ([]) (zR R 62) := (RK.nil (R := R)).z rfl
  have hF6 : FR 61 R (zR R 62) := (FR.refl 61 R).z rfl
  have hK7 : RK ((61, 0, 62) :: ([])) (uR (zR R 62) 61 0 62) := hK5.u rfl
  have hF8 : FR 61 R (uR (zR R 62) 61 0 62) := hF6.u rfl
  have hB9 : BZ (uI (zI I 62) 61 1 4) := hB1.kw rfl rfl rfl
  have hZ10 : KI ([]) (uI (zI I 62) 61 1 4) := hZ2.w rfl
  have hI11 : FI 61 I (uI (zI I 62) 61 1 4) := hI3.w rfl
  have hB12 : BZ (uI (uI (zI I 62) 61 1 4) 61 2 1073741823) := hB9.kw rfl rfl rfl
  have hZ13 : KI ([]) (uI (uI (zI I 62) 61 1 4) 61 2 1073741823) := hZ10.w rfl
  have hI14 : FI 61 I (uI (uI (zI I 62) 61 1 4) 61 2 1073741823) := hI11.w rfl
  have hB15 : BZ (uI (uI (uI (zI I 62) 61 1 4) 61 2 1073741823) 61 3 0) := hB12.kw rfl rfl rfl
  have hZ16 : KI ([]) (uI (uI (uI (zI I 62) 61 1 4) 61 2 1073741823) 61 3 0) := hZ13.w rfl
  have hI17 : FI 61 I (uI (uI (uI (zI I 62) 61 1 4) 61 2 1073741823) 61 3 0) := hI14.w rfl
  have hB18 : BZ (uI (uI (uI (uI (zI I 62) 61 1 4) 61 2 1073741823) 61 3 0) 61 4 0) := hB15.kw rfl rfl rfl
  have hZ19 : KI ([]) (uI (uI (uI (uI (zI I 62) 61 1 4) 61 2 1073741823) 61 3 0) 61 4 0) := hZ16.w rfl
  have hI20 : FI 61 I (uI (uI (uI (uI (zI I 62) 61 1 4) 61 2 1073741823) 61 3 0) 61 4 0) := hI17.w rfl
  refine ⟨rfl, ?_⟩
  have hB21 : BZ (zI (uI (uI (uI (uI (zI I 62) 61 1 4) 61 2 1073741823) 61 3 0) 61 4 0) 63) := hB18.z
  have hZ22 : KI ([]) (zI (uI (uI (uI (uI (zI I 62) 61 1 4) 61 2 1073741823) 61 3 0) 61 4 0) 63) := hZ19.z rfl
  have hI23 : FI 61 I (zI (uI (uI (uI (uI (zI I 62) 61 1 4) 61 2 1073741823) 61 3 0) 61 4 0) 63) := hI20.z rfl
  have hJ24 : FJ 61 J (zJ (zJ J 62) 63) := hJ4.z rfl
  have hK25 : RK ((61, 0, 62) :: ([])) (zR (uR (zR R 62) 61 0 62) 63) := hK7.z rfl
  have hF26 : FR 61 R (zR (uR (zR R 62) 61 0 62) 63) := hF8.z rfl
  have hK27 : RK ((61, 5, 63) :: ((61, 0, 62) :: ([]))) (uR (zR (uR (zR R 62) 61 0 62) 63) 61 5 63) := hK25.u rfl
  have hF28 : FR 61 R (uR (zR (uR (zR R 62) 61 0 62) 63) 61 5 63) := hF26.u rfl
  refine ⟨rfl, ?_⟩
  have hB29 : BZ (zI (zI (uI (uI (uI (uI (zI I 62) 61 1 4) 61 2 1073741823) 61 3 0) 61 4 0) 63) 64) := hB21.z
  have hZ30 : KI ([]) (zI (zI (uI (uI (uI (uI (zI I 62) 61 1 4) 61 2 1073741823) 61 3 0) 61 4 0) 63) 64) := hZ22.z rfl
  have hI31 : FI 61 I (zI (zI (uI (uI (uI (uI (zI I 62) 61 1 4) 61 2 1073741823) 61 3 0) 61 4 0) 63) 64) := hI23.z rfl
  have hJ32 : FJ 61 J (zJ (zJ (zJ J 62) 63) 64) := hJ24.z rfl
  have hK33 : RK ((61, 5, 63) :: ((61, 0, 62) :: ([]))) (zR (uR (zR (uR (zR R 62) 61 0 62) 63) 61 5 63) 64) := hK27.z rfl
  have hF34 : FR 61 R (zR (uR (zR (uR (zR R 62) 61 0 62) 63) 61 5 63) 64) := hF28.z rfl
  have hK35 : RK ((61, 6, 64) :: ((61, 5, 63) :: ((61, 0, 62) :: ([])))) (uR (zR (uR (zR (uR (zR R 62) 61 0 62) 63) 61 5 63) 64) 61 6 64) := hK33.u rfl
  have hF36 : FR 61 R (uR (zR (uR (zR (uR (zR R 62) 61 0 62) 63) 61 5 63) 64) 61 6 64) := hF34.u rfl
  refine ⟨rfl, ?_⟩
  have hB37 : BZ (zI (zI (zI (uI (uI (uI (uI (zI I 62) 61 1 4) 61 2 1073741823) 61 3 0) 61 4 0) 63) 64) 65) := hB29.z
  have hZ38 : KI ([]) (zI (zI (zI (uI (uI (uI (uI (zI I 62) 61 1 4) 61 2 1073741823) 61 3 0) 61 4 0) 63) 64) 65) := hZ30.z rfl
  have hI39 : FI 61 I (zI (zI (zI (uI (uI (uI (uI (zI I 62) 61 1 4) 61 2 1073741823) 61 3 0) 61 4 0) 63) 64) 65) := hI31.z rfl
  have hJ40 : FJ 61 J (zJ (zJ (zJ (zJ J 62) 63) 64) 65) := hJ32.z rfl
  have hK41 : RK ((61, 6, 64) :: ((61, 5, 63) :: ((61, 0, 62) :: ([])))) (zR (uR (zR (uR (zR (uR (zR R 62) 61 0 62) 63) 61 5 63) 64) 61 6 64) 65) := hK35.z rfl
  have hF42 : FR 61 R (zR (uR (zR (uR (zR (uR (zR R 62) 61 0 62) 63) 61 5 63) 64) 61 6 64) 65) := hF36.z rfl
  have hK43 : RK ((61, 7, 65) :: ((61, 6, 64) :: ((61, 5, 63) :: ((61, 0, 62) :: ([]))))) (uR (zR (uR (zR (uR (zR (uR (zR R 62) 61 0 62) 63) 61 5 63) 64) 61 6 64) 65) 61 7 65) := hK41.u rfl
  have hF44 : FR 61 R (uR (zR (uR (zR (uR (zR (uR (zR R 62) 61 0 62) 63) 61 5 63) 64) 61 6 64) 65) 61 7 65) := hF42.u rfl
  refine ⟨rfl, ?_⟩
  have hB45 : BZ (zI (zI (zI (zI (uI (uI (uI (uI (zI I 62) 61 1 4) 61 2 1073741823) 61 3 0) 61 4 0) 63) 64) 65) 66) := hB37.z
  have hZ46 : KI ([]) (zI (zI (zI (zI (uI (uI (uI (uI (zI I 62) 61 1 4) 61 2 1073741823) 61 3 0) 61 4 0) 63) 64) 65) 66) := hZ38.z rfl
  have hI47 : FI 61 I (zI (zI (zI (zI (uI (uI (uI (uI (zI I 62) 61 1 4) 61 2 1073741823) 61 3 0) 61 4 0) 63) 64) 65) 66) := hI39.z rfl
  have hJ48 : FJ 61 J (zJ (zJ (zJ (zJ (zJ J 62) 63) 64) 65) 66) := hJ40.z rfl
  have hK49 : RK ((61, 7, 65) :: ((61, 6, 64) :: ((61, 5, 63) :: ((61, 0, 62) :: ([]))))) (zR (uR (zR (uR (zR (uR (zR (uR (zR R 62) 61 0 62) 63) 61 5 63) 64) 61 6 64) 65) 61 7 65) 66) := hK43.z rfl
  have hF50 : FR 61 R (zR (uR (zR (uR (zR (uR (zR (uR (zR R 62) 61 0 62) 63) 61 5 63) 64) 61 6 64) 65) 61 7 65) 66) := hF44.z rfl
  have hK51 : RK ((61, 8, 66) :: ((61, 7, 65) :: ((61, 6, 64) :: ((61, 5, 63) :: ((61, 0, 62) :: ([])))))) (uR (zR (uR (zR (uR (zR (uR (zR (uR (zR R 62) 61 0 62) 63) 61 5 63) 64) 61 6 64) 65) 61 7 65) 66) 61 8 66) := hK49.u rfl
  have hF52 : FR 61 R (uR (zR (uR (zR (uR (zR (uR (zR (uR (zR R 62) 61 0 62) 63) 61 5 63) 64) 61 6 64) 65) 61 7 65) 66) 61 8 66) := hF50.u rfl
  exact ⟨rfl, fun z => absurd z (by decide), hQ _ _ _ hB45 hF52 hK51 hI47 hZ46 hJ48 trivial⟩
noncomputable def zk_X2_init_67 : List (Nat × Nat × Int32) := []
noncomputable def lk_X2_init_67 : List (Nat × Nat × Nat) := (67, 7, 72) :: ((67, 6, 71) :: ((67, 5, 70) :: ((67, 4, 69) :: ((67, 3, 68) :: ([])))))
set_option maxHeartbeats 4000000 in
set_option maxRecDepth 100000 in
theorem ct_X2_init_67 {d : Nat} {Q : Qt} {I : Im} {J : Jm} {R : Rm} (hB : BZ I) (hQ : ∀ (I2 : Im) (J2 : Jm) (R2 : Rm), BZ I2 → FR 67 R R2 → RK lk_X2_init_67 R2 → FI 67 I I2 → KI zk_X2_init_67 I2 → FJ 67 J J2 → True → Q 0 0 I2 J2 R2) : AM (d + 1) 27 67 [.ref 67] I J R Q := by
  refine amc_of (k := kX2_init) rfl rfl rfl rfl rfl rfl (Nat.le_of_ble_eq_true rfl) (fun P hc => ?_)
  refine cs_X2_init_67_0_67 hc _ _ _ ?_
  refine ⟨Or.inl rfl, ?_⟩
  have hB1 : BZ (uI I 67 0 0) := hB.kw rfl rfl rfl
  have hZ2 : KI ([]) (uI I 67 0 0) := (KI.nil (I := I)).w rfl
  have hI3 : FI 67 I (uI I 67 0 0) := (FI.refl 67 I).w rfl
  have hB4 : BZ (uI (uI I 67 0 0) 67 1 0) := hB1.kw rfl rfl rfl
  have hZ5 : KI ([]) (uI (uI I 67 0 0) 67 1 0) := hZ2.w rfl
  have hI6 : FI 67 I (uI (uI I 67 0 0) 67 1 0) := hI3.w rfl
  have hB7 : BZ (uI (uI (uI I 67 0 0) 67 1 0) 67 2 0) := hB4.kw rfl rfl rfl
  have hZ8 : KI ([]) (uI (uI (uI I 67 0 0) 67 1 0) 67 2 0) := hZ5.w rfl
  have hI9 : FI 67 I (uI (uI (uI I 67 0 0) 67 1 0) 67 2 0) := hI6.w rfl
  refine ⟨rfl, ?_⟩
  have hB10 : BZ (zI (uI (uI (uI I 67 0 0) 67 1 0) 67 2 0) 68) := hB7.z
  have hZ11 : KI ([]) (zI (uI (uI (uI I 67 0 0) 67 1 0) 67 2 0) 68) := hZ8.z rfl
  have hI12 : FI 67 I (zI (uI (uI (uI I 67 0 0) 67 1 0) 67 2 0) 68) := hI9.z rfl
  have hJ13 : FJ 67 J (zJ J 68) := (FJ.refl 67 J).z rfl
  have hK14 : RK ([]) (zR R 68) := (RK.nil (R := R)).z rfl
  have hF15 : FR 67 R (zR R 68) := (FR.refl 67 R).z rfl
  have hK16 : RK ((67, 3, 68) :: ([])) (uR (zR R 68) 67 3 68) := hK14.u rfl
  have hF17 : FR 67 R (uR (zR R 68) 67 3 68) := hF15.u rfl
  refine ⟨rfl, ?_⟩
  have hB18 : BZ (zI (zI (uI (uI (uI I 67 0 0) 67 1 0) 67 2 0) 68) 69) := hB10.z
  have hZ19 : KI ([]) (zI (zI (uI (uI (uI I 67 0 0) 67 1 0) 67 2 0) 68) 69) := hZ11.z rfl
  have hI20 : FI 67 I (zI (zI (uI (uI (uI I 67 0 0) 67 1 0) 67 2 0) 68) 69) := hI12.z rfl
  have hJ21 : FJ 67 J (zJ (zJ J 68) 69) := hJ13.z rfl
  have hK22 : RK ((67, 3, 68) :: ([])) (zR (uR (zR R 68) 67 3 68) 69) := hK16.z rfl
  have hF23 : FR 67 R (zR (uR (zR R 68) 67 3 68) 69) := hF17.z rfl
  have hK24 : RK ((67, 4, 69) :: ((67, 3, 68) :: ([]))) (uR (zR (uR (zR R 68) 67 3 68) 69) 67 4 69) := hK22.u rfl
  have hF25 : FR 67 R (uR (zR (uR (zR R 68) 67 3 68) 69) 67 4 69) := hF23.u rfl
  refine ⟨rfl, ?_⟩
  have hB26 : BZ (zI (zI (zI (uI (uI (uI I 67 0 0) 67 1 0) 67 2 0) 68) 69) 70) := hB18.z
  have hZ27 : KI ([]) (zI (zI (zI (uI (uI (uI I 67 0 0) 67 1 0) 67 2 0) 68) 69) 70) := hZ19.z rfl
  have hI28 : FI 67 I (zI (zI (zI (uI (uI (uI I 67 0 0) 67 1 0) 67 2 0) 68) 69) 70) := hI20.z rfl
  have hJ29 : FJ 67 J (zJ (zJ (zJ J 68) 69) 70) := hJ21.z rfl
  have hK30 : RK ((67, 4, 69) :: ((67, 3, 68) :: ([]))) (zR (uR (zR (uR (zR R 68) 67 3 68) 69) 67 4 69) 70) := hK24.z rfl
  have hF31 : FR 67 R (zR (uR (zR (uR (zR R 68) 67 3 68) 69) 67 4 69) 70) := hF25.z rfl
  have hK32 : RK ((67, 5, 70) :: ((67, 4, 69) :: ((67, 3, 68) :: ([])))) (uR (zR (uR (zR (uR (zR R 68) 67 3 68) 69) 67 4 69) 70) 67 5 70) := hK30.u rfl
  have hF33 : FR 67 R (uR (zR (uR (zR (uR (zR R 68) 67 3 68) 69) 67 4 69) 70) 67 5 70) := hF31.u rfl
  refine ⟨rfl, ?_⟩
  have hB34 : BZ (zI (zI (zI (zI (uI (uI (uI I 67 0 0) 67 1 0) 67 2 0) 68) 69) 70) 71) := hB26.z
  have hZ35 : KI ([]) (zI (zI (zI (zI (uI (uI (uI I 67 0 0) 67 1 0) 67 2 0) 68) 69) 70) 71) := hZ27.z rfl
  have hI36 : FI 67 I (zI (zI (zI (zI (uI (uI (uI I 67 0 0) 67 1 0) 67 2 0) 68) 69) 70) 71) := hI28.z rfl
  have hJ37 : FJ 67 J (zJ (zJ (zJ (zJ J 68) 69) 70) 71) := hJ29.z rfl
  have hK38 : RK ((67, 5, 70) :: ((67, 4, 69) :: ((67, 3, 68) :: ([])))) (zR (uR (zR (uR (zR (uR (zR R 68) 67 3 68) 69) 67 4 69) 70) 67 5 70) 71) := hK32.z rfl
  have hF39 : FR 67 R (zR (uR (zR (uR (zR (uR (zR R 68) 67 3 68) 69) 67 4 69) 70) 67 5 70) 71) := hF33.z rfl
  have hK40 : RK ((67, 6, 71) :: ((67, 5, 70) :: ((67, 4, 69) :: ((67, 3, 68) :: ([]))))) (uR (zR (uR (zR (uR (zR (uR (zR R 68) 67 3 68) 69) 67 4 69) 70) 67 5 70) 71) 67 6 71) := hK38.u rfl
  have hF41 : FR 67 R (uR (zR (uR (zR (uR (zR (uR (zR R 68) 67 3 68) 69) 67 4 69) 70) 67 5 70) 71) 67 6 71) := hF39.u rfl
  refine ⟨rfl, ?_⟩
  have hB42 : BZ (zI (zI (zI (zI (zI (uI (uI (uI I 67 0 0) 67 1 0) 67 2 0) 68) 69) 70) 71) 72) := hB34.z
  have hZ43 : KI ([]) (zI (zI (zI (zI (zI (uI (uI (uI I 67 0 0) 67 1 0) 67 2 0) 68) 69) 70) 71) 72) := hZ35.z rfl
  have hI44 : FI 67 I (zI (zI (zI (zI (zI (uI (uI (uI I 67 0 0) 67 1 0) 67 2 0) 68) 69) 70) 71) 72) := hI36.z rfl
  have hJ45 : FJ 67 J (zJ (zJ (zJ (zJ (zJ J 68) 69) 70) 71) 72) := hJ37.z rfl
  have hK46 : RK ((67, 6, 71) :: ((67, 5, 70) :: ((67, 4, 69) :: ((67, 3, 68) :: ([]))))) (zR (uR (zR (uR (zR (uR (zR (uR (zR R 68) 67 3 68) 69) 67 4 69) 70) 67 5 70) 71) 67 6 71) 72) := hK40.z rfl
  have hF47 : FR 67 R (zR (uR (zR (uR (zR (uR (zR (uR (zR R 68) 67 3 68) 69) 67 4 69) 70) 67 5 70) 71) 67 6 71) 72) := hF41.z rfl
  have hK48 : RK ((67, 7, 72) :: ((67, 6, 71) :: ((67, 5, 70) :: ((67, 4, 69) :: ((67, 3, 68) :: ([])))))) (uR (zR (uR (zR (uR (zR (uR (zR (uR (zR R 68) 67 3 68) 69) 67 4 69) 70) 67 5 70) 71) 67 6 71) 72) 67 7 72) := hK46.u rfl
  have hF49 : FR 67 R (uR (zR (uR (zR (uR (zR (uR (zR (uR (zR R 68) 67 3 68) 69) 67 4 69) 70) 67 5 70) 71) 67 6 71) 72) 67 7 72) := hF47.u rfl
  exact ⟨rfl, fun z => absurd z (by decide), hQ _ _ _ hB42 hF49 hK48 hI44 hZ43 hJ45 trivial⟩
noncomputable def zk_X0_init_73 : List (Nat × Nat × Int32) := []
noncomputable def lk_X0_init_73 : List (Nat × Nat × Nat) := (73, 8, 78) :: ((73, 7, 77) :: ((73, 6, 76) :: ((73, 5, 75) :: ((73, 0, 74) :: ([])))))
set_option maxHeartbeats 4000000 in
set_option maxRecDepth 100000 in
theorem ct_X0_init_73 {d : Nat} {Q : Qt} {I : Im} {J : Jm} {R : Rm} (hB : BZ I) (hQ : ∀ (I2 : Im) (J2 : Jm) (R2 : Rm), BZ I2 → FR 73 R R2 → RK lk_X0_init_73 R2 → FI 73 I I2 → KI zk_X0_init_73 I2 → FJ 73 J J2 → True → Q 0 0 I2 J2 R2) : AM (d + 1) 0 73 [.ref 73] I J R Q := by
  refine amc_of (k := kX0_init) rfl rfl rfl rfl rfl rfl (Nat.le_of_ble_eq_true rfl) (fun P hc => ?_)
  refine cs_X0_init_73_0_73 hc _ _ _ ?_
  refine ⟨rfl, ?_⟩
  have hB1 : BZ (zI I 74) := hB.z
  have hZ2 : KI ([]) (zI I 74) := (KI.nil (I := I)).z rfl
  have hI3 : FI 73 I (zI I 74) := (FI.refl 73 I).z rfl
  have hJ4 : FJ 73 J (zJ J 74) := (FJ.refl 73 J).z rfl
  have hK5 : RK ([]) (zR R 74) := (RK.nil (R := R)).z rfl
  have hF6 : FR 73 R (zR R 74) := (FR.refl 73 R).z rfl
  have hK7 : RK ((73, 0, 74) :: ([])) (uR (zR R 74) 73 0 74) := hK5.u rfl
  have hF8 : FR 73 R (uR (zR R 74) 73 0 74) := hF6.u rfl
  have hB9 : BZ (uI (zI I 74) 73 1 4) := hB1.kw rfl rfl rfl
  have hZ10 : KI ([]) (uI (zI I 74) 73 1 4) := hZ2.w rfl
  have hI11 : FI 73 I (uI (zI I 74) 73 1 4) := hI3.w rfl
  have hB12 : BZ (uI (uI (zI I 74) 73 1 4) 73 2 1073741823) := hB9.kw rfl rfl rfl
  have hZ13 : KI ([]) (uI (uI (zI I 74) 73 1 4) 73 2 1073741823) := hZ10.w rfl
  have hI14 : FI 73 I (uI (uI (zI I 74) 73 1 4) 73 2 1073741823) := hI11.w rfl
  have hB15 : BZ (uI (uI (uI (zI I 74) 73 1 4) 73 2 1073741823) 73 3 0) := hB12.kw rfl rfl rfl
  have hZ16 : KI ([]) (uI (uI (uI (zI I 74) 73 1 4) 73 2 1073741823) 73 3 0) := hZ13.w rfl
  have hI17 : FI 73 I (uI (uI (uI (zI I 74) 73 1 4) 73 2 1073741823) 73 3 0) := hI14.w rfl
  have hB18 : BZ (uI (uI (uI (uI (zI I 74) 73 1 4) 73 2 1073741823) 73 3 0) 73 4 0) := hB15.kw rfl rfl rfl
  have hZ19 : KI ([]) (uI (uI (uI (uI (zI I 74) 73 1 4) 73 2 1073741823) 73 3 0) 73 4 0) := hZ16.w rfl
  have hI20 : FI 73 I (uI (uI (uI (uI (zI I 74) 73 1 4) 73 2 1073741823) 73 3 0) 73 4 0) := hI17.w rfl
  refine ⟨rfl, ?_⟩
  have hB21 : BZ (zI (uI (uI (uI (uI (zI I 74) 73 1 4) 73 2 1073741823) 73 3 0) 73 4 0) 75) := hB18.z
  have hZ22 : KI ([]) (zI (uI (uI (uI (uI (zI I 74) 73 1 4) 73 2 1073741823) 73 3 0) 73 4 0) 75) := hZ19.z rfl
  have hI23 : FI 73 I (zI (uI (uI (uI (uI (zI I 74) 73 1 4) 73 2 1073741823) 73 3 0) 73 4 0) 75) := hI20.z rfl
  have hJ24 : FJ 73 J (zJ (zJ J 74) 75) := hJ4.z rfl
  have hK25 : RK ((73, 0, 74) :: ([])) (zR (uR (zR R 74) 73 0 74) 75) := hK7.z rfl
  have hF26 : FR 73 R (zR (uR (zR R 74) 73 0 74) 75) := hF8.z rfl
  have hK27 : RK ((73, 5, 75) :: ((73, 0, 74) :: ([]))) (uR (zR (uR (zR R 74) 73 0 74) 75) 73 5 75) := hK25.u rfl
  have hF28 : FR 73 R (uR (zR (uR (zR R 74) 73 0 74) 75) 73 5 75) := hF26.u rfl
  refine ⟨rfl, ?_⟩
  have hB29 : BZ (zI (zI (uI (uI (uI (uI (zI I 74) 73 1 4) 73 2 1073741823) 73 3 0) 73 4 0) 75) 76) := hB21.z
  have hZ30 : KI ([]) (zI (zI (uI (uI (uI (uI (zI I 74) 73 1 4) 73 2 1073741823) 73 3 0) 73 4 0) 75) 76) := hZ22.z rfl
  have hI31 : FI 73 I (zI (zI (uI (uI (uI (uI (zI I 74) 73 1 4) 73 2 1073741823) 73 3 0) 73 4 0) 75) 76) := hI23.z rfl
  have hJ32 : FJ 73 J (zJ (zJ (zJ J 74) 75) 76) := hJ24.z rfl
  have hK33 : RK ((73, 5, 75) :: ((73, 0, 74) :: ([]))) (zR (uR (zR (uR (zR R 74) 73 0 74) 75) 73 5 75) 76) := hK27.z rfl
  have hF34 : FR 73 R (zR (uR (zR (uR (zR R 74) 73 0 74) 75) 73 5 75) 76) := hF28.z rfl
  have hK35 : RK ((73, 6, 76) :: ((73, 5, 75) :: ((73, 0, 74) :: ([])))) (uR (zR (uR (zR (uR (zR R 74) 73 0 74) 75) 73 5 75) 76) 73 6 76) := hK33.u rfl
  have hF36 : FR 73 R (uR (zR (uR (zR (uR (zR R 74) 73 0 74) 75) 73 5 75) 76) 73 6 76) := hF34.u rfl
  refine ⟨rfl, ?_⟩
  have hB37 : BZ (zI (zI (zI (uI (uI (uI (uI (zI I 74) 73 1 4) 73 2 1073741823) 73 3 0) 73 4 0) 75) 76) 77) := hB29.z
  have hZ38 : KI ([]) (zI (zI (zI (uI (uI (uI (uI (zI I 74) 73 1 4) 73 2 1073741823) 73 3 0) 73 4 0) 75) 76) 77) := hZ30.z rfl
  have hI39 : FI 73 I (zI (zI (zI (uI (uI (uI (uI (zI I 74) 73 1 4) 73 2 1073741823) 73 3 0) 73 4 0) 75) 76) 77) := hI31.z rfl
  have hJ40 : FJ 73 J (zJ (zJ (zJ (zJ J 74) 75) 76) 77) := hJ32.z rfl
  have hK41 : RK ((73, 6, 76) :: ((73, 5, 75) :: ((73, 0, 74) :: ([])))) (zR (uR (zR (uR (zR (uR (zR R 74) 73 0 74) 75) 73 5 75) 76) 73 6 76) 77) := hK35.z rfl
  have hF42 : FR 73 R (zR (uR (zR (uR (zR (uR (zR R 74) 73 0 74) 75) 73 5 75) 76) 73 6 76) 77) := hF36.z rfl
  have hK43 : RK ((73, 7, 77) :: ((73, 6, 76) :: ((73, 5, 75) :: ((73, 0, 74) :: ([]))))) (uR (zR (uR (zR (uR (zR (uR (zR R 74) 73 0 74) 75) 73 5 75) 76) 73 6 76) 77) 73 7 77) := hK41.u rfl
  have hF44 : FR 73 R (uR (zR (uR (zR (uR (zR (uR (zR R 74) 73 0 74) 75) 73 5 75) 76) 73 6 76) 77) 73 7 77) := hF42.u rfl
  refine ⟨rfl, ?_⟩
  have hB45 : BZ (zI (zI (zI (zI (uI (uI (uI (uI (zI I 74) 73 1 4) 73 2 1073741823) 73 3 0) 73 4 0) 75) 76) 77) 78) := hB37.z
  have hZ46 : KI ([]) (zI (zI (zI (zI (uI (uI (uI (uI (zI I 74) 73 1 4) 73 2 1073741823) 73 3 0) 73 4 0) 75) 76) 77) 78) := hZ38.z rfl
  have hI47 : FI 73 I (zI (zI (zI (zI (uI (uI (uI (uI (zI I 74) 73 1 4) 73 2 1073741823) 73 3 0) 73 4 0) 75) 76) 77) 78) := hI39.z rfl
  have hJ48 : FJ 73 J (zJ (zJ (zJ (zJ (zJ J 74) 75) 76) 77) 78) := hJ40.z rfl
  have hK49 : RK ((73, 7, 77) :: ((73, 6, 76) :: ((73, 5, 75) :: ((73, 0, 74) :: ([]))))) (zR (uR (zR (uR (zR (uR (zR (uR (zR R 74) 73 0 74) 75) 73 5 75) 76) 73 6 76) 77) 73 7 77) 78) := hK43.z rfl
  have hF50 : FR 73 R (zR (uR (zR (uR (zR (uR (zR (uR (zR R 74) 73 0 74) 75) 73 5 75) 76) 73 6 76) 77) 73 7 77) 78) := hF44.z rfl
  have hK51 : RK ((73, 8, 78) :: ((73, 7, 77) :: ((73, 6, 76) :: ((73, 5, 75) :: ((73, 0, 74) :: ([])))))) (uR (zR (uR (zR (uR (zR (uR (zR (uR (zR R 74) 73 0 74) 75) 73 5 75) 76) 73 6 76) 77) 73 7 77) 78) 73 8 78) := hK49.u rfl
  have hF52 : FR 73 R (uR (zR (uR (zR (uR (zR (uR (zR (uR (zR R 74) 73 0 74) 75) 73 5 75) 76) 73 6 76) 77) 73 7 77) 78) 73 8 78) := hF50.u rfl
  exact ⟨rfl, fun z => absurd z (by decide), hQ _ _ _ hB45 hF52 hK51 hI47 hZ46 hJ48 trivial⟩
noncomputable def zk_X2_init_79 : List (Nat × Nat × Int32) := []
noncomputable def lk_X2_init_79 : List (Nat × Nat × Nat) := (79, 7, 84) :: ((79, 6, 83) :: ((79, 5, 82) :: ((79, 4, 81) :: ((79, 3, 80) :: ([])))))
set_option maxHeartbeats 4000000 in
set_option maxRecDepth 100000 in
theorem ct_X2_init_79 {d : Nat} {Q : Qt} {I : Im} {J : Jm} {R : Rm} (hB : BZ I) (hQ : ∀ (I2 : Im) (J2 : Jm) (R2 : Rm), BZ I2 → FR 79 R R2 → RK lk_X2_init_79 R2 → FI 79 I I2 → KI zk_X2_init_79 I2 → FJ 79 J J2 → True → Q 0 0 I2 J2 R2) : AM (d + 1) 27 79 [.ref 79] I J R Q := by
  refine amc_of (k := kX2_init) rfl rfl rfl rfl rfl rfl (Nat.le_of_ble_eq_true rfl) (fun P hc => ?_)
  refine cs_X2_init_79_0_79 hc _ _ _ ?_
  refine ⟨Or.inl rfl, ?_⟩
  have hB1 : BZ (uI I 79 0 0) := hB.kw rfl rfl rfl
  have hZ2 : KI ([]) (uI I 79 0 0) := (KI.nil (I := I)).w rfl
  have hI3 : FI 79 I (uI I 79 0 0) := (FI.refl 79 I).w rfl
  have hB4 : BZ (uI (uI I 79 0 0) 79 1 0) := hB1.kw rfl rfl rfl
  have hZ5 : KI ([]) (uI (uI I 79 0 0) 79 1 0) := hZ2.w rfl
  have hI6 : FI 79 I (uI (uI I 79 0 0) 79 1 0) := hI3.w rfl
  have hB7 : BZ (uI (uI (uI I 79 0 0) 79 1 0) 79 2 0) := hB4.kw rfl rfl rfl
  have hZ8 : KI ([]) (uI (uI (uI I 79 0 0) 79 1 0) 79 2 0) := hZ5.w rfl
  have hI9 : FI 79 I (uI (uI (uI I 79 0 0) 79 1 0) 79 2 0) := hI6.w rfl
  refine ⟨rfl, ?_⟩
  have hB10 : BZ (zI (uI (uI (uI I 79 0 0) 79 1 0) 79 2 0) 80) := hB7.z
  have hZ11 : KI ([]) (zI (uI (uI (uI I 79 0 0) 79 1 0) 79 2 0) 80) := hZ8.z rfl
  have hI12 : FI 79 I (zI (uI (uI (uI I 79 0 0) 79 1 0) 79 2 0) 80) := hI9.z rfl
  have hJ13 : FJ 79 J (zJ J 80) := (FJ.refl 79 J).z rfl
  have hK14 : RK ([]) (zR R 80) := (RK.nil (R := R)).z rfl
  have hF15 : FR 79 R (zR R 80) := (FR.refl 79 R).z rfl
  have hK16 : RK ((79, 3, 80) :: ([])) (uR (zR R 80) 79 3 80) := hK14.u rfl
  have hF17 : FR 79 R (uR (zR R 80) 79 3 80) := hF15.u rfl
  refine ⟨rfl, ?_⟩
  have hB18 : BZ (zI (zI (uI (uI (uI I 79 0 0) 79 1 0) 79 2 0) 80) 81) := hB10.z
  have hZ19 : KI ([]) (zI (zI (uI (uI (uI I 79 0 0) 79 1 0) 79 2 0) 80) 81) := hZ11.z rfl
  have hI20 : FI 79 I (zI (zI (uI (uI (uI I 79 0 0) 79 1 0) 79 2 0) 80) 81) := hI12.z rfl
  have hJ21 : FJ 79 J (zJ (zJ J 80) 81) := hJ13.z rfl
  have hK22 : RK ((79, 3, 80) :: ([])) (zR (uR (zR R 80) 79 3 80) 81) := hK16.z rfl
  have hF23 : FR 79 R (zR (uR (zR R 80) 79 3 80) 81) := hF17.z rfl
  have hK24 : RK ((79, 4, 81) :: ((79, 3, 80) :: ([]))) (uR (zR (uR (zR R 80) 79 3 80) 81) 79 4 81) := hK22.u rfl
  have hF25 : FR 79 R (uR (zR (uR (zR R 80) 79 3 80) 81) 79 4 81) := hF23.u rfl
  refine ⟨rfl, ?_⟩
  have hB26 : BZ (zI (zI (zI (uI (uI (uI I 79 0 0) 79 1 0) 79 2 0) 80) 81) 82) := hB18.z
  have hZ27 : KI ([]) (zI (zI (zI (uI (uI (uI I 79 0 0) 79 1 0) 79 2 0) 80) 81) 82) := hZ19.z rfl
  have hI28 : FI 79 I (zI (zI (zI (uI (uI (uI I 79 0 0) 79 1 0) 79 2 0) 80) 81) 82) := hI20.z rfl
  have hJ29 : FJ 79 J (zJ (zJ (zJ J 80) 81) 82) := hJ21.z rfl
  have hK30 : RK ((79, 4, 81) :: ((79, 3, 80) :: ([]))) (zR (uR (zR (uR (zR R 80) 79 3 80) 81) 79 4 81) 82) := hK24.z rfl
  have hF31 : FR 79 R (zR (uR (zR (uR (zR R 80) 79 3 80) 81) 79 4 81) 82) := hF25.z rfl
  have hK32 : RK ((79, 5, 82) :: ((79, 4, 81) :: ((79, 3, 80) :: ([])))) (uR (zR (uR (zR (uR (zR R 80) 79 3 80) 81) 79 4 81) 82) 79 5 82) := hK30.u rfl
  have hF33 : FR 79 R (uR (zR (uR (zR (uR (zR R 80) 79 3 80) 81) 79 4 81) 82) 79 5 82) := hF31.u rfl
  refine ⟨rfl, ?_⟩
  have hB34 : BZ (zI (zI (zI (zI (uI (uI (uI I 79 0 0) 79 1 0) 79 2 0) 80) 81) 82) 83) := hB26.z
  have hZ35 : KI ([]) (zI (zI (zI (zI (uI (uI (uI I 79 0 0) 79 1 0) 79 2 0) 80) 81) 82) 83) := hZ27.z rfl
  have hI36 : FI 79 I (zI (zI (zI (zI (uI (uI (uI I 79 0 0) 79 1 0) 79 2 0) 80) 81) 82) 83) := hI28.z rfl
  have hJ37 : FJ 79 J (zJ (zJ (zJ (zJ J 80) 81) 82) 83) := hJ29.z rfl
  have hK38 : RK ((79, 5, 82) :: ((79, 4, 81) :: ((79, 3, 80) :: ([])))) (zR (uR (zR (uR (zR (uR (zR R 80) 79 3 80) 81) 79 4 81) 82) 79 5 82) 83) := hK32.z rfl
  have hF39 : FR 79 R (zR (uR (zR (uR (zR (uR (zR R 80) 79 3 80) 81) 79 4 81) 82) 79 5 82) 83) := hF33.z rfl
  have hK40 : RK ((79, 6, 83) :: ((79, 5, 82) :: ((79, 4, 81) :: ((79, 3, 80) :: ([]))))) (uR (zR (uR (zR (uR (zR (uR (zR R 80) 79 3 80) 81) 79 4 81) 82) 79 5 82) 83) 79 6 83) := hK38.u rfl
  have hF41 : FR 79 R (uR (zR (uR (zR (uR (zR (uR (zR R 80) 79 3 80) 81) 79 4 81) 82) 79 5 82) 83) 79 6 83) := hF39.u rfl
  refine ⟨rfl, ?_⟩
  have hB42 : BZ (zI (zI (zI (zI (zI (uI (uI (uI I 79 0 0) 79 1 0) 79 2 0) 80) 81) 82) 83) 84) := hB34.z
  have hZ43 : KI ([]) (zI (zI (zI (zI (zI (uI (uI (uI I 79 0 0) 79 1 0) 79 2 0) 80) 81) 82) 83) 84) := hZ35.z rfl
  have hI44 : FI 79 I (zI (zI (zI (zI (zI (uI (uI (uI I 79 0 0) 79 1 0) 79 2 0) 80) 81) 82) 83) 84) := hI36.z rfl
  have hJ45 : FJ 79 J (zJ (zJ (zJ (zJ (zJ J 80) 81) 82) 83) 84) := hJ37.z rfl
  have hK46 : RK ((79, 6, 83) :: ((79, 5, 82) :: ((79, 4, 81) :: ((79, 3, 80) :: ([]))))) (zR (uR (zR (uR (zR (uR (zR (uR (zR R 80) 79 3 80) 81) 79 4 81) 82) 79 5 82) 83) 79 6 83) 84) := hK40.z rfl
  have hF47 : FR 79 R (zR (uR (zR (uR (zR (uR (zR (uR (zR R 80) 79 3 80) 81) 79 4 81) 82) 79 5 82) 83) 79 6 83) 84) := hF41.z rfl
  have hK48 : RK ((79, 7, 84) :: ((79, 6, 83) :: ((79, 5, 82) :: ((79, 4, 81) :: ((79, 3, 80) :: ([])))))) (uR (zR (uR (zR (uR (zR (uR (zR (uR (zR R 80) 79 3 80) 81) 79 4 81) 82) 79 5 82) 83) 79 6 83) 84) 79 7 84) := hK46.u rfl
  have hF49 : FR 79 R (uR (zR (uR (zR (uR (zR (uR (zR (uR (zR R 80) 79 3 80) 81) 79 4 81) 82) 79 5 82) 83) 79 6 83) 84) 79 7 84) := hF47.u rfl
  exact ⟨rfl, fun z => absurd z (by decide), hQ _ _ _ hB42 hF49 hK48 hI44 hZ43 hJ45 trivial⟩
noncomputable def zk_X0_init_85 : List (Nat × Nat × Int32) := []
noncomputable def lk_X0_init_85 : List (Nat × Nat × Nat) := (85, 8, 90) :: ((85, 7, 89) :: ((85, 6, 88) :: ((85, 5, 87) :: ((85, 0, 86) :: ([])))))
set_option maxHeartbeats 4000000 in
set_option maxRecDepth 100000 in
theorem ct_X0_init_85 {d : Nat} {Q : Qt} {I : Im} {J : Jm} {R : Rm} (hB : BZ I) (hQ : ∀ (I2 : Im) (J2 : Jm) (R2 : Rm), BZ I2 → FR 85 R R2 → RK lk_X0_init_85 R2 → FI 85 I I2 → KI zk_X0_init_85 I2 → FJ 85 J J2 → True → Q 0 0 I2 J2 R2) : AM (d + 1) 0 85 [.ref 85] I J R Q := by
  refine amc_of (k := kX0_init) rfl rfl rfl rfl rfl rfl (Nat.le_of_ble_eq_true rfl) (fun P hc => ?_)
  refine cs_X0_init_85_0_85 hc _ _ _ ?_
  refine ⟨rfl, ?_⟩
  have hB1 : BZ (zI I 86) := hB.z
  have hZ2 : KI ([]) (zI I 86) := (KI.nil (I := I)).z rfl
  have hI3 : FI 85 I (zI I 86) := (FI.refl 85 I).z rfl
  have hJ4 : FJ 85 J (zJ J 86) := (FJ.refl 85 J).z rfl
  have hK5 : RK ([]) (zR R 86) := (RK.nil (R := R)).z rfl
  have hF6 : FR 85 R (zR R 86) := (FR.refl 85 R).z rfl
  have hK7 : RK ((85, 0, 86) :: ([])) (uR (zR R 86) 85 0 86) := hK5.u rfl
  have hF8 : FR 85 R (uR (zR R 86) 85 0 86) := hF6.u rfl
  have hB9 : BZ (uI (zI I 86) 85 1 4) := hB1.kw rfl rfl rfl
  have hZ10 : KI ([]) (uI (zI I 86) 85 1 4) := hZ2.w rfl
  have hI11 : FI 85 I (uI (zI I 86) 85 1 4) := hI3.w rfl
  have hB12 : BZ (uI (uI (zI I 86) 85 1 4) 85 2 1073741823) := hB9.kw rfl rfl rfl
  have hZ13 : KI ([]) (uI (uI (zI I 86) 85 1 4) 85 2 1073741823) := hZ10.w rfl
  have hI14 : FI 85 I (uI (uI (zI I 86) 85 1 4) 85 2 1073741823) := hI11.w rfl
  have hB15 : BZ (uI (uI (uI (zI I 86) 85 1 4) 85 2 1073741823) 85 3 0) := hB12.kw rfl rfl rfl
  have hZ16 : KI ([]) (uI (uI (uI (zI I 86) 85 1 4) 85 2 1073741823) 85 3 0) := hZ13.w rfl
  have hI17 : FI 85 I (uI (uI (uI (zI I 86) 85 1 4) 85 2 1073741823) 85 3 0) := hI14.w rfl
  have hB18 : BZ (uI (uI (uI (uI (zI I 86) 85 1 4) 85 2 1073741823) 85 3 0) 85 4 0) := hB15.kw rfl rfl rfl
  have hZ19 : KI ([]) (uI (uI (uI (uI (zI I 86) 85 1 4) 85 2 1073741823) 85 3 0) 85 4 0) := hZ16.w rfl
  have hI20 : FI 85 I (uI (uI (uI (uI (zI I 86) 85 1 4) 85 2 1073741823) 85 3 0) 85 4 0) := hI17.w rfl
  refine ⟨rfl, ?_⟩
  have hB21 : BZ (zI (uI (uI (uI (uI (zI I 86) 85 1 4) 85 2 1073741823) 85 3 0) 85 4 0) 87) := hB18.z
  have hZ22 : KI ([]) (zI (uI (uI (uI (uI (zI I 86) 85 1 4) 85 2 1073741823) 85 3 0) 85 4 0) 87) := hZ19.z rfl
  have hI23 : FI 85 I (zI (uI (uI (uI (uI (zI I 86) 85 1 4) 85 2 1073741823) 85 3 0) 85 4 0) 87) := hI20.z rfl
  have hJ24 : FJ 85 J (zJ (zJ J 86) 87) := hJ4.z rfl
  have hK25 : RK ((85, 0, 86) :: ([])) (zR (uR (zR R 86) 85 0 86) 87) := hK7.z rfl
  have hF26 : FR 85 R (zR (uR (zR R 86) 85 0 86) 87) := hF8.z rfl
  have hK27 : RK ((85, 5, 87) :: ((85, 0, 86) :: ([]))) (uR (zR (uR (zR R 86) 85 0 86) 87) 85 5 87) := hK25.u rfl
  have hF28 : FR 85 R (uR (zR (uR (zR R 86) 85 0 86) 87) 85 5 87) := hF26.u rfl
  refine ⟨rfl, ?_⟩
  have hB29 : BZ (zI (zI (uI (uI (uI (uI (zI I 86) 85 1 4) 85 2 1073741823) 85 3 0) 85 4 0) 87) 88) := hB21.z
  have hZ30 : KI ([]) (zI (zI (uI (uI (uI (uI (zI I 86) 85 1 4) 85 2 1073741823) 85 3 0) 85 4 0) 87) 88) := hZ22.z rfl
  have hI31 : FI 85 I (zI (zI (uI (uI (uI (uI (zI I 86) 85 1 4) 85 2 1073741823) 85 3 0) 85 4 0) 87) 88) := hI23.z rfl
  have hJ32 : FJ 85 J (zJ (zJ (zJ J 86) 87) 88) := hJ24.z rfl
  have hK33 : RK ((85, 5, 87) :: ((85, 0, 86) :: ([]))) (zR (uR (zR (uR (zR R 86) 85 0 86) 87) 85 5 87) 88) := hK27.z rfl
  have hF34 : FR 85 R (zR (uR (zR (uR (zR R 86) 85 0 86) 87) 85 5 87) 88) := hF28.z rfl
  have hK35 : RK ((85, 6, 88) :: ((85, 5, 87) :: ((85, 0, 86) :: ([])))) (uR (zR (uR (zR (uR (zR R 86) 85 0 86) 87) 85 5 87) 88) 85 6 88) := hK33.u rfl
  have hF36 : FR 85 R (uR (zR (uR (zR (uR (zR R 86) 85 0 86) 87) 85 5 87) 88) 85 6 88) := hF34.u rfl
  refine ⟨rfl, ?_⟩
  have hB37 : BZ (zI (zI (zI (uI (uI (uI (uI (zI I 86) 85 1 4) 85 2 1073741823) 85 3 0) 85 4 0) 87) 88) 89) := hB29.z
  have hZ38 : KI ([]) (zI (zI (zI (uI (uI (uI (uI (zI I 86) 85 1 4) 85 2 1073741823) 85 3 0) 85 4 0) 87) 88) 89) := hZ30.z rfl
  have hI39 : FI 85 I (zI (zI (zI (uI (uI (uI (uI (zI I 86) 85 1 4) 85 2 1073741823) 85 3 0) 85 4 0) 87) 88) 89) := hI31.z rfl
  have hJ40 : FJ 85 J (zJ (zJ (zJ (zJ J 86) 87) 88) 89) := hJ32.z rfl
  have hK41 : RK ((85, 6, 88) :: ((85, 5, 87) :: ((85, 0, 86) :: ([])))) (zR (uR (zR (uR (zR (uR (zR R 86) 85 0 86) 87) 85 5 87) 88) 85 6 88) 89) := hK35.z rfl
  have hF42 : FR 85 R (zR (uR (zR (uR (zR (uR (zR R 86) 85 0 86) 87) 85 5 87) 88) 85 6 88) 89) := hF36.z rfl
  have hK43 : RK ((85, 7, 89) :: ((85, 6, 88) :: ((85, 5, 87) :: ((85, 0, 86) :: ([]))))) (uR (zR (uR (zR (uR (zR (uR (zR R 86) 85 0 86) 87) 85 5 87) 88) 85 6 88) 89) 85 7 89) := hK41.u rfl
  have hF44 : FR 85 R (uR (zR (uR (zR (uR (zR (uR (zR R 86) 85 0 86) 87) 85 5 87) 88) 85 6 88) 89) 85 7 89) := hF42.u rfl
  refine ⟨rfl, ?_⟩
  have hB45 : BZ (zI (zI (zI (zI (uI (uI (uI (uI (zI I 86) 85 1 4) 85 2 1073741823) 85 3 0) 85 4 0) 87) 88) 89) 90) := hB37.z
  have hZ46 : KI ([]) (zI (zI (zI (zI (uI (uI (uI (uI (zI I 86) 85 1 4) 85 2 1073741823) 85 3 0) 85 4 0) 87) 88) 89) 90) := hZ38.z rfl
  have hI47 : FI 85 I (zI (zI (zI (zI (uI (uI (uI (uI (zI I 86) 85 1 4) 85 2 1073741823) 85 3 0) 85 4 0) 87) 88) 89) 90) := hI39.z rfl
  have hJ48 : FJ 85 J (zJ (zJ (zJ (zJ (zJ J 86) 87) 88) 89) 90) := hJ40.z rfl
  have hK49 : RK ((85, 7, 89) :: ((85, 6, 88) :: ((85, 5, 87) :: ((85, 0, 86) :: ([]))))) (zR (uR (zR (uR (zR (uR (zR (uR (zR R 86) 85 0 86) 87) 85 5 87) 88) 85 6 88) 89) 85 7 89) 90) := hK43.z rfl
  have hF50 : FR 85 R (zR (uR (zR (uR (zR (uR (zR (uR (zR R 86) 85 0 86) 87) 85 5 87) 88) 85 6 88) 89) 85 7 89) 90) := hF44.z rfl
  have hK51 : RK ((85, 8, 90) :: ((85, 7, 89) :: ((85, 6, 88) :: ((85, 5, 87) :: ((85, 0, 86) :: ([])))))) (uR (zR (uR (zR (uR (zR (uR (zR (uR (zR R 86) 85 0 86) 87) 85 5 87) 88) 85 6 88) 89) 85 7 89) 90) 85 8 90) := hK49.u rfl
  have hF52 : FR 85 R (uR (zR (uR (zR (uR (zR (uR (zR (uR (zR R 86) 85 0 86) 87) 85 5 87) 88) 85 6 88) 89) 85 7 89) 90) 85 8 90) := hF50.u rfl
  exact ⟨rfl, fun z => absurd z (by decide), hQ _ _ _ hB45 hF52 hK51 hI47 hZ46 hJ48 trivial⟩
noncomputable def zk_X2_init_91 : List (Nat × Nat × Int32) := []
noncomputable def lk_X2_init_91 : List (Nat × Nat × Nat) := (91, 7, 96) :: ((91, 6, 95) :: ((91, 5, 94) :: ((91, 4, 93) :: ((91, 3, 92) :: ([])))))
set_option maxHeartbeats 4000000 in
set_option maxRecDepth 100000 in
theorem ct_X2_init_91 {d : Nat} {Q : Qt} {I : Im} {J : Jm} {R : Rm} (hB : BZ I) (hQ : ∀ (I2 : Im) (J2 : Jm) (R2 : Rm), BZ I2 → FR 91 R R2 → RK lk_X2_init_91 R2 → FI 91 I I2 → KI zk_X2_init_91 I2 → FJ 91 J J2 → True → Q 0 0 I2 J2 R2) : AM (d + 1) 27 91 [.ref 91] I J R Q := by
  refine amc_of (k := kX2_init) rfl rfl rfl rfl rfl rfl (Nat.le_of_ble_eq_true rfl) (fun P hc => ?_)
  refine cs_X2_init_91_0_91 hc _ _ _ ?_
  refine ⟨Or.inl rfl, ?_⟩
  have hB1 : BZ (uI I 91 0 0) := hB.kw rfl rfl rfl
  have hZ2 : KI ([]) (uI I 91 0 0) := (KI.nil (I := I)).w rfl
  have hI3 : FI 91 I (uI I 91 0 0) := (FI.refl 91 I).w rfl
  have hB4 : BZ (uI (uI I 91 0 0) 91 1 0) := hB1.kw rfl rfl rfl
  have hZ5 : KI ([]) (uI (uI I 91 0 0) 91 1 0) := hZ2.w rfl
  have hI6 : FI 91 I (uI (uI I 91 0 0) 91 1 0) := hI3.w rfl
  have hB7 : BZ (uI (uI (uI I 91 0 0) 91 1 0) 91 2 0) := hB4.kw rfl rfl rfl
  have hZ8 : KI ([]) (uI (uI (uI I 91 0 0) 91 1 0) 91 2 0) := hZ5.w rfl
  have hI9 : FI 91 I (uI (uI (uI I 91 0 0) 91 1 0) 91 2 0) := hI6.w rfl
  refine ⟨rfl, ?_⟩
  have hB10 : BZ (zI (uI (uI (uI I 91 0 0) 91 1 0) 91 2 0) 92) := hB7.z
  have hZ11 : KI ([]) (zI (uI (uI (uI I 91 0 0) 91 1 0) 91 2 0) 92) := hZ8.z rfl
  have hI12 : FI 91 I (zI (uI (uI (uI I 91 0 0) 91 1 0) 91 2 0) 92) := hI9.z rfl
  have hJ13 : FJ 91 J (zJ J 92) := (FJ.refl 91 J).z rfl
  have hK14 : RK ([]) (zR R 92) := (RK.nil (R := R)).z rfl
  have hF15 : FR 91 R (zR R 92) := (FR.refl 91 R).z rfl
  have hK16 : RK ((91, 3, 92) :: ([])) (uR (zR R 92) 91 3 92) := hK14.u rfl
  have hF17 : FR 91 R (uR (zR R 92) 91 3 92) := hF15.u rfl
  refine ⟨rfl, ?_⟩
  have hB18 : BZ (zI (zI (uI (uI (uI I 91 0 0) 91 1 0) 91 2 0) 92) 93) := hB10.z
  have hZ19 : KI ([]) (zI (zI (uI (uI (uI I 91 0 0) 91 1 0) 91 2 0) 92) 93) := hZ11.z rfl
  have hI20 : FI 91 I (zI (zI (uI (uI (uI I 91 0 0) 91 1 0) 91 2 0) 92) 93) := hI12.z rfl
  have hJ21 : FJ 91 J (zJ (zJ J 92) 93) := hJ13.z rfl
  have hK22 : RK ((91, 3, 92) :: ([])) (zR (uR (zR R 92) 91 3 92) 93) := hK16.z rfl
  have hF23 : FR 91 R (zR (uR (zR R 92) 91 3 92) 93) := hF17.z rfl
  have hK24 : RK ((91, 4, 93) :: ((91, 3, 92) :: ([]))) (uR (zR (uR (zR R 92) 91 3 92) 93) 91 4 93) := hK22.u rfl
  have hF25 : FR 91 R (uR (zR (uR (zR R 92) 91 3 92) 93) 91 4 93) := hF23.u rfl
  refine ⟨rfl, ?_⟩
  have hB26 : BZ (zI (zI (zI (uI (uI (uI I 91 0 0) 91 1 0) 91 2 0) 92) 93) 94) := hB18.z
  have hZ27 : KI ([]) (zI (zI (zI (uI (uI (uI I 91 0 0) 91 1 0) 91 2 0) 92) 93) 94) := hZ19.z rfl
  have hI28 : FI 91 I (zI (zI (zI (uI (uI (uI I 91 0 0) 91 1 0) 91 2 0) 92) 93) 94) := hI20.z rfl
  have hJ29 : FJ 91 J (zJ (zJ (zJ J 92) 93) 94) := hJ21.z rfl
  have hK30 : RK ((91, 4, 93) :: ((91, 3, 92) :: ([]))) (zR (uR (zR (uR (zR R 92) 91 3 92) 93) 91 4 93) 94) := hK24.z rfl
  have hF31 : FR 91 R (zR (uR (zR (uR (zR R 92) 91 3 92) 93) 91 4 93) 94) := hF25.z rfl
  have hK32 : RK ((91, 5, 94) :: ((91, 4, 93) :: ((91, 3, 92) :: ([])))) (uR (zR (uR (zR (uR (zR R 92) 91 3 92) 93) 91 4 93) 94) 91 5 94) := hK30.u rfl
  have hF33 : FR 91 R (uR (zR (uR (zR (uR (zR R 92) 91 3 92) 93) 91 4 93) 94) 91 5 94) := hF31.u rfl
  refine ⟨rfl, ?_⟩
  have hB34 : BZ (zI (zI (zI (zI (uI (uI (uI I 91 0 0) 91 1 0) 91 2 0) 92) 93) 94) 95) := hB26.z
  have hZ35 : KI ([]) (zI (zI (zI (zI (uI (uI (uI I 91 0 0) 91 1 0) 91 2 0) 92) 93) 94) 95) := hZ27.z rfl
  have hI36 : FI 91 I (zI (zI (zI (zI (uI (uI (uI I 91 0 0) 91 1 0) 91 2 0) 92) 93) 94) 95) := hI28.z rfl
  have hJ37 : FJ 91 J (zJ (zJ (zJ (zJ J 92) 93) 94) 95) := hJ29.z rfl
  have hK38 : RK ((91, 5, 94) :: ((91, 4, 93) :: ((91, 3, 92) :: ([])))) (zR (uR (zR (uR (zR (uR (zR R 92) 91 3 92) 93) 91 4 93) 94) 91 5 94) 95) := hK32.z rfl
  have hF39 : FR 91 R (zR (uR (zR (uR (zR (uR (zR R 92) 91 3 92) 93) 91 4 93) 94) 91 5 94) 95) := hF33.z rfl
  have hK40 : RK ((91, 6, 95) :: ((91, 5, 94) :: ((91, 4, 93) :: ((91, 3, 92) :: ([]))))) (uR (zR (uR (zR (uR (zR (uR (zR R 92) 91 3 92) 93) 91 4 93) 94) 91 5 94) 95) 91 6 95) := hK38.u rfl
  have hF41 : FR 91 R (uR (zR (uR (zR (uR (zR (uR (zR R 92) 91 3 92) 93) 91 4 93) 94) 91 5 94) 95) 91 6 95) := hF39.u rfl
  refine ⟨rfl, ?_⟩
  have hB42 : BZ (zI (zI (zI (zI (zI (uI (uI (uI I 91 0 0) 91 1 0) 91 2 0) 92) 93) 94) 95) 96) := hB34.z
  have hZ43 : KI ([]) (zI (zI (zI (zI (zI (uI (uI (uI I 91 0 0) 91 1 0) 91 2 0) 92) 93) 94) 95) 96) := hZ35.z rfl
  have hI44 : FI 91 I (zI (zI (zI (zI (zI (uI (uI (uI I 91 0 0) 91 1 0) 91 2 0) 92) 93) 94) 95) 96) := hI36.z rfl
  have hJ45 : FJ 91 J (zJ (zJ (zJ (zJ (zJ J 92) 93) 94) 95) 96) := hJ37.z rfl
  have hK46 : RK ((91, 6, 95) :: ((91, 5, 94) :: ((91, 4, 93) :: ((91, 3, 92) :: ([]))))) (zR (uR (zR (uR (zR (uR (zR (uR (zR R 92) 91 3 92) 93) 91 4 93) 94) 91 5 94) 95) 91 6 95) 96) := hK40.z rfl
  have hF47 : FR 91 R (zR (uR (zR (uR (zR (uR (zR (uR (zR R 92) 91 3 92) 93) 91 4 93) 94) 91 5 94) 95) 91 6 95) 96) := hF41.z rfl
  have hK48 : RK ((91, 7, 96) :: ((91, 6, 95) :: ((91, 5, 94) :: ((91, 4, 93) :: ((91, 3, 92) :: ([])))))) (uR (zR (uR (zR (uR (zR (uR (zR (uR (zR R 92) 91 3 92) 93) 91 4 93) 94) 91 5 94) 95) 91 6 95) 96) 91 7 96) := hK46.u rfl
  have hF49 : FR 91 R (uR (zR (uR (zR (uR (zR (uR (zR (uR (zR R 92) 91 3 92) 93) 91 4 93) 94) 91 5 94) 95) 91 6 95) 96) 91 7 96) := hF47.u rfl
  exact ⟨rfl, fun z => absurd z (by decide), hQ _ _ _ hB42 hF49 hK48 hI44 hZ43 hJ45 trivial⟩
noncomputable def zk_X11_init_1 : List (Nat × Nat × Int32) := zk_X2_init_91 ++ (zk_X0_init_85 ++ (zk_X2_init_79 ++ (zk_X0_init_73 ++ (zk_X2_init_67 ++ (zk_X0_init_61 ++ (zk_X10_init_59 ++ (zk_X10_init_57 ++ (zk_X10_init_55 ++ (zk_X10_init_53 ++ (zk_X4_init_51 ++ (zk_X4_init_49 ++ (zk_X9_init_45 ++ (zk_X5_init_42 ++ (zk_X8_init_39 ++ (zk_X7_init_35 ++ (zk_X2_init_27 ++ (zk_X2_init_21 ++ (zk_X0_init_15 ++ (zk_X0_init_9 ++ (zk_X3_init_7 ++ (zk_X1_init_6 ++ (zk_X6_init_3 ++ ([])))))))))))))))))))))))
noncomputable def lk_X11_init_1 : List (Nat × Nat × Nat) := (34, 2, 91) :: (lk_X2_init_91 ++ ((33, 2, 85) :: (lk_X0_init_85 ++ ((34, 1, 79) :: (lk_X2_init_79 ++ ((33, 1, 73) :: (lk_X0_init_73 ++ ((34, 0, 67) :: (lk_X2_init_67 ++ ((33, 0, 61) :: (lk_X0_init_61 ++ ((2, 3, 59) :: (lk_X10_init_59 ++ ((2, 2, 57) :: (lk_X10_init_57 ++ ((2, 1, 55) :: (lk_X10_init_55 ++ ((2, 0, 53) :: (lk_X10_init_53 ++ ((1, 19, 51) :: (lk_X4_init_51 ++ ((1, 18, 49) :: (lk_X4_init_49 ++ ((1, 17, 45) :: (lk_X9_init_45 ++ ((1, 16, 42) :: (lk_X5_init_42 ++ ((1, 15, 39) :: (lk_X8_init_39 ++ ((1, 14, 35) :: (lk_X7_init_35 ++ ((1, 12, 34) :: ((1, 11, 33) :: ((1, 10, 27) :: (lk_X2_init_27 ++ ((1, 9, 21) :: (lk_X2_init_21 ++ ((1, 8, 15) :: (lk_X0_init_15 ++ ((1, 7, 9) :: (lk_X0_init_9 ++ ((1, 6, 7) :: (lk_X3_init_7 ++ ((1, 5, 6) :: ((1, 4, 3) :: (lk_X6_init_3 ++ ((1, 3, 2) :: ([]))))))))))))))))))))))))))))))))))))))))))))))))
set_option maxHeartbeats 4000000 in
set_option maxRecDepth 100000 in
theorem ct_X11_init_1 {d : Nat} {Q : Qt} {I : Im} {J : Jm} {R : Rm} (hB : BZ I) (hQ : ∀ (I2 : Im) (J2 : Jm) (R2 : Rm), BZ I2 → FR 1 R R2 → RK lk_X11_init_1 R2 → FI 1 I I2 → KI zk_X11_init_1 I2 → FJ 1 J J2 → (J2 47 0 = 0 ∧ (∀ k, k < 22 → J2 5 k = rsv.getD k 0) ∧ J2 1 1 = 0 ∧ J2 1 2 = 1) → Q 0 0 I2 J2 R2) : AM (d + 7) 99 1 [.ref 1] I J R Q := by
  refine amc_of (k := kX11_init) rfl rfl rfl rfl rfl rfl (Nat.le_of_ble_eq_true rfl) (fun P hc => ?_)
  refine cs_X11_init_1_0_1 hc _ _ _ ?_
  have hB1 : BZ (uI I 1 0 0) := hB.kw rfl rfl rfl
  have hZ2 : KI ([]) (uI I 1 0 0) := (KI.nil (I := I)).w rfl
  have hI3 : FI 1 I (uI I 1 0 0) := (FI.refl 1 I).w rfl
  have jk4 : (uJ J 1 1 0) 1 1 = 0 := jd_eq
  have hJ5 : FJ 1 J (uJ J 1 1 0) := (FJ.refl 1 J).w rfl
  have jk6 : (uJ (uJ J 1 1 0) 1 2 1) 1 1 = 0 := (jd_k (by decide)).trans jk4
  have jk7 : (uJ (uJ J 1 1 0) 1 2 1) 1 2 = 1 := jd_eq
  have hJ8 : FJ 1 J (uJ (uJ J 1 1 0) 1 2 1) := hJ5.w rfl
  refine ⟨rfl, ?_⟩
  have hB9 : BZ (zI (uI I 1 0 0) 2) := hB1.z
  have hZ10 : KI ([]) (zI (uI I 1 0 0) 2) := hZ2.z rfl
  have hI11 : FI 1 I (zI (uI I 1 0 0) 2) := hI3.z rfl
  have jk12 : (zJ (uJ (uJ J 1 1 0) 1 2 1) 2) 1 1 = 0 := (congrFun (zJ_ne (by decide)) 1).trans jk6
  have jk13 : (zJ (uJ (uJ J 1 1 0) 1 2 1) 2) 1 2 = 1 := (congrFun (zJ_ne (by decide)) 2).trans jk7
  have hJ14 : FJ 1 J (zJ (uJ (uJ J 1 1 0) 1 2 1) 2) := hJ8.z rfl
  have hK15 : RK ([]) (zR R 2) := (RK.nil (R := R)).z rfl
  have hF16 : FR 1 R (zR R 2) := (FR.refl 1 R).z rfl
  have hK17 : RK ((1, 3, 2) :: ([])) (uR (zR R 2) 1 3 2) := hK15.u rfl
  have hF18 : FR 1 R (uR (zR R 2) 1 3 2) := hF16.u rfl
  have hB19 : BZ (zI (zI (uI I 1 0 0) 2) 3) := hB9.z
  have hZ20 : KI ([]) (zI (zI (uI I 1 0 0) 2) 3) := hZ10.z rfl
  have hI21 : FI 1 I (zI (zI (uI I 1 0 0) 2) 3) := hI11.z rfl
  have jk22 : (zJ (zJ (uJ (uJ J 1 1 0) 1 2 1) 2) 3) 1 1 = 0 := (congrFun (zJ_ne (by decide)) 1).trans jk12
  have jk23 : (zJ (zJ (uJ (uJ J 1 1 0) 1 2 1) 2) 3) 1 2 = 1 := (congrFun (zJ_ne (by decide)) 2).trans jk13
  have hJ24 : FJ 1 J (zJ (zJ (uJ (uJ J 1 1 0) 1 2 1) 2) 3) := hJ14.z rfl
  have hK25 : RK ((1, 3, 2) :: ([])) (zR (uR (zR R 2) 1 3 2) 3) := hK17.z rfl
  have hF26 : FR 1 R (zR (uR (zR R 2) 1 3 2) 3) := hF18.z rfl
  refine ct_X6_init_3 hB19 (fun I27 J28 R29 hB30 hF31 hK32 hI33 hZ34 hJ35 jz36 => ?_)
  have hZ37 : KI (zk_X6_init_3 ++ ([])) I27 := hZ34.app (hZ20.fr hI33 rfl)
  have hI38 : FI 1 I I27 := fun o ho => (hI33 o (by omega)).trans (hI21 o ho)
  have hJ39 : FJ 1 J J28 := fun o ho => (hJ35 o (by omega)).trans (hJ24 o ho)
  have jk40 : J28 1 1 = 0 := (congrFun (hJ35 1 (by decide)) 1).trans jk22
  have jk41 : J28 1 2 = 1 := (congrFun (hJ35 1 (by decide)) 2).trans jk23
  have hK42 : RK (lk_X6_init_3 ++ ((1, 3, 2) :: ([]))) R29 := hK32.app (hK25.fr hF31 rfl)
  have hF43 : FR 1 R R29 := fun o ho => (hF31 o (by omega)).trans (hF26 o ho)
  have hK44 : RK ((1, 4, 3) :: (lk_X6_init_3 ++ ((1, 3, 2) :: ([])))) (uR R29 1 4 3) := hK42.u rfl
  have hF45 : FR 1 R (uR R29 1 4 3) := hF43.u rfl
  have hB46 : BZ (zI I27 6) := hB30.z
  have hZ47 : KI (zk_X6_init_3 ++ ([])) (zI I27 6) := hZ37.z rfl
  have hI48 : FI 1 I (zI I27 6) := hI38.z rfl
  have jk49 : (zJ J28 6) 1 1 = 0 := (congrFun (zJ_ne (by decide)) 1).trans jk40
  have jk50 : (zJ J28 6) 1 2 = 1 := (congrFun (zJ_ne (by decide)) 2).trans jk41
  have hJ51 : FJ 1 J (zJ J28 6) := hJ39.z rfl
  have jf52 : ∀ k, k < 22 → (zJ J28 6) 5 k = rsv.getD k 0 := J5.z jz36 rfl
  have hK53 : RK ((1, 4, 3) :: (lk_X6_init_3 ++ ((1, 3, 2) :: ([])))) (zR (uR R29 1 4 3) 6) := hK44.z rfl
  have hF54 : FR 1 R (zR (uR R29 1 4 3) 6) := hF45.z rfl
  refine ct_X1_init_6 hB46 (fun I55 J56 R57 hB58 hF59 hK60 hI61 hZ62 hJ63 jz64 => ?_)
  have hZ65 : KI (zk_X1_init_6 ++ (zk_X6_init_3 ++ ([]))) I55 := hZ62.app (hZ47.fr hI61 rfl)
  have hI66 : FI 1 I I55 := fun o ho => (hI61 o (by omega)).trans (hI48 o ho)
  have hJ67 : FJ 1 J J56 := fun o ho => (hJ63 o (by omega)).trans (hJ51 o ho)
  have jk68 : J56 1 1 = 0 := (congrFun (hJ63 1 (by decide)) 1).trans jk49
  have jk69 : J56 1 2 = 1 := (congrFun (hJ63 1 (by decide)) 2).trans jk50
  have jf70 : ∀ k, k < 22 → J56 5 k = rsv.getD k 0 := fun k hk => (congrFun (hJ63 5 (by decide)) k).trans (jf52 k hk)
  subst hF59
  have hK71 : RK ((1, 5, 6) :: ((1, 4, 3) :: (lk_X6_init_3 ++ ((1, 3, 2) :: ([]))))) (uR (zR (uR R29 1 4 3) 6) 1 5 6) := hK53.u rfl
  have hF72 : FR 1 R (uR (zR (uR R29 1 4 3) 6) 1 5 6) := hF54.u rfl
  have hB73 : BZ (zI I55 7) := hB58.z
  have hZ74 : KI (zk_X1_init_6 ++ (zk_X6_init_3 ++ ([]))) (zI I55 7) := hZ65.z rfl
  have hI75 : FI 1 I (zI I55 7) := hI66.z rfl
  have jk76 : (zJ J56 7) 1 1 = 0 := (congrFun (zJ_ne (by decide)) 1).trans jk68
  have jk77 : (zJ J56 7) 1 2 = 1 := (congrFun (zJ_ne (by decide)) 2).trans jk69
  have hJ78 : FJ 1 J (zJ J56 7) := hJ67.z rfl
  have jf79 : ∀ k, k < 22 → (zJ J56 7) 5 k = rsv.getD k 0 := J5.z jf70 rfl
  have hK80 : RK ((1, 5, 6) :: ((1, 4, 3) :: (lk_X6_init_3 ++ ((1, 3, 2) :: ([]))))) (zR (uR (zR (uR R29 1 4 3) 6) 1 5 6) 7) := hK71.z rfl
  have hF81 : FR 1 R (zR (uR (zR (uR R29 1 4 3) 6) 1 5 6) 7) := hF72.z rfl
  refine ct_X3_init_7 hB73 (fun I82 J83 R84 hB85 hF86 hK87 hI88 hZ89 hJ90 jz91 => ?_)
  have hZ92 : KI (zk_X3_init_7 ++ (zk_X1_init_6 ++ (zk_X6_init_3 ++ ([])))) I82 := hZ89.app (hZ74.fr hI88 rfl)
  have hI93 : FI 1 I I82 := fun o ho => (hI88 o (by omega)).trans (hI75 o ho)
  have hJ94 : FJ 1 J J83 := fun o ho => (hJ90 o (by omega)).trans (hJ78 o ho)
  have jk95 : J83 1 1 = 0 := (congrFun (hJ90 1 (by decide)) 1).trans jk76
  have jk96 : J83 1 2 = 1 := (congrFun (hJ90 1 (by decide)) 2).trans jk77
  have jf97 : ∀ k, k < 22 → J83 5 k = rsv.getD k 0 := fun k hk => (congrFun (hJ90 5 (by decide)) k).trans (jf79 k hk)
  have hK98 : RK (lk_X3_init_7 ++ ((1, 5, 6) :: ((1, 4, 3) :: (lk_X6_init_3 ++ ((1, 3, 2) :: ([])))))) R84 := hK87.app (hK80.fr hF86 rfl)
  have hF99 : FR 1 R R84 := fun o ho => (hF86 o (by omega)).trans (hF81 o ho)
  have hK100 : RK ((1, 6, 7) :: (lk_X3_init_7 ++ ((1, 5, 6) :: ((1, 4, 3) :: (lk_X6_init_3 ++ ((1, 3, 2) :: ([]))))))) (uR R84 1 6 7) := hK98.u rfl
  have hF101 : FR 1 R (uR R84 1 6 7) := hF99.u rfl
  have hB102 : BZ (zI I82 9) := hB85.z
  have hZ103 : KI (zk_X3_init_7 ++ (zk_X1_init_6 ++ (zk_X6_init_3 ++ ([])))) (zI I82 9) := hZ92.z rfl
  have hI104 : FI 1 I (zI I82 9) := hI93.z rfl
  have jk105 : (zJ J83 9) 1 1 = 0 := (congrFun (zJ_ne (by decide)) 1).trans jk95
  have jk106 : (zJ J83 9) 1 2 = 1 := (congrFun (zJ_ne (by decide)) 2).trans jk96
  have hJ107 : FJ 1 J (zJ J83 9) := hJ94.z rfl
  have jf108 : ∀ k, k < 22 → (zJ J83 9) 5 k = rsv.getD k 0 := J5.z jf97 rfl
  have hK109 : RK ((1, 6, 7) :: (lk_X3_init_7 ++ ((1, 5, 6) :: ((1, 4, 3) :: (lk_X6_init_3 ++ ((1, 3, 2) :: ([]))))))) (zR (uR R84 1 6 7) 9) := hK100.z rfl
  have hF110 : FR 1 R (zR (uR R84 1 6 7) 9) := hF101.z rfl
  refine ct_X0_init_9 hB102 (fun I111 J112 R113 hB114 hF115 hK116 hI117 hZ118 hJ119 jz120 => ?_)
  have hZ121 : KI (zk_X0_init_9 ++ (zk_X3_init_7 ++ (zk_X1_init_6 ++ (zk_X6_init_3 ++ ([]))))) I111 := hZ118.app (hZ103.fr hI117 rfl)
  have hI122 : FI 1 I I111 := fun o ho => (hI117 o (by omega)).trans (hI104 o ho)
  have hJ123 : FJ 1 J J112 := fun o ho => (hJ119 o (by omega)).trans (hJ107 o ho)
  have jk124 : J112 1 1 = 0 := (congrFun (hJ119 1 (by decide)) 1).trans jk105
  have jk125 : J112 1 2 = 1 := (congrFun (hJ119 1 (by decide)) 2).trans jk106
  have jf126 : ∀ k, k < 22 → J112 5 k = rsv.getD k 0 := fun k hk => (congrFun (hJ119 5 (by decide)) k).trans (jf108 k hk)
  have hK127 : RK (lk_X0_init_9 ++ ((1, 6, 7) :: (lk_X3_init_7 ++ ((1, 5, 6) :: ((1, 4, 3) :: (lk_X6_init_3 ++ ((1, 3, 2) :: ([])))))))) R113 := hK116.app (hK109.fr hF115 rfl)
  have hF128 : FR 1 R R113 := fun o ho => (hF115 o (by omega)).trans (hF110 o ho)
  refine ⟨by decide, ?_⟩
  have hK129 : RK ((1, 7, 9) :: (lk_X0_init_9 ++ ((1, 6, 7) :: (lk_X3_init_7 ++ ((1, 5, 6) :: ((1, 4, 3) :: (lk_X6_init_3 ++ ((1, 3, 2) :: ([]))))))))) (uR R113 1 7 9) := hK127.u rfl
  have hF130 : FR 1 R (uR R113 1 7 9) := hF128.u rfl
  have hB131 : BZ (zI I111 15) := hB114.z
  have hZ132 : KI (zk_X0_init_9 ++ (zk_X3_init_7 ++ (zk_X1_init_6 ++ (zk_X6_init_3 ++ ([]))))) (zI I111 15) := hZ121.z rfl
  have hI133 : FI 1 I (zI I111 15) := hI122.z rfl
  have jk134 : (zJ J112 15) 1 1 = 0 := (congrFun (zJ_ne (by decide)) 1).trans jk124
  have jk135 : (zJ J112 15) 1 2 = 1 := (congrFun (zJ_ne (by decide)) 2).trans jk125
  have hJ136 : FJ 1 J (zJ J112 15) := hJ123.z rfl
  have jf137 : ∀ k, k < 22 → (zJ J112 15) 5 k = rsv.getD k 0 := J5.z jf126 rfl
  have hK138 : RK ((1, 7, 9) :: (lk_X0_init_9 ++ ((1, 6, 7) :: (lk_X3_init_7 ++ ((1, 5, 6) :: ((1, 4, 3) :: (lk_X6_init_3 ++ ((1, 3, 2) :: ([]))))))))) (zR (uR R113 1 7 9) 15) := hK129.z rfl
  have hF139 : FR 1 R (zR (uR R113 1 7 9) 15) := hF130.z rfl
  refine ct_X0_init_15 hB131 (fun I140 J141 R142 hB143 hF144 hK145 hI146 hZ147 hJ148 jz149 => ?_)
  have hZ150 : KI (zk_X0_init_15 ++ (zk_X0_init_9 ++ (zk_X3_init_7 ++ (zk_X1_init_6 ++ (zk_X6_init_3 ++ ([])))))) I140 := hZ147.app (hZ132.fr hI146 rfl)
  have hI151 : FI 1 I I140 := fun o ho => (hI146 o (by omega)).trans (hI133 o ho)
  have hJ152 : FJ 1 J J141 := fun o ho => (hJ148 o (by omega)).trans (hJ136 o ho)
  have jk153 : J141 1 1 = 0 := (congrFun (hJ148 1 (by decide)) 1).trans jk134
  have jk154 : J141 1 2 = 1 := (congrFun (hJ148 1 (by decide)) 2).trans jk135
  have jf155 : ∀ k, k < 22 → J141 5 k = rsv.getD k 0 := fun k hk => (congrFun (hJ148 5 (by decide)) k).trans (jf137 k hk)
  have hK156 : RK (lk_X0_init_15 ++ ((1, 7, 9) :: (lk_X0_init_9 ++ ((1, 6, 7) :: (lk_X3_init_7 ++ ((1, 5, 6) :: ((1, 4, 3) :: (lk_X6_init_3 ++ ((1, 3, 2) :: ([])))))))))) R142 := hK145.app (hK138.fr hF144 rfl)
  have hF157 : FR 1 R R142 := fun o ho => (hF144 o (by omega)).trans (hF139 o ho)
  refine ⟨by decide, ?_⟩
  have hK158 : RK ((1, 8, 15) :: (lk_X0_init_15 ++ ((1, 7, 9) :: (lk_X0_init_9 ++ ((1, 6, 7) :: (lk_X3_init_7 ++ ((1, 5, 6) :: ((1, 4, 3) :: (lk_X6_init_3 ++ ((1, 3, 2) :: ([]))))))))))) (uR R142 1 8 15) := hK156.u rfl
  have hF159 : FR 1 R (uR R142 1 8 15) := hF157.u rfl
  have hB160 : BZ (zI I140 21) := hB143.z
  have hZ161 : KI (zk_X0_init_15 ++ (zk_X0_init_9 ++ (zk_X3_init_7 ++ (zk_X1_init_6 ++ (zk_X6_init_3 ++ ([])))))) (zI I140 21) := hZ150.z rfl
  have hI162 : FI 1 I (zI I140 21) := hI151.z rfl
  have jk163 : (zJ J141 21) 1 1 = 0 := (congrFun (zJ_ne (by decide)) 1).trans jk153
  have jk164 : (zJ J141 21) 1 2 = 1 := (congrFun (zJ_ne (by decide)) 2).trans jk154
  have hJ165 : FJ 1 J (zJ J141 21) := hJ152.z rfl
  have jf166 : ∀ k, k < 22 → (zJ J141 21) 5 k = rsv.getD k 0 := J5.z jf155 rfl
  have hK167 : RK ((1, 8, 15) :: (lk_X0_init_15 ++ ((1, 7, 9) :: (lk_X0_init_9 ++ ((1, 6, 7) :: (lk_X3_init_7 ++ ((1, 5, 6) :: ((1, 4, 3) :: (lk_X6_init_3 ++ ((1, 3, 2) :: ([]))))))))))) (zR (uR R142 1 8 15) 21) := hK158.z rfl
  have hF168 : FR 1 R (zR (uR R142 1 8 15) 21) := hF159.z rfl
  refine ct_X2_init_21 hB160 (fun I169 J170 R171 hB172 hF173 hK174 hI175 hZ176 hJ177 jz178 => ?_)
  have hZ179 : KI (zk_X2_init_21 ++ (zk_X0_init_15 ++ (zk_X0_init_9 ++ (zk_X3_init_7 ++ (zk_X1_init_6 ++ (zk_X6_init_3 ++ ([]))))))) I169 := hZ176.app (hZ161.fr hI175 rfl)
  have hI180 : FI 1 I I169 := fun o ho => (hI175 o (by omega)).trans (hI162 o ho)
  have hJ181 : FJ 1 J J170 := fun o ho => (hJ177 o (by omega)).trans (hJ165 o ho)
  have jk182 : J170 1 1 = 0 := (congrFun (hJ177 1 (by decide)) 1).trans jk163
  have jk183 : J170 1 2 = 1 := (congrFun (hJ177 1 (by decide)) 2).trans jk164
  have jf184 : ∀ k, k < 22 → J170 5 k = rsv.getD k 0 := fun k hk => (congrFun (hJ177 5 (by decide)) k).trans (jf166 k hk)
  have hK185 : RK (lk_X2_init_21 ++ ((1, 8, 15) :: (lk_X0_init_15 ++ ((1, 7, 9) :: (lk_X0_init_9 ++ ((1, 6, 7) :: (lk_X3_init_7 ++ ((1, 5, 6) :: ((1, 4, 3) :: (lk_X6_init_3 ++ ((1, 3, 2) :: ([])))))))))))) R171 := hK174.app (hK167.fr hF173 rfl)
  have hF186 : FR 1 R R171 := fun o ho => (hF173 o (by omega)).trans (hF168 o ho)
  refine ⟨by decide, ?_⟩
  have hK187 : RK ((1, 9, 21) :: (lk_X2_init_21 ++ ((1, 8, 15) :: (lk_X0_init_15 ++ ((1, 7, 9) :: (lk_X0_init_9 ++ ((1, 6, 7) :: (lk_X3_init_7 ++ ((1, 5, 6) :: ((1, 4, 3) :: (lk_X6_init_3 ++ ((1, 3, 2) :: ([]))))))))))))) (uR R171 1 9 21) := hK185.u rfl
  have hF188 : FR 1 R (uR R171 1 9 21) := hF186.u rfl
  have hB189 : BZ (zI I169 27) := hB172.z
  have hZ190 : KI (zk_X2_init_21 ++ (zk_X0_init_15 ++ (zk_X0_init_9 ++ (zk_X3_init_7 ++ (zk_X1_init_6 ++ (zk_X6_init_3 ++ ([]))))))) (zI I169 27) := hZ179.z rfl
  have hI191 : FI 1 I (zI I169 27) := hI180.z rfl
  have jk192 : (zJ J170 27) 1 1 = 0 := (congrFun (zJ_ne (by decide)) 1).trans jk182
  have jk193 : (zJ J170 27) 1 2 = 1 := (congrFun (zJ_ne (by decide)) 2).trans jk183
  have hJ194 : FJ 1 J (zJ J170 27) := hJ181.z rfl
  have jf195 : ∀ k, k < 22 → (zJ J170 27) 5 k = rsv.getD k 0 := J5.z jf184 rfl
  have hK196 : RK ((1, 9, 21) :: (lk_X2_init_21 ++ ((1, 8, 15) :: (lk_X0_init_15 ++ ((1, 7, 9) :: (lk_X0_init_9 ++ ((1, 6, 7) :: (lk_X3_init_7 ++ ((1, 5, 6) :: ((1, 4, 3) :: (lk_X6_init_3 ++ ((1, 3, 2) :: ([]))))))))))))) (zR (uR R171 1 9 21) 27) := hK187.z rfl
  have hF197 : FR 1 R (zR (uR R171 1 9 21) 27) := hF188.z rfl
  refine ct_X2_init_27 hB189 (fun I198 J199 R200 hB201 hF202 hK203 hI204 hZ205 hJ206 jz207 => ?_)
  have hZ208 : KI (zk_X2_init_27 ++ (zk_X2_init_21 ++ (zk_X0_init_15 ++ (zk_X0_init_9 ++ (zk_X3_init_7 ++ (zk_X1_init_6 ++ (zk_X6_init_3 ++ ([])))))))) I198 := hZ205.app (hZ190.fr hI204 rfl)
  have hI209 : FI 1 I I198 := fun o ho => (hI204 o (by omega)).trans (hI191 o ho)
  have hJ210 : FJ 1 J J199 := fun o ho => (hJ206 o (by omega)).trans (hJ194 o ho)
  have jk211 : J199 1 1 = 0 := (congrFun (hJ206 1 (by decide)) 1).trans jk192
  have jk212 : J199 1 2 = 1 := (congrFun (hJ206 1 (by decide)) 2).trans jk193
  have jf213 : ∀ k, k < 22 → J199 5 k = rsv.getD k 0 := fun k hk => (congrFun (hJ206 5 (by decide)) k).trans (jf195 k hk)
  have hK214 : RK (lk_X2_init_27 ++ ((1, 9, 21) :: (lk_X2_init_21 ++ ((1, 8, 15) :: (lk_X0_init_15 ++ ((1, 7, 9) :: (lk_X0_init_9 ++ ((1, 6, 7) :: (lk_X3_init_7 ++ ((1, 5, 6) :: ((1, 4, 3) :: (lk_X6_init_3 ++ ((1, 3, 2) :: ([])))))))))))))) R200 := hK203.app (hK196.fr hF202 rfl)
  have hF215 : FR 1 R R200 := fun o ho => (hF202 o (by omega)).trans (hF197 o ho)
  refine ⟨by decide, ?_⟩
  have hK216 : RK ((1, 10, 27) :: (lk_X2_init_27 ++ ((1, 9, 21) :: (lk_X2_init_21 ++ ((1, 8, 15) :: (lk_X0_init_15 ++ ((1, 7, 9) :: (lk_X0_init_9 ++ ((1, 6, 7) :: (lk_X3_init_7 ++ ((1, 5, 6) :: ((1, 4, 3) :: (lk_X6_init_3 ++ ((1, 3, 2) :: ([]))))))))))))))) (uR R200 1 10 27) := hK214.u rfl
  have hF217 : FR 1 R (uR R200 1 10 27) := hF215.u rfl
  refine ⟨rfl, ?_⟩
  have hB218 : BZ (zI I198 33) := hB201.z
  have hZ219 : KI (zk_X2_init_27 ++ (zk_X2_init_21 ++ (zk_X0_init_15 ++ (zk_X0_init_9 ++ (zk_X3_init_7 ++ (zk_X1_init_6 ++ (zk_X6_init_3 ++ ([])))))))) (zI I198 33) := hZ208.z rfl
  have hI220 : FI 1 I (zI I198 33) := hI209.z rfl
  have jk221 : (zJ J199 33) 1 1 = 0 := (congrFun (zJ_ne (by decide)) 1).trans jk211
  have jk222 : (zJ J199 33) 1 2 = 1 := (congrFun (zJ_ne (by decide)) 2).trans jk212
  have hJ223 : FJ 1 J (zJ J199 33) := hJ210.z rfl
  have jf224 : ∀ k, k < 22 → (zJ J199 33) 5 k = rsv.getD k 0 := J5.z jf213 rfl
  have hK225 : RK ((1, 10, 27) :: (lk_X2_init_27 ++ ((1, 9, 21) :: (lk_X2_init_21 ++ ((1, 8, 15) :: (lk_X0_init_15 ++ ((1, 7, 9) :: (lk_X0_init_9 ++ ((1, 6, 7) :: (lk_X3_init_7 ++ ((1, 5, 6) :: ((1, 4, 3) :: (lk_X6_init_3 ++ ((1, 3, 2) :: ([]))))))))))))))) (zR (uR R200 1 10 27) 33) := hK216.z rfl
  have hF226 : FR 1 R (zR (uR R200 1 10 27) 33) := hF217.z rfl
  have hK227 : RK ((1, 11, 33) :: ((1, 10, 27) :: (lk_X2_init_27 ++ ((1, 9, 21) :: (lk_X2_init_21 ++ ((1, 8, 15) :: (lk_X0_init_15 ++ ((1, 7, 9) :: (lk_X0_init_9 ++ ((1, 6, 7) :: (lk_X3_init_7 ++ ((1, 5, 6) :: ((1, 4, 3) :: (lk_X6_init_3 ++ ((1, 3, 2) :: ([])))))))))))))))) (uR (zR (uR R200 1 10 27) 33) 1 11 33) := hK225.u rfl
  have hF228 : FR 1 R (uR (zR (uR R200 1 10 27) 33) 1 11 33) := hF226.u rfl
  refine ⟨rfl, ?_⟩
  have hB229 : BZ (zI (zI I198 33) 34) := hB218.z
  have hZ230 : KI (zk_X2_init_27 ++ (zk_X2_init_21 ++ (zk_X0_init_15 ++ (zk_X0_init_9 ++ (zk_X3_init_7 ++ (zk_X1_init_6 ++ (zk_X6_init_3 ++ ([])))))))) (zI (zI I198 33) 34) := hZ219.z rfl
  have hI231 : FI 1 I (zI (zI I198 33) 34) := hI220.z rfl
  have jk232 : (zJ (zJ J199 33) 34) 1 1 = 0 := (congrFun (zJ_ne (by decide)) 1).trans jk221
  have jk233 : (zJ (zJ J199 33) 34) 1 2 = 1 := (congrFun (zJ_ne (by decide)) 2).trans jk222
  have hJ234 : FJ 1 J (zJ (zJ J199 33) 34) := hJ223.z rfl
  have jf235 : ∀ k, k < 22 → (zJ (zJ J199 33) 34) 5 k = rsv.getD k 0 := J5.z jf224 rfl
  have hK236 : RK ((1, 11, 33) :: ((1, 10, 27) :: (lk_X2_init_27 ++ ((1, 9, 21) :: (lk_X2_init_21 ++ ((1, 8, 15) :: (lk_X0_init_15 ++ ((1, 7, 9) :: (lk_X0_init_9 ++ ((1, 6, 7) :: (lk_X3_init_7 ++ ((1, 5, 6) :: ((1, 4, 3) :: (lk_X6_init_3 ++ ((1, 3, 2) :: ([])))))))))))))))) (zR (uR (zR (uR R200 1 10 27) 33) 1 11 33) 34) := hK227.z rfl
  have hF237 : FR 1 R (zR (uR (zR (uR R200 1 10 27) 33) 1 11 33) 34) := hF228.z rfl
  have hK238 : RK ((1, 12, 34) :: ((1, 11, 33) :: ((1, 10, 27) :: (lk_X2_init_27 ++ ((1, 9, 21) :: (lk_X2_init_21 ++ ((1, 8, 15) :: (lk_X0_init_15 ++ ((1, 7, 9) :: (lk_X0_init_9 ++ ((1, 6, 7) :: (lk_X3_init_7 ++ ((1, 5, 6) :: ((1, 4, 3) :: (lk_X6_init_3 ++ ((1, 3, 2) :: ([]))))))))))))))))) (uR (zR (uR (zR (uR R200 1 10 27) 33) 1 11 33) 34) 1 12 34) := hK236.u rfl
  have hF239 : FR 1 R (uR (zR (uR (zR (uR R200 1 10 27) 33) 1 11 33) 34) 1 12 34) := hF237.u rfl
  have hB240 : BZ (uI (zI (zI I198 33) 34) 1 13 0) := hB229.kw rfl rfl rfl
  have hZ241 : KI (zk_X2_init_27 ++ (zk_X2_init_21 ++ (zk_X0_init_15 ++ (zk_X0_init_9 ++ (zk_X3_init_7 ++ (zk_X1_init_6 ++ (zk_X6_init_3 ++ ([])))))))) (uI (zI (zI I198 33) 34) 1 13 0) := hZ230.w rfl
  have hI242 : FI 1 I (uI (zI (zI I198 33) 34) 1 13 0) := hI231.w rfl
  have hB243 : BZ (zI (uI (zI (zI I198 33) 34) 1 13 0) 35) := hB240.z
  have hZ244 : KI (zk_X2_init_27 ++ (zk_X2_init_21 ++ (zk_X0_init_15 ++ (zk_X0_init_9 ++ (zk_X3_init_7 ++ (zk_X1_init_6 ++ (zk_X6_init_3 ++ ([])))))))) (zI (uI (zI (zI I198 33) 34) 1 13 0) 35) := hZ241.z rfl
  have hI245 : FI 1 I (zI (uI (zI (zI I198 33) 34) 1 13 0) 35) := hI242.z rfl
  have jk246 : (zJ (zJ (zJ J199 33) 34) 35) 1 1 = 0 := (congrFun (zJ_ne (by decide)) 1).trans jk232
  have jk247 : (zJ (zJ (zJ J199 33) 34) 35) 1 2 = 1 := (congrFun (zJ_ne (by decide)) 2).trans jk233
  have hJ248 : FJ 1 J (zJ (zJ (zJ J199 33) 34) 35) := hJ234.z rfl
  have jf249 : ∀ k, k < 22 → (zJ (zJ (zJ J199 33) 34) 35) 5 k = rsv.getD k 0 := J5.z jf235 rfl
  have hK250 : RK ((1, 12, 34) :: ((1, 11, 33) :: ((1, 10, 27) :: (lk_X2_init_27 ++ ((1, 9, 21) :: (lk_X2_init_21 ++ ((1, 8, 15) :: (lk_X0_init_15 ++ ((1, 7, 9) :: (lk_X0_init_9 ++ ((1, 6, 7) :: (lk_X3_init_7 ++ ((1, 5, 6) :: ((1, 4, 3) :: (lk_X6_init_3 ++ ((1, 3, 2) :: ([]))))))))))))))))) (zR (uR (zR (uR (zR (uR R200 1 10 27) 33) 1 11 33) 34) 1 12 34) 35) := hK238.z rfl
  have hF251 : FR 1 R (zR (uR (zR (uR (zR (uR R200 1 10 27) 33) 1 11 33) 34) 1 12 34) 35) := hF239.z rfl
  refine ct_X7_init_35 hB243 (fun I252 J253 R254 hB255 hF256 hK257 hI258 hZ259 hJ260 jz261 => ?_)
  have hZ262 : KI (zk_X7_init_35 ++ (zk_X2_init_27 ++ (zk_X2_init_21 ++ (zk_X0_init_15 ++ (zk_X0_init_9 ++ (zk_X3_init_7 ++ (zk_X1_init_6 ++ (zk_X6_init_3 ++ ([]))))))))) I252 := hZ259.app (hZ244.fr hI258 rfl)
  have hI263 : FI 1 I I252 := fun o ho => (hI258 o (by omega)).trans (hI245 o ho)
  have hJ264 : FJ 1 J J253 := fun o ho => (hJ260 o (by omega)).trans (hJ248 o ho)
  have jk265 : J253 1 1 = 0 := (congrFun (hJ260 1 (by decide)) 1).trans jk246
  have jk266 : J253 1 2 = 1 := (congrFun (hJ260 1 (by decide)) 2).trans jk247
  have jf267 : ∀ k, k < 22 → J253 5 k = rsv.getD k 0 := fun k hk => (congrFun (hJ260 5 (by decide)) k).trans (jf249 k hk)
  have hK268 : RK (lk_X7_init_35 ++ ((1, 12, 34) :: ((1, 11, 33) :: ((1, 10, 27) :: (lk_X2_init_27 ++ ((1, 9, 21) :: (lk_X2_init_21 ++ ((1, 8, 15) :: (lk_X0_init_15 ++ ((1, 7, 9) :: (lk_X0_init_9 ++ ((1, 6, 7) :: (lk_X3_init_7 ++ ((1, 5, 6) :: ((1, 4, 3) :: (lk_X6_init_3 ++ ((1, 3, 2) :: ([])))))))))))))))))) R254 := hK257.app (hK250.fr hF256 rfl)
  have hF269 : FR 1 R R254 := fun o ho => (hF256 o (by omega)).trans (hF251 o ho)
  have hK270 : RK ((1, 14, 35) :: (lk_X7_init_35 ++ ((1, 12, 34) :: ((1, 11, 33) :: ((1, 10, 27) :: (lk_X2_init_27 ++ ((1, 9, 21) :: (lk_X2_init_21 ++ ((1, 8, 15) :: (lk_X0_init_15 ++ ((1, 7, 9) :: (lk_X0_init_9 ++ ((1, 6, 7) :: (lk_X3_init_7 ++ ((1, 5, 6) :: ((1, 4, 3) :: (lk_X6_init_3 ++ ((1, 3, 2) :: ([]))))))))))))))))))) (uR R254 1 14 35) := hK268.u rfl
  have hF271 : FR 1 R (uR R254 1 14 35) := hF269.u rfl
  have hB272 : BZ (zI I252 39) := hB255.z
  have hZ273 : KI (zk_X7_init_35 ++ (zk_X2_init_27 ++ (zk_X2_init_21 ++ (zk_X0_init_15 ++ (zk_X0_init_9 ++ (zk_X3_init_7 ++ (zk_X1_init_6 ++ (zk_X6_init_3 ++ ([]))))))))) (zI I252 39) := hZ262.z rfl
  have hI274 : FI 1 I (zI I252 39) := hI263.z rfl
  have jk275 : (zJ J253 39) 1 1 = 0 := (congrFun (zJ_ne (by decide)) 1).trans jk265
  have jk276 : (zJ J253 39) 1 2 = 1 := (congrFun (zJ_ne (by decide)) 2).trans jk266
  have hJ277 : FJ 1 J (zJ J253 39) := hJ264.z rfl
  have jf278 : ∀ k, k < 22 → (zJ J253 39) 5 k = rsv.getD k 0 := J5.z jf267 rfl
  have hK279 : RK ((1, 14, 35) :: (lk_X7_init_35 ++ ((1, 12, 34) :: ((1, 11, 33) :: ((1, 10, 27) :: (lk_X2_init_27 ++ ((1, 9, 21) :: (lk_X2_init_21 ++ ((1, 8, 15) :: (lk_X0_init_15 ++ ((1, 7, 9) :: (lk_X0_init_9 ++ ((1, 6, 7) :: (lk_X3_init_7 ++ ((1, 5, 6) :: ((1, 4, 3) :: (lk_X6_init_3 ++ ((1, 3, 2) :: ([]))))))))))))))))))) (zR (uR R254 1 14 35) 39) := hK270.z rfl
  have hF280 : FR 1 R (zR (uR R254 1 14 35) 39) := hF271.z rfl
  refine ct_X8_init_39 hB272 (fun I281 J282 R283 hB284 hF285 hK286 hI287 hZ288 hJ289 jz290 => ?_)
  have hZ291 : KI (zk_X8_init_39 ++ (zk_X7_init_35 ++ (zk_X2_init_27 ++ (zk_X2_init_21 ++ (zk_X0_init_15 ++ (zk_X0_init_9 ++ (zk_X3_init_7 ++ (zk_X1_init_6 ++ (zk_X6_init_3 ++ ([])))))))))) I281 := hZ288.app (hZ273.fr hI287 rfl)
  have hI292 : FI 1 I I281 := fun o ho => (hI287 o (by omega)).trans (hI274 o ho)
  have hJ293 : FJ 1 J J282 := fun o ho => (hJ289 o (by omega)).trans (hJ277 o ho)
  have jk294 : J282 1 1 = 0 := (congrFun (hJ289 1 (by decide)) 1).trans jk275
  have jk295 : J282 1 2 = 1 := (congrFun (hJ289 1 (by decide)) 2).trans jk276
  have jf296 : ∀ k, k < 22 → J282 5 k = rsv.getD k 0 := fun k hk => (congrFun (hJ289 5 (by decide)) k).trans (jf278 k hk)
  have hK297 : RK (lk_X8_init_39 ++ ((1, 14, 35) :: (lk_X7_init_35 ++ ((1, 12, 34) :: ((1, 11, 33) :: ((1, 10, 27) :: (lk_X2_init_27 ++ ((1, 9, 21) :: (lk_X2_init_21 ++ ((1, 8, 15) :: (lk_X0_init_15 ++ ((1, 7, 9) :: (lk_X0_init_9 ++ ((1, 6, 7) :: (lk_X3_init_7 ++ ((1, 5, 6) :: ((1, 4, 3) :: (lk_X6_init_3 ++ ((1, 3, 2) :: ([])))))))))))))))))))) R283 := hK286.app (hK279.fr hF285 rfl)
  have hF298 : FR 1 R R283 := fun o ho => (hF285 o (by omega)).trans (hF280 o ho)
  have hK299 : RK ((1, 15, 39) :: (lk_X8_init_39 ++ ((1, 14, 35) :: (lk_X7_init_35 ++ ((1, 12, 34) :: ((1, 11, 33) :: ((1, 10, 27) :: (lk_X2_init_27 ++ ((1, 9, 21) :: (lk_X2_init_21 ++ ((1, 8, 15) :: (lk_X0_init_15 ++ ((1, 7, 9) :: (lk_X0_init_9 ++ ((1, 6, 7) :: (lk_X3_init_7 ++ ((1, 5, 6) :: ((1, 4, 3) :: (lk_X6_init_3 ++ ((1, 3, 2) :: ([]))))))))))))))))))))) (uR R283 1 15 39) := hK297.u rfl
  have hF300 : FR 1 R (uR R283 1 15 39) := hF298.u rfl
  have hB301 : BZ (zI I281 42) := hB284.z
  have hZ302 : KI (zk_X8_init_39 ++ (zk_X7_init_35 ++ (zk_X2_init_27 ++ (zk_X2_init_21 ++ (zk_X0_init_15 ++ (zk_X0_init_9 ++ (zk_X3_init_7 ++ (zk_X1_init_6 ++ (zk_X6_init_3 ++ ([])))))))))) (zI I281 42) := hZ291.z rfl
  have hI303 : FI 1 I (zI I281 42) := hI292.z rfl
  have jk304 : (zJ J282 42) 1 1 = 0 := (congrFun (zJ_ne (by decide)) 1).trans jk294
  have jk305 : (zJ J282 42) 1 2 = 1 := (congrFun (zJ_ne (by decide)) 2).trans jk295
  have hJ306 : FJ 1 J (zJ J282 42) := hJ293.z rfl
  have jf307 : ∀ k, k < 22 → (zJ J282 42) 5 k = rsv.getD k 0 := J5.z jf296 rfl
  have hK308 : RK ((1, 15, 39) :: (lk_X8_init_39 ++ ((1, 14, 35) :: (lk_X7_init_35 ++ ((1, 12, 34) :: ((1, 11, 33) :: ((1, 10, 27) :: (lk_X2_init_27 ++ ((1, 9, 21) :: (lk_X2_init_21 ++ ((1, 8, 15) :: (lk_X0_init_15 ++ ((1, 7, 9) :: (lk_X0_init_9 ++ ((1, 6, 7) :: (lk_X3_init_7 ++ ((1, 5, 6) :: ((1, 4, 3) :: (lk_X6_init_3 ++ ((1, 3, 2) :: ([]))))))))))))))))))))) (zR (uR R283 1 15 39) 42) := hK299.z rfl
  have hF309 : FR 1 R (zR (uR R283 1 15 39) 42) := hF300.z rfl
  refine ct_X5_init_42 hB301 (fun I310 J311 R312 hB313 hF314 hK315 hI316 hZ317 hJ318 jz319 => ?_)
  have hZ320 : KI (zk_X5_init_42 ++ (zk_X8_init_39 ++ (zk_X7_init_35 ++ (zk_X2_init_27 ++ (zk_X2_init_21 ++ (zk_X0_init_15 ++ (zk_X0_init_9 ++ (zk_X3_init_7 ++ (zk_X1_init_6 ++ (zk_X6_init_3 ++ ([]))))))))))) I310 := hZ317.app (hZ302.fr hI316 rfl)
  have hI321 : FI 1 I I310 := fun o ho => (hI316 o (by omega)).trans (hI303 o ho)
  have hJ322 : FJ 1 J J311 := fun o ho => (hJ318 o (by omega)).trans (hJ306 o ho)
  have jk323 : J311 1 1 = 0 := (congrFun (hJ318 1 (by decide)) 1).trans jk304
  have jk324 : J311 1 2 = 1 := (congrFun (hJ318 1 (by decide)) 2).trans jk305
  have jf325 : ∀ k, k < 22 → J311 5 k = rsv.getD k 0 := fun k hk => (congrFun (hJ318 5 (by decide)) k).trans (jf307 k hk)
  have hK326 : RK (lk_X5_init_42 ++ ((1, 15, 39) :: (lk_X8_init_39 ++ ((1, 14, 35) :: (lk_X7_init_35 ++ ((1, 12, 34) :: ((1, 11, 33) :: ((1, 10, 27) :: (lk_X2_init_27 ++ ((1, 9, 21) :: (lk_X2_init_21 ++ ((1, 8, 15) :: (lk_X0_init_15 ++ ((1, 7, 9) :: (lk_X0_init_9 ++ ((1, 6, 7) :: (lk_X3_init_7 ++ ((1, 5, 6) :: ((1, 4, 3) :: (lk_X6_init_3 ++ ((1, 3, 2) :: ([])))))))))))))))))))))) R312 := hK315.app (hK308.fr hF314 rfl)
  have hF327 : FR 1 R R312 := fun o ho => (hF314 o (by omega)).trans (hF309 o ho)
  have hK328 : RK ((1, 16, 42) :: (lk_X5_init_42 ++ ((1, 15, 39) :: (lk_X8_init_39 ++ ((1, 14, 35) :: (lk_X7_init_35 ++ ((1, 12, 34) :: ((1, 11, 33) :: ((1, 10, 27) :: (lk_X2_init_27 ++ ((1, 9, 21) :: (lk_X2_init_21 ++ ((1, 8, 15) :: (lk_X0_init_15 ++ ((1, 7, 9) :: (lk_X0_init_9 ++ ((1, 6, 7) :: (lk_X3_init_7 ++ ((1, 5, 6) :: ((1, 4, 3) :: (lk_X6_init_3 ++ ((1, 3, 2) :: ([]))))))))))))))))))))))) (uR R312 1 16 42) := hK326.u rfl
  have hF329 : FR 1 R (uR R312 1 16 42) := hF327.u rfl
  have hB330 : BZ (zI I310 45) := hB313.z
  have hZ331 : KI (zk_X5_init_42 ++ (zk_X8_init_39 ++ (zk_X7_init_35 ++ (zk_X2_init_27 ++ (zk_X2_init_21 ++ (zk_X0_init_15 ++ (zk_X0_init_9 ++ (zk_X3_init_7 ++ (zk_X1_init_6 ++ (zk_X6_init_3 ++ ([]))))))))))) (zI I310 45) := hZ320.z rfl
  have hI332 : FI 1 I (zI I310 45) := hI321.z rfl
  have jk333 : (zJ J311 45) 1 1 = 0 := (congrFun (zJ_ne (by decide)) 1).trans jk323
  have jk334 : (zJ J311 45) 1 2 = 1 := (congrFun (zJ_ne (by decide)) 2).trans jk324
  have hJ335 : FJ 1 J (zJ J311 45) := hJ322.z rfl
  have jf336 : ∀ k, k < 22 → (zJ J311 45) 5 k = rsv.getD k 0 := J5.z jf325 rfl
  have hK337 : RK ((1, 16, 42) :: (lk_X5_init_42 ++ ((1, 15, 39) :: (lk_X8_init_39 ++ ((1, 14, 35) :: (lk_X7_init_35 ++ ((1, 12, 34) :: ((1, 11, 33) :: ((1, 10, 27) :: (lk_X2_init_27 ++ ((1, 9, 21) :: (lk_X2_init_21 ++ ((1, 8, 15) :: (lk_X0_init_15 ++ ((1, 7, 9) :: (lk_X0_init_9 ++ ((1, 6, 7) :: (lk_X3_init_7 ++ ((1, 5, 6) :: ((1, 4, 3) :: (lk_X6_init_3 ++ ((1, 3, 2) :: ([]))))))))))))))))))))))) (zR (uR R312 1 16 42) 45) := hK328.z rfl
  have hF338 : FR 1 R (zR (uR R312 1 16 42) 45) := hF329.z rfl
  refine ct_X9_init_45 hB330 (fun I339 J340 R341 hB342 hF343 hK344 hI345 hZ346 hJ347 jz348 => ?_)
  have hZ349 : KI (zk_X9_init_45 ++ (zk_X5_init_42 ++ (zk_X8_init_39 ++ (zk_X7_init_35 ++ (zk_X2_init_27 ++ (zk_X2_init_21 ++ (zk_X0_init_15 ++ (zk_X0_init_9 ++ (zk_X3_init_7 ++ (zk_X1_init_6 ++ (zk_X6_init_3 ++ ([])))))))))))) I339 := hZ346.app (hZ331.fr hI345 rfl)
  have hI350 : FI 1 I I339 := fun o ho => (hI345 o (by omega)).trans (hI332 o ho)
  have hJ351 : FJ 1 J J340 := fun o ho => (hJ347 o (by omega)).trans (hJ335 o ho)
  have jk352 : J340 1 1 = 0 := (congrFun (hJ347 1 (by decide)) 1).trans jk333
  have jk353 : J340 1 2 = 1 := (congrFun (hJ347 1 (by decide)) 2).trans jk334
  have jf354 : ∀ k, k < 22 → J340 5 k = rsv.getD k 0 := fun k hk => (congrFun (hJ347 5 (by decide)) k).trans (jf336 k hk)
  have hK355 : RK (lk_X9_init_45 ++ ((1, 16, 42) :: (lk_X5_init_42 ++ ((1, 15, 39) :: (lk_X8_init_39 ++ ((1, 14, 35) :: (lk_X7_init_35 ++ ((1, 12, 34) :: ((1, 11, 33) :: ((1, 10, 27) :: (lk_X2_init_27 ++ ((1, 9, 21) :: (lk_X2_init_21 ++ ((1, 8, 15) :: (lk_X0_init_15 ++ ((1, 7, 9) :: (lk_X0_init_9 ++ ((1, 6, 7) :: (lk_X3_init_7 ++ ((1, 5, 6) :: ((1, 4, 3) :: (lk_X6_init_3 ++ ((1, 3, 2) :: ([])))))))))))))))))))))))) R341 := hK344.app (hK337.fr hF343 rfl)
  have hF356 : FR 1 R R341 := fun o ho => (hF343 o (by omega)).trans (hF338 o ho)
  have hK357 : RK ((1, 17, 45) :: (lk_X9_init_45 ++ ((1, 16, 42) :: (lk_X5_init_42 ++ ((1, 15, 39) :: (lk_X8_init_39 ++ ((1, 14, 35) :: (lk_X7_init_35 ++ ((1, 12, 34) :: ((1, 11, 33) :: ((1, 10, 27) :: (lk_X2_init_27 ++ ((1, 9, 21) :: (lk_X2_init_21 ++ ((1, 8, 15) :: (lk_X0_init_15 ++ ((1, 7, 9) :: (lk_X0_init_9 ++ ((1, 6, 7) :: (lk_X3_init_7 ++ ((1, 5, 6) :: ((1, 4, 3) :: (lk_X6_init_3 ++ ((1, 3, 2) :: ([]))))))))))))))))))))))))) (uR R341 1 17 45) := hK355.u rfl
  have hF358 : FR 1 R (uR R341 1 17 45) := hF356.u rfl
  have hB359 : BZ (zI I339 49) := hB342.z
  have hZ360 : KI (zk_X9_init_45 ++ (zk_X5_init_42 ++ (zk_X8_init_39 ++ (zk_X7_init_35 ++ (zk_X2_init_27 ++ (zk_X2_init_21 ++ (zk_X0_init_15 ++ (zk_X0_init_9 ++ (zk_X3_init_7 ++ (zk_X1_init_6 ++ (zk_X6_init_3 ++ ([])))))))))))) (zI I339 49) := hZ349.z rfl
  have hI361 : FI 1 I (zI I339 49) := hI350.z rfl
  have jk362 : (zJ J340 49) 1 1 = 0 := (congrFun (zJ_ne (by decide)) 1).trans jk352
  have jk363 : (zJ J340 49) 1 2 = 1 := (congrFun (zJ_ne (by decide)) 2).trans jk353
  have hJ364 : FJ 1 J (zJ J340 49) := hJ351.z rfl
  have jz365 : (zJ J340 49) 47 0 = 0 := JZ.z jz348 rfl
  have jf366 : ∀ k, k < 22 → (zJ J340 49) 5 k = rsv.getD k 0 := J5.z jf354 rfl
  have hK367 : RK ((1, 17, 45) :: (lk_X9_init_45 ++ ((1, 16, 42) :: (lk_X5_init_42 ++ ((1, 15, 39) :: (lk_X8_init_39 ++ ((1, 14, 35) :: (lk_X7_init_35 ++ ((1, 12, 34) :: ((1, 11, 33) :: ((1, 10, 27) :: (lk_X2_init_27 ++ ((1, 9, 21) :: (lk_X2_init_21 ++ ((1, 8, 15) :: (lk_X0_init_15 ++ ((1, 7, 9) :: (lk_X0_init_9 ++ ((1, 6, 7) :: (lk_X3_init_7 ++ ((1, 5, 6) :: ((1, 4, 3) :: (lk_X6_init_3 ++ ((1, 3, 2) :: ([]))))))))))))))))))))))))) (zR (uR R341 1 17 45) 49) := hK357.z rfl
  have hF368 : FR 1 R (zR (uR R341 1 17 45) 49) := hF358.z rfl
  refine ct_X4_init_49 hB359 (fun I369 J370 R371 hB372 hF373 hK374 hI375 hZ376 hJ377 jz378 => ?_)
  have hZ379 : KI (zk_X4_init_49 ++ (zk_X9_init_45 ++ (zk_X5_init_42 ++ (zk_X8_init_39 ++ (zk_X7_init_35 ++ (zk_X2_init_27 ++ (zk_X2_init_21 ++ (zk_X0_init_15 ++ (zk_X0_init_9 ++ (zk_X3_init_7 ++ (zk_X1_init_6 ++ (zk_X6_init_3 ++ ([]))))))))))))) I369 := hZ376.app (hZ360.fr hI375 rfl)
  have hI380 : FI 1 I I369 := fun o ho => (hI375 o (by omega)).trans (hI361 o ho)
  have hJ381 : FJ 1 J J370 := fun o ho => (hJ377 o (by omega)).trans (hJ364 o ho)
  have jk382 : J370 1 1 = 0 := (congrFun (hJ377 1 (by decide)) 1).trans jk362
  have jk383 : J370 1 2 = 1 := (congrFun (hJ377 1 (by decide)) 2).trans jk363
  have jf384 : ∀ k, k < 22 → J370 5 k = rsv.getD k 0 := fun k hk => (congrFun (hJ377 5 (by decide)) k).trans (jf366 k hk)
  have jz385 : J370 47 0 = 0 := (congrFun (hJ377 47 (by decide)) 0).trans jz365
  have hK386 : RK (lk_X4_init_49 ++ ((1, 17, 45) :: (lk_X9_init_45 ++ ((1, 16, 42) :: (lk_X5_init_42 ++ ((1, 15, 39) :: (lk_X8_init_39 ++ ((1, 14, 35) :: (lk_X7_init_35 ++ ((1, 12, 34) :: ((1, 11, 33) :: ((1, 10, 27) :: (lk_X2_init_27 ++ ((1, 9, 21) :: (lk_X2_init_21 ++ ((1, 8, 15) :: (lk_X0_init_15 ++ ((1, 7, 9) :: (lk_X0_init_9 ++ ((1, 6, 7) :: (lk_X3_init_7 ++ ((1, 5, 6) :: ((1, 4, 3) :: (lk_X6_init_3 ++ ((1, 3, 2) :: ([])))))))))))))))))))))))))) R371 := hK374.app (hK367.fr hF373 rfl)
  have hF387 : FR 1 R R371 := fun o ho => (hF373 o (by omega)).trans (hF368 o ho)
  have hK388 : RK ((1, 18, 49) :: (lk_X4_init_49 ++ ((1, 17, 45) :: (lk_X9_init_45 ++ ((1, 16, 42) :: (lk_X5_init_42 ++ ((1, 15, 39) :: (lk_X8_init_39 ++ ((1, 14, 35) :: (lk_X7_init_35 ++ ((1, 12, 34) :: ((1, 11, 33) :: ((1, 10, 27) :: (lk_X2_init_27 ++ ((1, 9, 21) :: (lk_X2_init_21 ++ ((1, 8, 15) :: (lk_X0_init_15 ++ ((1, 7, 9) :: (lk_X0_init_9 ++ ((1, 6, 7) :: (lk_X3_init_7 ++ ((1, 5, 6) :: ((1, 4, 3) :: (lk_X6_init_3 ++ ((1, 3, 2) :: ([]))))))))))))))))))))))))))) (uR R371 1 18 49) := hK386.u rfl
  have hF389 : FR 1 R (uR R371 1 18 49) := hF387.u rfl
  have hB390 : BZ (zI I369 51) := hB372.z
  have hZ391 : KI (zk_X4_init_49 ++ (zk_X9_init_45 ++ (zk_X5_init_42 ++ (zk_X8_init_39 ++ (zk_X7_init_35 ++ (zk_X2_init_27 ++ (zk_X2_init_21 ++ (zk_X0_init_15 ++ (zk_X0_init_9 ++ (zk_X3_init_7 ++ (zk_X1_init_6 ++ (zk_X6_init_3 ++ ([]))))))))))))) (zI I369 51) := hZ379.z rfl
  have hI392 : FI 1 I (zI I369 51) := hI380.z rfl
  have jk393 : (zJ J370 51) 1 1 = 0 := (congrFun (zJ_ne (by decide)) 1).trans jk382
  have jk394 : (zJ J370 51) 1 2 = 1 := (congrFun (zJ_ne (by decide)) 2).trans jk383
  have hJ395 : FJ 1 J (zJ J370 51) := hJ381.z rfl
  have jz396 : (zJ J370 51) 47 0 = 0 := JZ.z jz385 rfl
  have jf397 : ∀ k, k < 22 → (zJ J370 51) 5 k = rsv.getD k 0 := J5.z jf384 rfl
  have hK398 : RK ((1, 18, 49) :: (lk_X4_init_49 ++ ((1, 17, 45) :: (lk_X9_init_45 ++ ((1, 16, 42) :: (lk_X5_init_42 ++ ((1, 15, 39) :: (lk_X8_init_39 ++ ((1, 14, 35) :: (lk_X7_init_35 ++ ((1, 12, 34) :: ((1, 11, 33) :: ((1, 10, 27) :: (lk_X2_init_27 ++ ((1, 9, 21) :: (lk_X2_init_21 ++ ((1, 8, 15) :: (lk_X0_init_15 ++ ((1, 7, 9) :: (lk_X0_init_9 ++ ((1, 6, 7) :: (lk_X3_init_7 ++ ((1, 5, 6) :: ((1, 4, 3) :: (lk_X6_init_3 ++ ((1, 3, 2) :: ([]))))))))))))))))))))))))))) (zR (uR R371 1 18 49) 51) := hK388.z rfl
  have hF399 : FR 1 R (zR (uR R371 1 18 49) 51) := hF389.z rfl
  refine ct_X4_init_51 hB390 (fun I400 J401 R402 hB403 hF404 hK405 hI406 hZ407 hJ408 jz409 => ?_)
  have hZ410 : KI (zk_X4_init_51 ++ (zk_X4_init_49 ++ (zk_X9_init_45 ++ (zk_X5_init_42 ++ (zk_X8_init_39 ++ (zk_X7_init_35 ++ (zk_X2_init_27 ++ (zk_X2_init_21 ++ (zk_X0_init_15 ++ (zk_X0_init_9 ++ (zk_X3_init_7 ++ (zk_X1_init_6 ++ (zk_X6_init_3 ++ ([])))))))))))))) I400 := hZ407.app (hZ391.fr hI406 rfl)
  have hI411 : FI 1 I I400 := fun o ho => (hI406 o (by omega)).trans (hI392 o ho)
  have hJ412 : FJ 1 J J401 := fun o ho => (hJ408 o (by omega)).trans (hJ395 o ho)
  have jk413 : J401 1 1 = 0 := (congrFun (hJ408 1 (by decide)) 1).trans jk393
  have jk414 : J401 1 2 = 1 := (congrFun (hJ408 1 (by decide)) 2).trans jk394
  have jf415 : ∀ k, k < 22 → J401 5 k = rsv.getD k 0 := fun k hk => (congrFun (hJ408 5 (by decide)) k).trans (jf397 k hk)
  have jz416 : J401 47 0 = 0 := (congrFun (hJ408 47 (by decide)) 0).trans jz396
  have hK417 : RK (lk_X4_init_51 ++ ((1, 18, 49) :: (lk_X4_init_49 ++ ((1, 17, 45) :: (lk_X9_init_45 ++ ((1, 16, 42) :: (lk_X5_init_42 ++ ((1, 15, 39) :: (lk_X8_init_39 ++ ((1, 14, 35) :: (lk_X7_init_35 ++ ((1, 12, 34) :: ((1, 11, 33) :: ((1, 10, 27) :: (lk_X2_init_27 ++ ((1, 9, 21) :: (lk_X2_init_21 ++ ((1, 8, 15) :: (lk_X0_init_15 ++ ((1, 7, 9) :: (lk_X0_init_9 ++ ((1, 6, 7) :: (lk_X3_init_7 ++ ((1, 5, 6) :: ((1, 4, 3) :: (lk_X6_init_3 ++ ((1, 3, 2) :: ([])))))))))))))))))))))))))))) R402 := hK405.app (hK398.fr hF404 rfl)
  have hF418 : FR 1 R R402 := fun o ho => (hF404 o (by omega)).trans (hF399 o ho)
  have hK419 : RK ((1, 19, 51) :: (lk_X4_init_51 ++ ((1, 18, 49) :: (lk_X4_init_49 ++ ((1, 17, 45) :: (lk_X9_init_45 ++ ((1, 16, 42) :: (lk_X5_init_42 ++ ((1, 15, 39) :: (lk_X8_init_39 ++ ((1, 14, 35) :: (lk_X7_init_35 ++ ((1, 12, 34) :: ((1, 11, 33) :: ((1, 10, 27) :: (lk_X2_init_27 ++ ((1, 9, 21) :: (lk_X2_init_21 ++ ((1, 8, 15) :: (lk_X0_init_15 ++ ((1, 7, 9) :: (lk_X0_init_9 ++ ((1, 6, 7) :: (lk_X3_init_7 ++ ((1, 5, 6) :: ((1, 4, 3) :: (lk_X6_init_3 ++ ((1, 3, 2) :: ([]))))))))))))))))))))))))))))) (uR R402 1 19 51) := hK417.u rfl
  have hF420 : FR 1 R (uR R402 1 19 51) := hF418.u rfl
  refine cs_X11_init_1_193_52 hc _ _ _ ?_
  refine ⟨fun c => absurd c (by decide), fun _ => ?_⟩
  refine ⟨hK419.ne (show lkq ((1, 19, 51) :: (lk_X4_init_51 ++ ((1, 18, 49) :: (lk_X4_init_49 ++ ((1, 17, 45) :: (lk_X9_init_45 ++ ((1, 16, 42) :: (lk_X5_init_42 ++ ((1, 15, 39) :: (lk_X8_init_39 ++ ((1, 14, 35) :: (lk_X7_init_35 ++ ((1, 12, 34) :: ((1, 11, 33) :: ((1, 10, 27) :: (lk_X2_init_27 ++ ((1, 9, 21) :: (lk_X2_init_21 ++ ((1, 8, 15) :: (lk_X0_init_15 ++ ((1, 7, 9) :: (lk_X0_init_9 ++ ((1, 6, 7) :: (lk_X3_init_7 ++ ((1, 5, 6) :: ((1, 4, 3) :: (lk_X6_init_3 ++ ((1, 3, 2) :: ([]))))))))))))))))))))))))))))) 1 3 = true from rfl), ?_⟩
  have hB421 : BZ (zI I400 53) := hB403.z
  have hZ422 : KI (zk_X4_init_51 ++ (zk_X4_init_49 ++ (zk_X9_init_45 ++ (zk_X5_init_42 ++ (zk_X8_init_39 ++ (zk_X7_init_35 ++ (zk_X2_init_27 ++ (zk_X2_init_21 ++ (zk_X0_init_15 ++ (zk_X0_init_9 ++ (zk_X3_init_7 ++ (zk_X1_init_6 ++ (zk_X6_init_3 ++ ([])))))))))))))) (zI I400 53) := hZ410.z rfl
  have hI423 : FI 1 I (zI I400 53) := hI411.z rfl
  have jk424 : (zJ J401 53) 1 1 = 0 := (congrFun (zJ_ne (by decide)) 1).trans jk413
  have jk425 : (zJ J401 53) 1 2 = 1 := (congrFun (zJ_ne (by decide)) 2).trans jk414
  have hJ426 : FJ 1 J (zJ J401 53) := hJ412.z rfl
  have jz427 : (zJ J401 53) 47 0 = 0 := JZ.z jz416 rfl
  have jf428 : ∀ k, k < 22 → (zJ J401 53) 5 k = rsv.getD k 0 := J5.z jf415 rfl
  have hK429 : RK ((1, 19, 51) :: (lk_X4_init_51 ++ ((1, 18, 49) :: (lk_X4_init_49 ++ ((1, 17, 45) :: (lk_X9_init_45 ++ ((1, 16, 42) :: (lk_X5_init_42 ++ ((1, 15, 39) :: (lk_X8_init_39 ++ ((1, 14, 35) :: (lk_X7_init_35 ++ ((1, 12, 34) :: ((1, 11, 33) :: ((1, 10, 27) :: (lk_X2_init_27 ++ ((1, 9, 21) :: (lk_X2_init_21 ++ ((1, 8, 15) :: (lk_X0_init_15 ++ ((1, 7, 9) :: (lk_X0_init_9 ++ ((1, 6, 7) :: (lk_X3_init_7 ++ ((1, 5, 6) :: ((1, 4, 3) :: (lk_X6_init_3 ++ ((1, 3, 2) :: ([]))))))))))))))))))))))))))))) (zR (uR R402 1 19 51) 53) := hK419.z rfl
  have hF430 : FR 1 R (zR (uR R402 1 19 51) 53) := hF420.z rfl
  refine ct_X10_init_53 hB421 (fun I431 J432 R433 hB434 hF435 hK436 hI437 hZ438 hJ439 jz440 => ?_)
  have hZ441 : KI (zk_X10_init_53 ++ (zk_X4_init_51 ++ (zk_X4_init_49 ++ (zk_X9_init_45 ++ (zk_X5_init_42 ++ (zk_X8_init_39 ++ (zk_X7_init_35 ++ (zk_X2_init_27 ++ (zk_X2_init_21 ++ (zk_X0_init_15 ++ (zk_X0_init_9 ++ (zk_X3_init_7 ++ (zk_X1_init_6 ++ (zk_X6_init_3 ++ ([]))))))))))))))) I431 := hZ438.app (hZ422.fr hI437 rfl)
  have hI442 : FI 1 I I431 := fun o ho => (hI437 o (by omega)).trans (hI423 o ho)
  have hJ443 : FJ 1 J J432 := fun o ho => (hJ439 o (by omega)).trans (hJ426 o ho)
  have jk444 : J432 1 1 = 0 := (congrFun (hJ439 1 (by decide)) 1).trans jk424
  have jk445 : J432 1 2 = 1 := (congrFun (hJ439 1 (by decide)) 2).trans jk425
  have jf446 : ∀ k, k < 22 → J432 5 k = rsv.getD k 0 := fun k hk => (congrFun (hJ439 5 (by decide)) k).trans (jf428 k hk)
  have jz447 : J432 47 0 = 0 := (congrFun (hJ439 47 (by decide)) 0).trans jz427
  have hK448 : RK (lk_X10_init_53 ++ ((1, 19, 51) :: (lk_X4_init_51 ++ ((1, 18, 49) :: (lk_X4_init_49 ++ ((1, 17, 45) :: (lk_X9_init_45 ++ ((1, 16, 42) :: (lk_X5_init_42 ++ ((1, 15, 39) :: (lk_X8_init_39 ++ ((1, 14, 35) :: (lk_X7_init_35 ++ ((1, 12, 34) :: ((1, 11, 33) :: ((1, 10, 27) :: (lk_X2_init_27 ++ ((1, 9, 21) :: (lk_X2_init_21 ++ ((1, 8, 15) :: (lk_X0_init_15 ++ ((1, 7, 9) :: (lk_X0_init_9 ++ ((1, 6, 7) :: (lk_X3_init_7 ++ ((1, 5, 6) :: ((1, 4, 3) :: (lk_X6_init_3 ++ ((1, 3, 2) :: ([])))))))))))))))))))))))))))))) R433 := hK436.app (hK429.fr hF435 rfl)
  have hF449 : FR 1 R R433 := fun o ho => (hF435 o (by omega)).trans (hF430 o ho)
  refine ⟨vp_of rfl (by decide) (by decide), ?_⟩
  have hK450 : RK ((2, 0, 53) :: (lk_X10_init_53 ++ ((1, 19, 51) :: (lk_X4_init_51 ++ ((1, 18, 49) :: (lk_X4_init_49 ++ ((1, 17, 45) :: (lk_X9_init_45 ++ ((1, 16, 42) :: (lk_X5_init_42 ++ ((1, 15, 39) :: (lk_X8_init_39 ++ ((1, 14, 35) :: (lk_X7_init_35 ++ ((1, 12, 34) :: ((1, 11, 33) :: ((1, 10, 27) :: (lk_X2_init_27 ++ ((1, 9, 21) :: (lk_X2_init_21 ++ ((1, 8, 15) :: (lk_X0_init_15 ++ ((1, 7, 9) :: (lk_X0_init_9 ++ ((1, 6, 7) :: (lk_X3_init_7 ++ ((1, 5, 6) :: ((1, 4, 3) :: (lk_X6_init_3 ++ ((1, 3, 2) :: ([]))))))))))))))))))))))))))))))) (uR R433 2 (Int32.toNatClampNeg 0) 53) := hK448.u rfl
  have hF451 : FR 1 R (uR R433 2 (Int32.toNatClampNeg 0) 53) := hF449.u rfl
  refine cs_X11_init_1_193_54 hc _ _ _ ?_
  refine ⟨fun c => absurd c (by decide), fun _ => ?_⟩
  refine ⟨hK450.ne (show lkq ((2, 0, 53) :: (lk_X10_init_53 ++ ((1, 19, 51) :: (lk_X4_init_51 ++ ((1, 18, 49) :: (lk_X4_init_49 ++ ((1, 17, 45) :: (lk_X9_init_45 ++ ((1, 16, 42) :: (lk_X5_init_42 ++ ((1, 15, 39) :: (lk_X8_init_39 ++ ((1, 14, 35) :: (lk_X7_init_35 ++ ((1, 12, 34) :: ((1, 11, 33) :: ((1, 10, 27) :: (lk_X2_init_27 ++ ((1, 9, 21) :: (lk_X2_init_21 ++ ((1, 8, 15) :: (lk_X0_init_15 ++ ((1, 7, 9) :: (lk_X0_init_9 ++ ((1, 6, 7) :: (lk_X3_init_7 ++ ((1, 5, 6) :: ((1, 4, 3) :: (lk_X6_init_3 ++ ((1, 3, 2) :: ([]))))))))))))))))))))))))))))))) 1 3 = true from rfl), ?_⟩
  have hB452 : BZ (zI I431 55) := hB434.z
  have hZ453 : KI (zk_X10_init_53 ++ (zk_X4_init_51 ++ (zk_X4_init_49 ++ (zk_X9_init_45 ++ (zk_X5_init_42 ++ (zk_X8_init_39 ++ (zk_X7_init_35 ++ (zk_X2_init_27 ++ (zk_X2_init_21 ++ (zk_X0_init_15 ++ (zk_X0_init_9 ++ (zk_X3_init_7 ++ (zk_X1_init_6 ++ (zk_X6_init_3 ++ ([]))))))))))))))) (zI I431 55) := hZ441.z rfl
  have hI454 : FI 1 I (zI I431 55) := hI442.z rfl
  have jk455 : (zJ J432 55) 1 1 = 0 := (congrFun (zJ_ne (by decide)) 1).trans jk444
  have jk456 : (zJ J432 55) 1 2 = 1 := (congrFun (zJ_ne (by decide)) 2).trans jk445
  have hJ457 : FJ 1 J (zJ J432 55) := hJ443.z rfl
  have jz458 : (zJ J432 55) 47 0 = 0 := JZ.z jz447 rfl
  have jf459 : ∀ k, k < 22 → (zJ J432 55) 5 k = rsv.getD k 0 := J5.z jf446 rfl
  have hK460 : RK ((2, 0, 53) :: (lk_X10_init_53 ++ ((1, 19, 51) :: (lk_X4_init_51 ++ ((1, 18, 49) :: (lk_X4_init_49 ++ ((1, 17, 45) :: (lk_X9_init_45 ++ ((1, 16, 42) :: (lk_X5_init_42 ++ ((1, 15, 39) :: (lk_X8_init_39 ++ ((1, 14, 35) :: (lk_X7_init_35 ++ ((1, 12, 34) :: ((1, 11, 33) :: ((1, 10, 27) :: (lk_X2_init_27 ++ ((1, 9, 21) :: (lk_X2_init_21 ++ ((1, 8, 15) :: (lk_X0_init_15 ++ ((1, 7, 9) :: (lk_X0_init_9 ++ ((1, 6, 7) :: (lk_X3_init_7 ++ ((1, 5, 6) :: ((1, 4, 3) :: (lk_X6_init_3 ++ ((1, 3, 2) :: ([]))))))))))))))))))))))))))))))) (zR (uR R433 2 (Int32.toNatClampNeg 0) 53) 55) := hK450.z rfl
  have hF461 : FR 1 R (zR (uR R433 2 (Int32.toNatClampNeg 0) 53) 55) := hF451.z rfl
  refine ct_X10_init_55 hB452 (fun I462 J463 R464 hB465 hF466 hK467 hI468 hZ469 hJ470 jz471 => ?_)
  have hZ472 : KI (zk_X10_init_55 ++ (zk_X10_init_53 ++ (zk_X4_init_51 ++ (zk_X4_init_49 ++ (zk_X9_init_45 ++ (zk_X5_init_42 ++ (zk_X8_init_39 ++ (zk_X7_init_35 ++ (zk_X2_init_27 ++ (zk_X2_init_21 ++ (zk_X0_init_15 ++ (zk_X0_init_9 ++ (zk_X3_init_7 ++ (zk_X1_init_6 ++ (zk_X6_init_3 ++ ([])))))))))))))))) I462 := hZ469.app (hZ453.fr hI468 rfl)
  have hI473 : FI 1 I I462 := fun o ho => (hI468 o (by omega)).trans (hI454 o ho)
  have hJ474 : FJ 1 J J463 := fun o ho => (hJ470 o (by omega)).trans (hJ457 o ho)
  have jk475 : J463 1 1 = 0 := (congrFun (hJ470 1 (by decide)) 1).trans jk455
  have jk476 : J463 1 2 = 1 := (congrFun (hJ470 1 (by decide)) 2).trans jk456
  have jf477 : ∀ k, k < 22 → J463 5 k = rsv.getD k 0 := fun k hk => (congrFun (hJ470 5 (by decide)) k).trans (jf459 k hk)
  have jz478 : J463 47 0 = 0 := (congrFun (hJ470 47 (by decide)) 0).trans jz458
  have hK479 : RK (lk_X10_init_55 ++ ((2, 0, 53) :: (lk_X10_init_53 ++ ((1, 19, 51) :: (lk_X4_init_51 ++ ((1, 18, 49) :: (lk_X4_init_49 ++ ((1, 17, 45) :: (lk_X9_init_45 ++ ((1, 16, 42) :: (lk_X5_init_42 ++ ((1, 15, 39) :: (lk_X8_init_39 ++ ((1, 14, 35) :: (lk_X7_init_35 ++ ((1, 12, 34) :: ((1, 11, 33) :: ((1, 10, 27) :: (lk_X2_init_27 ++ ((1, 9, 21) :: (lk_X2_init_21 ++ ((1, 8, 15) :: (lk_X0_init_15 ++ ((1, 7, 9) :: (lk_X0_init_9 ++ ((1, 6, 7) :: (lk_X3_init_7 ++ ((1, 5, 6) :: ((1, 4, 3) :: (lk_X6_init_3 ++ ((1, 3, 2) :: ([])))))))))))))))))))))))))))))))) R464 := hK467.app (hK460.fr hF466 rfl)
  have hF480 : FR 1 R R464 := fun o ho => (hF466 o (by omega)).trans (hF461 o ho)
  refine ⟨vp_of rfl (by decide) (by decide), ?_⟩
  have hK481 : RK ((2, 1, 55) :: (lk_X10_init_55 ++ ((2, 0, 53) :: (lk_X10_init_53 ++ ((1, 19, 51) :: (lk_X4_init_51 ++ ((1, 18, 49) :: (lk_X4_init_49 ++ ((1, 17, 45) :: (lk_X9_init_45 ++ ((1, 16, 42) :: (lk_X5_init_42 ++ ((1, 15, 39) :: (lk_X8_init_39 ++ ((1, 14, 35) :: (lk_X7_init_35 ++ ((1, 12, 34) :: ((1, 11, 33) :: ((1, 10, 27) :: (lk_X2_init_27 ++ ((1, 9, 21) :: (lk_X2_init_21 ++ ((1, 8, 15) :: (lk_X0_init_15 ++ ((1, 7, 9) :: (lk_X0_init_9 ++ ((1, 6, 7) :: (lk_X3_init_7 ++ ((1, 5, 6) :: ((1, 4, 3) :: (lk_X6_init_3 ++ ((1, 3, 2) :: ([]))))))))))))))))))))))))))))))))) (uR R464 2 (Int32.toNatClampNeg (0 + 1)) 55) := hK479.u rfl
  have hF482 : FR 1 R (uR R464 2 (Int32.toNatClampNeg (0 + 1)) 55) := hF480.u rfl
  refine cs_X11_init_1_193_56 hc _ _ _ ?_
  refine ⟨fun c => absurd c (by decide), fun _ => ?_⟩
  refine ⟨hK481.ne (show lkq ((2, 1, 55) :: (lk_X10_init_55 ++ ((2, 0, 53) :: (lk_X10_init_53 ++ ((1, 19, 51) :: (lk_X4_init_51 ++ ((1, 18, 49) :: (lk_X4_init_49 ++ ((1, 17, 45) :: (lk_X9_init_45 ++ ((1, 16, 42) :: (lk_X5_init_42 ++ ((1, 15, 39) :: (lk_X8_init_39 ++ ((1, 14, 35) :: (lk_X7_init_35 ++ ((1, 12, 34) :: ((1, 11, 33) :: ((1, 10, 27) :: (lk_X2_init_27 ++ ((1, 9, 21) :: (lk_X2_init_21 ++ ((1, 8, 15) :: (lk_X0_init_15 ++ ((1, 7, 9) :: (lk_X0_init_9 ++ ((1, 6, 7) :: (lk_X3_init_7 ++ ((1, 5, 6) :: ((1, 4, 3) :: (lk_X6_init_3 ++ ((1, 3, 2) :: ([]))))))))))))))))))))))))))))))))) 1 3 = true from rfl), ?_⟩
  have hB483 : BZ (zI I462 57) := hB465.z
  have hZ484 : KI (zk_X10_init_55 ++ (zk_X10_init_53 ++ (zk_X4_init_51 ++ (zk_X4_init_49 ++ (zk_X9_init_45 ++ (zk_X5_init_42 ++ (zk_X8_init_39 ++ (zk_X7_init_35 ++ (zk_X2_init_27 ++ (zk_X2_init_21 ++ (zk_X0_init_15 ++ (zk_X0_init_9 ++ (zk_X3_init_7 ++ (zk_X1_init_6 ++ (zk_X6_init_3 ++ ([])))))))))))))))) (zI I462 57) := hZ472.z rfl
  have hI485 : FI 1 I (zI I462 57) := hI473.z rfl
  have jk486 : (zJ J463 57) 1 1 = 0 := (congrFun (zJ_ne (by decide)) 1).trans jk475
  have jk487 : (zJ J463 57) 1 2 = 1 := (congrFun (zJ_ne (by decide)) 2).trans jk476
  have hJ488 : FJ 1 J (zJ J463 57) := hJ474.z rfl
  have jz489 : (zJ J463 57) 47 0 = 0 := JZ.z jz478 rfl
  have jf490 : ∀ k, k < 22 → (zJ J463 57) 5 k = rsv.getD k 0 := J5.z jf477 rfl
  have hK491 : RK ((2, 1, 55) :: (lk_X10_init_55 ++ ((2, 0, 53) :: (lk_X10_init_53 ++ ((1, 19, 51) :: (lk_X4_init_51 ++ ((1, 18, 49) :: (lk_X4_init_49 ++ ((1, 17, 45) :: (lk_X9_init_45 ++ ((1, 16, 42) :: (lk_X5_init_42 ++ ((1, 15, 39) :: (lk_X8_init_39 ++ ((1, 14, 35) :: (lk_X7_init_35 ++ ((1, 12, 34) :: ((1, 11, 33) :: ((1, 10, 27) :: (lk_X2_init_27 ++ ((1, 9, 21) :: (lk_X2_init_21 ++ ((1, 8, 15) :: (lk_X0_init_15 ++ ((1, 7, 9) :: (lk_X0_init_9 ++ ((1, 6, 7) :: (lk_X3_init_7 ++ ((1, 5, 6) :: ((1, 4, 3) :: (lk_X6_init_3 ++ ((1, 3, 2) :: ([]))))))))))))))))))))))))))))))))) (zR (uR R464 2 (Int32.toNatClampNeg (0 + 1)) 55) 57) := hK481.z rfl
  have hF492 : FR 1 R (zR (uR R464 2 (Int32.toNatClampNeg (0 + 1)) 55) 57) := hF482.z rfl
  refine ct_X10_init_57 hB483 (fun I493 J494 R495 hB496 hF497 hK498 hI499 hZ500 hJ501 jz502 => ?_)
  have hZ503 : KI (zk_X10_init_57 ++ (zk_X10_init_55 ++ (zk_X10_init_53 ++ (zk_X4_init_51 ++ (zk_X4_init_49 ++ (zk_X9_init_45 ++ (zk_X5_init_42 ++ (zk_X8_init_39 ++ (zk_X7_init_35 ++ (zk_X2_init_27 ++ (zk_X2_init_21 ++ (zk_X0_init_15 ++ (zk_X0_init_9 ++ (zk_X3_init_7 ++ (zk_X1_init_6 ++ (zk_X6_init_3 ++ ([]))))))))))))))))) I493 := hZ500.app (hZ484.fr hI499 rfl)
  have hI504 : FI 1 I I493 := fun o ho => (hI499 o (by omega)).trans (hI485 o ho)
  have hJ505 : FJ 1 J J494 := fun o ho => (hJ501 o (by omega)).trans (hJ488 o ho)
  have jk506 : J494 1 1 = 0 := (congrFun (hJ501 1 (by decide)) 1).trans jk486
  have jk507 : J494 1 2 = 1 := (congrFun (hJ501 1 (by decide)) 2).trans jk487
  have jf508 : ∀ k, k < 22 → J494 5 k = rsv.getD k 0 := fun k hk => (congrFun (hJ501 5 (by decide)) k).trans (jf490 k hk)
  have jz509 : J494 47 0 = 0 := (congrFun (hJ501 47 (by decide)) 0).trans jz489
  have hK510 : RK (lk_X10_init_57 ++ ((2, 1, 55) :: (lk_X10_init_55 ++ ((2, 0, 53) :: (lk_X10_init_53 ++ ((1, 19, 51) :: (lk_X4_init_51 ++ ((1, 18, 49) :: (lk_X4_init_49 ++ ((1, 17, 45) :: (lk_X9_init_45 ++ ((1, 16, 42) :: (lk_X5_init_42 ++ ((1, 15, 39) :: (lk_X8_init_39 ++ ((1, 14, 35) :: (lk_X7_init_35 ++ ((1, 12, 34) :: ((1, 11, 33) :: ((1, 10, 27) :: (lk_X2_init_27 ++ ((1, 9, 21) :: (lk_X2_init_21 ++ ((1, 8, 15) :: (lk_X0_init_15 ++ ((1, 7, 9) :: (lk_X0_init_9 ++ ((1, 6, 7) :: (lk_X3_init_7 ++ ((1, 5, 6) :: ((1, 4, 3) :: (lk_X6_init_3 ++ ((1, 3, 2) :: ([])))))))))))))))))))))))))))))))))) R495 := hK498.app (hK491.fr hF497 rfl)
  have hF511 : FR 1 R R495 := fun o ho => (hF497 o (by omega)).trans (hF492 o ho)
  refine ⟨vp_of rfl (by decide) (by decide), ?_⟩
  have hK512 : RK ((2, 2, 57) :: (lk_X10_init_57 ++ ((2, 1, 55) :: (lk_X10_init_55 ++ ((2, 0, 53) :: (lk_X10_init_53 ++ ((1, 19, 51) :: (lk_X4_init_51 ++ ((1, 18, 49) :: (lk_X4_init_49 ++ ((1, 17, 45) :: (lk_X9_init_45 ++ ((1, 16, 42) :: (lk_X5_init_42 ++ ((1, 15, 39) :: (lk_X8_init_39 ++ ((1, 14, 35) :: (lk_X7_init_35 ++ ((1, 12, 34) :: ((1, 11, 33) :: ((1, 10, 27) :: (lk_X2_init_27 ++ ((1, 9, 21) :: (lk_X2_init_21 ++ ((1, 8, 15) :: (lk_X0_init_15 ++ ((1, 7, 9) :: (lk_X0_init_9 ++ ((1, 6, 7) :: (lk_X3_init_7 ++ ((1, 5, 6) :: ((1, 4, 3) :: (lk_X6_init_3 ++ ((1, 3, 2) :: ([]))))))))))))))))))))))))))))))))))) (uR R495 2 (Int32.toNatClampNeg ((0 + 1) + 1)) 57) := hK510.u rfl
  have hF513 : FR 1 R (uR R495 2 (Int32.toNatClampNeg ((0 + 1) + 1)) 57) := hF511.u rfl
  refine cs_X11_init_1_193_58 hc _ _ _ ?_
  refine ⟨fun c => absurd c (by decide), fun _ => ?_⟩
  refine ⟨hK512.ne (show lkq ((2, 2, 57) :: (lk_X10_init_57 ++ ((2, 1, 55) :: (lk_X10_init_55 ++ ((2, 0, 53) :: (lk_X10_init_53 ++ ((1, 19, 51) :: (lk_X4_init_51 ++ ((1, 18, 49) :: (lk_X4_init_49 ++ ((1, 17, 45) :: (lk_X9_init_45 ++ ((1, 16, 42) :: (lk_X5_init_42 ++ ((1, 15, 39) :: (lk_X8_init_39 ++ ((1, 14, 35) :: (lk_X7_init_35 ++ ((1, 12, 34) :: ((1, 11, 33) :: ((1, 10, 27) :: (lk_X2_init_27 ++ ((1, 9, 21) :: (lk_X2_init_21 ++ ((1, 8, 15) :: (lk_X0_init_15 ++ ((1, 7, 9) :: (lk_X0_init_9 ++ ((1, 6, 7) :: (lk_X3_init_7 ++ ((1, 5, 6) :: ((1, 4, 3) :: (lk_X6_init_3 ++ ((1, 3, 2) :: ([]))))))))))))))))))))))))))))))))))) 1 3 = true from rfl), ?_⟩
  have hB514 : BZ (zI I493 59) := hB496.z
  have hZ515 : KI (zk_X10_init_57 ++ (zk_X10_init_55 ++ (zk_X10_init_53 ++ (zk_X4_init_51 ++ (zk_X4_init_49 ++ (zk_X9_init_45 ++ (zk_X5_init_42 ++ (zk_X8_init_39 ++ (zk_X7_init_35 ++ (zk_X2_init_27 ++ (zk_X2_init_21 ++ (zk_X0_init_15 ++ (zk_X0_init_9 ++ (zk_X3_init_7 ++ (zk_X1_init_6 ++ (zk_X6_init_3 ++ ([]))))))))))))))))) (zI I493 59) := hZ503.z rfl
  have hI516 : FI 1 I (zI I493 59) := hI504.z rfl
  have jk517 : (zJ J494 59) 1 1 = 0 := (congrFun (zJ_ne (by decide)) 1).trans jk506
  have jk518 : (zJ J494 59) 1 2 = 1 := (congrFun (zJ_ne (by decide)) 2).trans jk507
  have hJ519 : FJ 1 J (zJ J494 59) := hJ505.z rfl
  have jz520 : (zJ J494 59) 47 0 = 0 := JZ.z jz509 rfl
  have jf521 : ∀ k, k < 22 → (zJ J494 59) 5 k = rsv.getD k 0 := J5.z jf508 rfl
  have hK522 : RK ((2, 2, 57) :: (lk_X10_init_57 ++ ((2, 1, 55) :: (lk_X10_init_55 ++ ((2, 0, 53) :: (lk_X10_init_53 ++ ((1, 19, 51) :: (lk_X4_init_51 ++ ((1, 18, 49) :: (lk_X4_init_49 ++ ((1, 17, 45) :: (lk_X9_init_45 ++ ((1, 16, 42) :: (lk_X5_init_42 ++ ((1, 15, 39) :: (lk_X8_init_39 ++ ((1, 14, 35) :: (lk_X7_init_35 ++ ((1, 12, 34) :: ((1, 11, 33) :: ((1, 10, 27) :: (lk_X2_init_27 ++ ((1, 9, 21) :: (lk_X2_init_21 ++ ((1, 8, 15) :: (lk_X0_init_15 ++ ((1, 7, 9) :: (lk_X0_init_9 ++ ((1, 6, 7) :: (lk_X3_init_7 ++ ((1, 5, 6) :: ((1, 4, 3) :: (lk_X6_init_3 ++ ((1, 3, 2) :: ([]))))))))))))))))))))))))))))))))))) (zR (uR R495 2 (Int32.toNatClampNeg ((0 + 1) + 1)) 57) 59) := hK512.z rfl
  have hF523 : FR 1 R (zR (uR R495 2 (Int32.toNatClampNeg ((0 + 1) + 1)) 57) 59) := hF513.z rfl
  refine ct_X10_init_59 hB514 (fun I524 J525 R526 hB527 hF528 hK529 hI530 hZ531 hJ532 jz533 => ?_)
  have hZ534 : KI (zk_X10_init_59 ++ (zk_X10_init_57 ++ (zk_X10_init_55 ++ (zk_X10_init_53 ++ (zk_X4_init_51 ++ (zk_X4_init_49 ++ (zk_X9_init_45 ++ (zk_X5_init_42 ++ (zk_X8_init_39 ++ (zk_X7_init_35 ++ (zk_X2_init_27 ++ (zk_X2_init_21 ++ (zk_X0_init_15 ++ (zk_X0_init_9 ++ (zk_X3_init_7 ++ (zk_X1_init_6 ++ (zk_X6_init_3 ++ ([])))))))))))))))))) I524 := hZ531.app (hZ515.fr hI530 rfl)
  have hI535 : FI 1 I I524 := fun o ho => (hI530 o (by omega)).trans (hI516 o ho)
  have hJ536 : FJ 1 J J525 := fun o ho => (hJ532 o (by omega)).trans (hJ519 o ho)
  have jk537 : J525 1 1 = 0 := (congrFun (hJ532 1 (by decide)) 1).trans jk517
  have jk538 : J525 1 2 = 1 := (congrFun (hJ532 1 (by decide)) 2).trans jk518
  have jf539 : ∀ k, k < 22 → J525 5 k = rsv.getD k 0 := fun k hk => (congrFun (hJ532 5 (by decide)) k).trans (jf521 k hk)
  have jz540 : J525 47 0 = 0 := (congrFun (hJ532 47 (by decide)) 0).trans jz520
  have hK541 : RK (lk_X10_init_59 ++ ((2, 2, 57) :: (lk_X10_init_57 ++ ((2, 1, 55) :: (lk_X10_init_55 ++ ((2, 0, 53) :: (lk_X10_init_53 ++ ((1, 19, 51) :: (lk_X4_init_51 ++ ((1, 18, 49) :: (lk_X4_init_49 ++ ((1, 17, 45) :: (lk_X9_init_45 ++ ((1, 16, 42) :: (lk_X5_init_42 ++ ((1, 15, 39) :: (lk_X8_init_39 ++ ((1, 14, 35) :: (lk_X7_init_35 ++ ((1, 12, 34) :: ((1, 11, 33) :: ((1, 10, 27) :: (lk_X2_init_27 ++ ((1, 9, 21) :: (lk_X2_init_21 ++ ((1, 8, 15) :: (lk_X0_init_15 ++ ((1, 7, 9) :: (lk_X0_init_9 ++ ((1, 6, 7) :: (lk_X3_init_7 ++ ((1, 5, 6) :: ((1, 4, 3) :: (lk_X6_init_3 ++ ((1, 3, 2) :: ([])))))))))))))))))))))))))))))))))))) R526 := hK529.app (hK522.fr hF528 rfl)
  have hF542 : FR 1 R R526 := fun o ho => (hF528 o (by omega)).trans (hF523 o ho)
  refine ⟨vp_of rfl (by decide) (by decide), ?_⟩
  have hK543 : RK ((2, 3, 59) :: (lk_X10_init_59 ++ ((2, 2, 57) :: (lk_X10_init_57 ++ ((2, 1, 55) :: (lk_X10_init_55 ++ ((2, 0, 53) :: (lk_X10_init_53 ++ ((1, 19, 51) :: (lk_X4_init_51 ++ ((1, 18, 49) :: (lk_X4_init_49 ++ ((1, 17, 45) :: (lk_X9_init_45 ++ ((1, 16, 42) :: (lk_X5_init_42 ++ ((1, 15, 39) :: (lk_X8_init_39 ++ ((1, 14, 35) :: (lk_X7_init_35 ++ ((1, 12, 34) :: ((1, 11, 33) :: ((1, 10, 27) :: (lk_X2_init_27 ++ ((1, 9, 21) :: (lk_X2_init_21 ++ ((1, 8, 15) :: (lk_X0_init_15 ++ ((1, 7, 9) :: (lk_X0_init_9 ++ ((1, 6, 7) :: (lk_X3_init_7 ++ ((1, 5, 6) :: ((1, 4, 3) :: (lk_X6_init_3 ++ ((1, 3, 2) :: ([]))))))))))))))))))))))))))))))))))))) (uR R526 2 (Int32.toNatClampNeg (((0 + 1) + 1) + 1)) 59) := hK541.u rfl
  have hF544 : FR 1 R (uR R526 2 (Int32.toNatClampNeg (((0 + 1) + 1) + 1)) 59) := hF542.u rfl
  refine cs_X11_init_1_193_60 hc _ _ _ ?_
  refine ⟨fun _ => ?_, fun c => absurd (by decide) c⟩
  refine cs_X11_init_1_219_60 hc _ _ _ ?_
  refine ⟨fun c => absurd c (by decide), fun _ => ?_⟩
  refine ⟨hK543.ne (show lkq ((2, 3, 59) :: (lk_X10_init_59 ++ ((2, 2, 57) :: (lk_X10_init_57 ++ ((2, 1, 55) :: (lk_X10_init_55 ++ ((2, 0, 53) :: (lk_X10_init_53 ++ ((1, 19, 51) :: (lk_X4_init_51 ++ ((1, 18, 49) :: (lk_X4_init_49 ++ ((1, 17, 45) :: (lk_X9_init_45 ++ ((1, 16, 42) :: (lk_X5_init_42 ++ ((1, 15, 39) :: (lk_X8_init_39 ++ ((1, 14, 35) :: (lk_X7_init_35 ++ ((1, 12, 34) :: ((1, 11, 33) :: ((1, 10, 27) :: (lk_X2_init_27 ++ ((1, 9, 21) :: (lk_X2_init_21 ++ ((1, 8, 15) :: (lk_X0_init_15 ++ ((1, 7, 9) :: (lk_X0_init_9 ++ ((1, 6, 7) :: (lk_X3_init_7 ++ ((1, 5, 6) :: ((1, 4, 3) :: (lk_X6_init_3 ++ ((1, 3, 2) :: ([]))))))))))))))))))))))))))))))))))))) 1 11 = true from rfl), ?_⟩
  have hB545 : BZ (zI I524 61) := hB527.z
  have hZ546 : KI (zk_X10_init_59 ++ (zk_X10_init_57 ++ (zk_X10_init_55 ++ (zk_X10_init_53 ++ (zk_X4_init_51 ++ (zk_X4_init_49 ++ (zk_X9_init_45 ++ (zk_X5_init_42 ++ (zk_X8_init_39 ++ (zk_X7_init_35 ++ (zk_X2_init_27 ++ (zk_X2_init_21 ++ (zk_X0_init_15 ++ (zk_X0_init_9 ++ (zk_X3_init_7 ++ (zk_X1_init_6 ++ (zk_X6_init_3 ++ ([])))))))))))))))))) (zI I524 61) := hZ534.z rfl
  have hI547 : FI 1 I (zI I524 61) := hI535.z rfl
  have jk548 : (zJ J525 61) 1 1 = 0 := (congrFun (zJ_ne (by decide)) 1).trans jk537
  have jk549 : (zJ J525 61) 1 2 = 1 := (congrFun (zJ_ne (by decide)) 2).trans jk538
  have hJ550 : FJ 1 J (zJ J525 61) := hJ536.z rfl
  have jz551 : (zJ J525 61) 47 0 = 0 := JZ.z jz540 rfl
  have jf552 : ∀ k, k < 22 → (zJ J525 61) 5 k = rsv.getD k 0 := J5.z jf539 rfl
  have hK553 : RK ((2, 3, 59) :: (lk_X10_init_59 ++ ((2, 2, 57) :: (lk_X10_init_57 ++ ((2, 1, 55) :: (lk_X10_init_55 ++ ((2, 0, 53) :: (lk_X10_init_53 ++ ((1, 19, 51) :: (lk_X4_init_51 ++ ((1, 18, 49) :: (lk_X4_init_49 ++ ((1, 17, 45) :: (lk_X9_init_45 ++ ((1, 16, 42) :: (lk_X5_init_42 ++ ((1, 15, 39) :: (lk_X8_init_39 ++ ((1, 14, 35) :: (lk_X7_init_35 ++ ((1, 12, 34) :: ((1, 11, 33) :: ((1, 10, 27) :: (lk_X2_init_27 ++ ((1, 9, 21) :: (lk_X2_init_21 ++ ((1, 8, 15) :: (lk_X0_init_15 ++ ((1, 7, 9) :: (lk_X0_init_9 ++ ((1, 6, 7) :: (lk_X3_init_7 ++ ((1, 5, 6) :: ((1, 4, 3) :: (lk_X6_init_3 ++ ((1, 3, 2) :: ([]))))))))))))))))))))))))))))))))))))) (zR (uR R526 2 (Int32.toNatClampNeg (((0 + 1) + 1) + 1)) 59) 61) := hK543.z rfl
  have hF554 : FR 1 R (zR (uR R526 2 (Int32.toNatClampNeg (((0 + 1) + 1) + 1)) 59) 61) := hF544.z rfl
  refine ct_X0_init_61 hB545 (fun I555 J556 R557 hB558 hF559 hK560 hI561 hZ562 hJ563 jz564 => ?_)
  have hZ565 : KI (zk_X0_init_61 ++ (zk_X10_init_59 ++ (zk_X10_init_57 ++ (zk_X10_init_55 ++ (zk_X10_init_53 ++ (zk_X4_init_51 ++ (zk_X4_init_49 ++ (zk_X9_init_45 ++ (zk_X5_init_42 ++ (zk_X8_init_39 ++ (zk_X7_init_35 ++ (zk_X2_init_27 ++ (zk_X2_init_21 ++ (zk_X0_init_15 ++ (zk_X0_init_9 ++ (zk_X3_init_7 ++ (zk_X1_init_6 ++ (zk_X6_init_3 ++ ([]))))))))))))))))))) I555 := hZ562.app (hZ546.fr hI561 rfl)
  have hI566 : FI 1 I I555 := fun o ho => (hI561 o (by omega)).trans (hI547 o ho)
  have hJ567 : FJ 1 J J556 := fun o ho => (hJ563 o (by omega)).trans (hJ550 o ho)
  have jk568 : J556 1 1 = 0 := (congrFun (hJ563 1 (by decide)) 1).trans jk548
  have jk569 : J556 1 2 = 1 := (congrFun (hJ563 1 (by decide)) 2).trans jk549
  have jf570 : ∀ k, k < 22 → J556 5 k = rsv.getD k 0 := fun k hk => (congrFun (hJ563 5 (by decide)) k).trans (jf552 k hk)
  have jz571 : J556 47 0 = 0 := (congrFun (hJ563 47 (by decide)) 0).trans jz551
  have hK572 : RK (lk_X0_init_61 ++ ((2, 3, 59) :: (lk_X10_init_59 ++ ((2, 2, 57) :: (lk_X10_init_57 ++ ((2, 1, 55) :: (lk_X10_init_55 ++ ((2, 0, 53) :: (lk_X10_init_53 ++ ((1, 19, 51) :: (lk_X4_init_51 ++ ((1, 18, 49) :: (lk_X4_init_49 ++ ((1, 17, 45) :: (lk_X9_init_45 ++ ((1, 16, 42) :: (lk_X5_init_42 ++ ((1, 15, 39) :: (lk_X8_init_39 ++ ((1, 14, 35) :: (lk_X7_init_35 ++ ((1, 12, 34) :: ((1, 11, 33) :: ((1, 10, 27) :: (lk_X2_init_27 ++ ((1, 9, 21) :: (lk_X2_init_21 ++ ((1, 8, 15) :: (lk_X0_init_15 ++ ((1, 7, 9) :: (lk_X0_init_9 ++ ((1, 6, 7) :: (lk_X3_init_7 ++ ((1, 5, 6) :: ((1, 4, 3) :: (lk_X6_init_3 ++ ((1, 3, 2) :: ([])))))))))))))))))))))))))))))))))))))) R557 := hK560.app (hK553.fr hF559 rfl)
  have hF573 : FR 1 R R557 := fun o ho => (hF559 o (by omega)).trans (hF554 o ho)
  refine ⟨vp_of rfl (by decide) (by decide), ?_⟩
  have hK574 : RK ((33, 0, 61) :: (lk_X0_init_61 ++ ((2, 3, 59) :: (lk_X10_init_59 ++ ((2, 2, 57) :: (lk_X10_init_57 ++ ((2, 1, 55) :: (lk_X10_init_55 ++ ((2, 0, 53) :: (lk_X10_init_53 ++ ((1, 19, 51) :: (lk_X4_init_51 ++ ((1, 18, 49) :: (lk_X4_init_49 ++ ((1, 17, 45) :: (lk_X9_init_45 ++ ((1, 16, 42) :: (lk_X5_init_42 ++ ((1, 15, 39) :: (lk_X8_init_39 ++ ((1, 14, 35) :: (lk_X7_init_35 ++ ((1, 12, 34) :: ((1, 11, 33) :: ((1, 10, 27) :: (lk_X2_init_27 ++ ((1, 9, 21) :: (lk_X2_init_21 ++ ((1, 8, 15) :: (lk_X0_init_15 ++ ((1, 7, 9) :: (lk_X0_init_9 ++ ((1, 6, 7) :: (lk_X3_init_7 ++ ((1, 5, 6) :: ((1, 4, 3) :: (lk_X6_init_3 ++ ((1, 3, 2) :: ([]))))))))))))))))))))))))))))))))))))))) (uR R557 33 (Int32.toNatClampNeg 0) 61) := hK572.u rfl
  have hF575 : FR 1 R (uR R557 33 (Int32.toNatClampNeg 0) 61) := hF573.u rfl
  refine ⟨hK574.ne (show lkq ((33, 0, 61) :: (lk_X0_init_61 ++ ((2, 3, 59) :: (lk_X10_init_59 ++ ((2, 2, 57) :: (lk_X10_init_57 ++ ((2, 1, 55) :: (lk_X10_init_55 ++ ((2, 0, 53) :: (lk_X10_init_53 ++ ((1, 19, 51) :: (lk_X4_init_51 ++ ((1, 18, 49) :: (lk_X4_init_49 ++ ((1, 17, 45) :: (lk_X9_init_45 ++ ((1, 16, 42) :: (lk_X5_init_42 ++ ((1, 15, 39) :: (lk_X8_init_39 ++ ((1, 14, 35) :: (lk_X7_init_35 ++ ((1, 12, 34) :: ((1, 11, 33) :: ((1, 10, 27) :: (lk_X2_init_27 ++ ((1, 9, 21) :: (lk_X2_init_21 ++ ((1, 8, 15) :: (lk_X0_init_15 ++ ((1, 7, 9) :: (lk_X0_init_9 ++ ((1, 6, 7) :: (lk_X3_init_7 ++ ((1, 5, 6) :: ((1, 4, 3) :: (lk_X6_init_3 ++ ((1, 3, 2) :: ([]))))))))))))))))))))))))))))))))))))))) 1 12 = true from rfl), ?_⟩
  have hB576 : BZ (zI I555 67) := hB558.z
  have hZ577 : KI (zk_X0_init_61 ++ (zk_X10_init_59 ++ (zk_X10_init_57 ++ (zk_X10_init_55 ++ (zk_X10_init_53 ++ (zk_X4_init_51 ++ (zk_X4_init_49 ++ (zk_X9_init_45 ++ (zk_X5_init_42 ++ (zk_X8_init_39 ++ (zk_X7_init_35 ++ (zk_X2_init_27 ++ (zk_X2_init_21 ++ (zk_X0_init_15 ++ (zk_X0_init_9 ++ (zk_X3_init_7 ++ (zk_X1_init_6 ++ (zk_X6_init_3 ++ ([]))))))))))))))))))) (zI I555 67) := hZ565.z rfl
  have hI578 : FI 1 I (zI I555 67) := hI566.z rfl
  have jk579 : (zJ J556 67) 1 1 = 0 := (congrFun (zJ_ne (by decide)) 1).trans jk568
  have jk580 : (zJ J556 67) 1 2 = 1 := (congrFun (zJ_ne (by decide)) 2).trans jk569
  have hJ581 : FJ 1 J (zJ J556 67) := hJ567.z rfl
  have jz582 : (zJ J556 67) 47 0 = 0 := JZ.z jz571 rfl
  have jf583 : ∀ k, k < 22 → (zJ J556 67) 5 k = rsv.getD k 0 := J5.z jf570 rfl
  have hK584 : RK ((33, 0, 61) :: (lk_X0_init_61 ++ ((2, 3, 59) :: (lk_X10_init_59 ++ ((2, 2, 57) :: (lk_X10_init_57 ++ ((2, 1, 55) :: (lk_X10_init_55 ++ ((2, 0, 53) :: (lk_X10_init_53 ++ ((1, 19, 51) :: (lk_X4_init_51 ++ ((1, 18, 49) :: (lk_X4_init_49 ++ ((1, 17, 45) :: (lk_X9_init_45 ++ ((1, 16, 42) :: (lk_X5_init_42 ++ ((1, 15, 39) :: (lk_X8_init_39 ++ ((1, 14, 35) :: (lk_X7_init_35 ++ ((1, 12, 34) :: ((1, 11, 33) :: ((1, 10, 27) :: (lk_X2_init_27 ++ ((1, 9, 21) :: (lk_X2_init_21 ++ ((1, 8, 15) :: (lk_X0_init_15 ++ ((1, 7, 9) :: (lk_X0_init_9 ++ ((1, 6, 7) :: (lk_X3_init_7 ++ ((1, 5, 6) :: ((1, 4, 3) :: (lk_X6_init_3 ++ ((1, 3, 2) :: ([]))))))))))))))))))))))))))))))))))))))) (zR (uR R557 33 (Int32.toNatClampNeg 0) 61) 67) := hK574.z rfl
  have hF585 : FR 1 R (zR (uR R557 33 (Int32.toNatClampNeg 0) 61) 67) := hF575.z rfl
  refine ct_X2_init_67 hB576 (fun I586 J587 R588 hB589 hF590 hK591 hI592 hZ593 hJ594 jz595 => ?_)
  have hZ596 : KI (zk_X2_init_67 ++ (zk_X0_init_61 ++ (zk_X10_init_59 ++ (zk_X10_init_57 ++ (zk_X10_init_55 ++ (zk_X10_init_53 ++ (zk_X4_init_51 ++ (zk_X4_init_49 ++ (zk_X9_init_45 ++ (zk_X5_init_42 ++ (zk_X8_init_39 ++ (zk_X7_init_35 ++ (zk_X2_init_27 ++ (zk_X2_init_21 ++ (zk_X0_init_15 ++ (zk_X0_init_9 ++ (zk_X3_init_7 ++ (zk_X1_init_6 ++ (zk_X6_init_3 ++ ([])))))))))))))))))))) I586 := hZ593.app (hZ577.fr hI592 rfl)
  have hI597 : FI 1 I I586 := fun o ho => (hI592 o (by omega)).trans (hI578 o ho)
  have hJ598 : FJ 1 J J587 := fun o ho => (hJ594 o (by omega)).trans (hJ581 o ho)
  have jk599 : J587 1 1 = 0 := (congrFun (hJ594 1 (by decide)) 1).trans jk579
  have jk600 : J587 1 2 = 1 := (congrFun (hJ594 1 (by decide)) 2).trans jk580
  have jf601 : ∀ k, k < 22 → J587 5 k = rsv.getD k 0 := fun k hk => (congrFun (hJ594 5 (by decide)) k).trans (jf583 k hk)
  have jz602 : J587 47 0 = 0 := (congrFun (hJ594 47 (by decide)) 0).trans jz582
  have hK603 : RK (lk_X2_init_67 ++ ((33, 0, 61) :: (lk_X0_init_61 ++ ((2, 3, 59) :: (lk_X10_init_59 ++ ((2, 2, 57) :: (lk_X10_init_57 ++ ((2, 1, 55) :: (lk_X10_init_55 ++ ((2, 0, 53) :: (lk_X10_init_53 ++ ((1, 19, 51) :: (lk_X4_init_51 ++ ((1, 18, 49) :: (lk_X4_init_49 ++ ((1, 17, 45) :: (lk_X9_init_45 ++ ((1, 16, 42) :: (lk_X5_init_42 ++ ((1, 15, 39) :: (lk_X8_init_39 ++ ((1, 14, 35) :: (lk_X7_init_35 ++ ((1, 12, 34) :: ((1, 11, 33) :: ((1, 10, 27) :: (lk_X2_init_27 ++ ((1, 9, 21) :: (lk_X2_init_21 ++ ((1, 8, 15) :: (lk_X0_init_15 ++ ((1, 7, 9) :: (lk_X0_init_9 ++ ((1, 6, 7) :: (lk_X3_init_7 ++ ((1, 5, 6) :: ((1, 4, 3) :: (lk_X6_init_3 ++ ((1, 3, 2) :: ([])))))))))))))))))))))))))))))))))))))))) R588 := hK591.app (hK584.fr hF590 rfl)
  have hF604 : FR 1 R R588 := fun o ho => (hF590 o (by omega)).trans (hF585 o ho)
  refine ⟨vp_of rfl (by decide) (by decide), ?_⟩
  have hK605 : RK ((34, 0, 67) :: (lk_X2_init_67 ++ ((33, 0, 61) :: (lk_X0_init_61 ++ ((2, 3, 59) :: (lk_X10_init_59 ++ ((2, 2, 57) :: (lk_X10_init_57 ++ ((2, 1, 55) :: (lk_X10_init_55 ++ ((2, 0, 53) :: (lk_X10_init_53 ++ ((1, 19, 51) :: (lk_X4_init_51 ++ ((1, 18, 49) :: (lk_X4_init_49 ++ ((1, 17, 45) :: (lk_X9_init_45 ++ ((1, 16, 42) :: (lk_X5_init_42 ++ ((1, 15, 39) :: (lk_X8_init_39 ++ ((1, 14, 35) :: (lk_X7_init_35 ++ ((1, 12, 34) :: ((1, 11, 33) :: ((1, 10, 27) :: (lk_X2_init_27 ++ ((1, 9, 21) :: (lk_X2_init_21 ++ ((1, 8, 15) :: (lk_X0_init_15 ++ ((1, 7, 9) :: (lk_X0_init_9 ++ ((1, 6, 7) :: (lk_X3_init_7 ++ ((1, 5, 6) :: ((1, 4, 3) :: (lk_X6_init_3 ++ ((1, 3, 2) :: ([]))))))))))))))))))))))))))))))))))))))))) (uR R588 34 (Int32.toNatClampNeg 0) 67) := hK603.u rfl
  have hF606 : FR 1 R (uR R588 34 (Int32.toNatClampNeg 0) 67) := hF604.u rfl
  refine cs_X11_init_1_219_72 hc _ _ _ ?_
  refine ⟨fun c => absurd c (by decide), fun _ => ?_⟩
  refine ⟨hK605.ne (show lkq ((34, 0, 67) :: (lk_X2_init_67 ++ ((33, 0, 61) :: (lk_X0_init_61 ++ ((2, 3, 59) :: (lk_X10_init_59 ++ ((2, 2, 57) :: (lk_X10_init_57 ++ ((2, 1, 55) :: (lk_X10_init_55 ++ ((2, 0, 53) :: (lk_X10_init_53 ++ ((1, 19, 51) :: (lk_X4_init_51 ++ ((1, 18, 49) :: (lk_X4_init_49 ++ ((1, 17, 45) :: (lk_X9_init_45 ++ ((1, 16, 42) :: (lk_X5_init_42 ++ ((1, 15, 39) :: (lk_X8_init_39 ++ ((1, 14, 35) :: (lk_X7_init_35 ++ ((1, 12, 34) :: ((1, 11, 33) :: ((1, 10, 27) :: (lk_X2_init_27 ++ ((1, 9, 21) :: (lk_X2_init_21 ++ ((1, 8, 15) :: (lk_X0_init_15 ++ ((1, 7, 9) :: (lk_X0_init_9 ++ ((1, 6, 7) :: (lk_X3_init_7 ++ ((1, 5, 6) :: ((1, 4, 3) :: (lk_X6_init_3 ++ ((1, 3, 2) :: ([]))))))))))))))))))))))))))))))))))))))))) 1 11 = true from rfl), ?_⟩
  have hB607 : BZ (zI I586 73) := hB589.z
  have hZ608 : KI (zk_X2_init_67 ++ (zk_X0_init_61 ++ (zk_X10_init_59 ++ (zk_X10_init_57 ++ (zk_X10_init_55 ++ (zk_X10_init_53 ++ (zk_X4_init_51 ++ (zk_X4_init_49 ++ (zk_X9_init_45 ++ (zk_X5_init_42 ++ (zk_X8_init_39 ++ (zk_X7_init_35 ++ (zk_X2_init_27 ++ (zk_X2_init_21 ++ (zk_X0_init_15 ++ (zk_X0_init_9 ++ (zk_X3_init_7 ++ (zk_X1_init_6 ++ (zk_X6_init_3 ++ ([])))))))))))))))))))) (zI I586 73) := hZ596.z rfl
  have hI609 : FI 1 I (zI I586 73) := hI597.z rfl
  have jk610 : (zJ J587 73) 1 1 = 0 := (congrFun (zJ_ne (by decide)) 1).trans jk599
  have jk611 : (zJ J587 73) 1 2 = 1 := (congrFun (zJ_ne (by decide)) 2).trans jk600
  have hJ612 : FJ 1 J (zJ J587 73) := hJ598.z rfl
  have jz613 : (zJ J587 73) 47 0 = 0 := JZ.z jz602 rfl
  have jf614 : ∀ k, k < 22 → (zJ J587 73) 5 k = rsv.getD k 0 := J5.z jf601 rfl
  have hK615 : RK ((34, 0, 67) :: (lk_X2_init_67 ++ ((33, 0, 61) :: (lk_X0_init_61 ++ ((2, 3, 59) :: (lk_X10_init_59 ++ ((2, 2, 57) :: (lk_X10_init_57 ++ ((2, 1, 55) :: (lk_X10_init_55 ++ ((2, 0, 53) :: (lk_X10_init_53 ++ ((1, 19, 51) :: (lk_X4_init_51 ++ ((1, 18, 49) :: (lk_X4_init_49 ++ ((1, 17, 45) :: (lk_X9_init_45 ++ ((1, 16, 42) :: (lk_X5_init_42 ++ ((1, 15, 39) :: (lk_X8_init_39 ++ ((1, 14, 35) :: (lk_X7_init_35 ++ ((1, 12, 34) :: ((1, 11, 33) :: ((1, 10, 27) :: (lk_X2_init_27 ++ ((1, 9, 21) :: (lk_X2_init_21 ++ ((1, 8, 15) :: (lk_X0_init_15 ++ ((1, 7, 9) :: (lk_X0_init_9 ++ ((1, 6, 7) :: (lk_X3_init_7 ++ ((1, 5, 6) :: ((1, 4, 3) :: (lk_X6_init_3 ++ ((1, 3, 2) :: ([]))))))))))))))))))))))))))))))))))))))))) (zR (uR R588 34 (Int32.toNatClampNeg 0) 67) 73) := hK605.z rfl
  have hF616 : FR 1 R (zR (uR R588 34 (Int32.toNatClampNeg 0) 67) 73) := hF606.z rfl
  refine ct_X0_init_73 hB607 (fun I617 J618 R619 hB620 hF621 hK622 hI623 hZ624 hJ625 jz626 => ?_)
  have hZ627 : KI (zk_X0_init_73 ++ (zk_X2_init_67 ++ (zk_X0_init_61 ++ (zk_X10_init_59 ++ (zk_X10_init_57 ++ (zk_X10_init_55 ++ (zk_X10_init_53 ++ (zk_X4_init_51 ++ (zk_X4_init_49 ++ (zk_X9_init_45 ++ (zk_X5_init_42 ++ (zk_X8_init_39 ++ (zk_X7_init_35 ++ (zk_X2_init_27 ++ (zk_X2_init_21 ++ (zk_X0_init_15 ++ (zk_X0_init_9 ++ (zk_X3_init_7 ++ (zk_X1_init_6 ++ (zk_X6_init_3 ++ ([]))))))))))))))))))))) I617 := hZ624.app (hZ608.fr hI623 rfl)
  have hI628 : FI 1 I I617 := fun o ho => (hI623 o (by omega)).trans (hI609 o ho)
  have hJ629 : FJ 1 J J618 := fun o ho => (hJ625 o (by omega)).trans (hJ612 o ho)
  have jk630 : J618 1 1 = 0 := (congrFun (hJ625 1 (by decide)) 1).trans jk610
  have jk631 : J618 1 2 = 1 := (congrFun (hJ625 1 (by decide)) 2).trans jk611
  have jf632 : ∀ k, k < 22 → J618 5 k = rsv.getD k 0 := fun k hk => (congrFun (hJ625 5 (by decide)) k).trans (jf614 k hk)
  have jz633 : J618 47 0 = 0 := (congrFun (hJ625 47 (by decide)) 0).trans jz613
  have hK634 : RK (lk_X0_init_73 ++ ((34, 0, 67) :: (lk_X2_init_67 ++ ((33, 0, 61) :: (lk_X0_init_61 ++ ((2, 3, 59) :: (lk_X10_init_59 ++ ((2, 2, 57) :: (lk_X10_init_57 ++ ((2, 1, 55) :: (lk_X10_init_55 ++ ((2, 0, 53) :: (lk_X10_init_53 ++ ((1, 19, 51) :: (lk_X4_init_51 ++ ((1, 18, 49) :: (lk_X4_init_49 ++ ((1, 17, 45) :: (lk_X9_init_45 ++ ((1, 16, 42) :: (lk_X5_init_42 ++ ((1, 15, 39) :: (lk_X8_init_39 ++ ((1, 14, 35) :: (lk_X7_init_35 ++ ((1, 12, 34) :: ((1, 11, 33) :: ((1, 10, 27) :: (lk_X2_init_27 ++ ((1, 9, 21) :: (lk_X2_init_21 ++ ((1, 8, 15) :: (lk_X0_init_15 ++ ((1, 7, 9) :: (lk_X0_init_9 ++ ((1, 6, 7) :: (lk_X3_init_7 ++ ((1, 5, 6) :: ((1, 4, 3) :: (lk_X6_init_3 ++ ((1, 3, 2) :: ([])))))))))))))))))))))))))))))))))))))))))) R619 := hK622.app (hK615.fr hF621 rfl)
  have hF635 : FR 1 R R619 := fun o ho => (hF621 o (by omega)).trans (hF616 o ho)
  refine ⟨vp_of rfl (by decide) (by decide), ?_⟩
  have hK636 : RK ((33, 1, 73) :: (lk_X0_init_73 ++ ((34, 0, 67) :: (lk_X2_init_67 ++ ((33, 0, 61) :: (lk_X0_init_61 ++ ((2, 3, 59) :: (lk_X10_init_59 ++ ((2, 2, 57) :: (lk_X10_init_57 ++ ((2, 1, 55) :: (lk_X10_init_55 ++ ((2, 0, 53) :: (lk_X10_init_53 ++ ((1, 19, 51) :: (lk_X4_init_51 ++ ((1, 18, 49) :: (lk_X4_init_49 ++ ((1, 17, 45) :: (lk_X9_init_45 ++ ((1, 16, 42) :: (lk_X5_init_42 ++ ((1, 15, 39) :: (lk_X8_init_39 ++ ((1, 14, 35) :: (lk_X7_init_35 ++ ((1, 12, 34) :: ((1, 11, 33) :: ((1, 10, 27) :: (lk_X2_init_27 ++ ((1, 9, 21) :: (lk_X2_init_21 ++ ((1, 8, 15) :: (lk_X0_init_15 ++ ((1, 7, 9) :: (lk_X0_init_9 ++ ((1, 6, 7) :: (lk_X3_init_7 ++ ((1, 5, 6) :: ((1, 4, 3) :: (lk_X6_init_3 ++ ((1, 3, 2) :: ([]))))))))))))))))))))))))))))))))))))))))))) (uR R619 33 (Int32.toNatClampNeg (0 + 1)) 73) := hK634.u rfl
  have hF637 : FR 1 R (uR R619 33 (Int32.toNatClampNeg (0 + 1)) 73) := hF635.u rfl
  refine ⟨hK636.ne (show lkq ((33, 1, 73) :: (lk_X0_init_73 ++ ((34, 0, 67) :: (lk_X2_init_67 ++ ((33, 0, 61) :: (lk_X0_init_61 ++ ((2, 3, 59) :: (lk_X10_init_59 ++ ((2, 2, 57) :: (lk_X10_init_57 ++ ((2, 1, 55) :: (lk_X10_init_55 ++ ((2, 0, 53) :: (lk_X10_init_53 ++ ((1, 19, 51) :: (lk_X4_init_51 ++ ((1, 18, 49) :: (lk_X4_init_49 ++ ((1, 17, 45) :: (lk_X9_init_45 ++ ((1, 16, 42) :: (lk_X5_init_42 ++ ((1, 15, 39) :: (lk_X8_init_39 ++ ((1, 14, 35) :: (lk_X7_init_35 ++ ((1, 12, 34) :: ((1, 11, 33) :: ((1, 10, 27) :: (lk_X2_init_27 ++ ((1, 9, 21) :: (lk_X2_init_21 ++ ((1, 8, 15) :: (lk_X0_init_15 ++ ((1, 7, 9) :: (lk_X0_init_9 ++ ((1, 6, 7) :: (lk_X3_init_7 ++ ((1, 5, 6) :: ((1, 4, 3) :: (lk_X6_init_3 ++ ((1, 3, 2) :: ([]))))))))))))))))))))))))))))))))))))))))))) 1 12 = true from rfl), ?_⟩
  have hB638 : BZ (zI I617 79) := hB620.z
  have hZ639 : KI (zk_X0_init_73 ++ (zk_X2_init_67 ++ (zk_X0_init_61 ++ (zk_X10_init_59 ++ (zk_X10_init_57 ++ (zk_X10_init_55 ++ (zk_X10_init_53 ++ (zk_X4_init_51 ++ (zk_X4_init_49 ++ (zk_X9_init_45 ++ (zk_X5_init_42 ++ (zk_X8_init_39 ++ (zk_X7_init_35 ++ (zk_X2_init_27 ++ (zk_X2_init_21 ++ (zk_X0_init_15 ++ (zk_X0_init_9 ++ (zk_X3_init_7 ++ (zk_X1_init_6 ++ (zk_X6_init_3 ++ ([]))))))))))))))))))))) (zI I617 79) := hZ627.z rfl
  have hI640 : FI 1 I (zI I617 79) := hI628.z rfl
  have jk641 : (zJ J618 79) 1 1 = 0 := (congrFun (zJ_ne (by decide)) 1).trans jk630
  have jk642 : (zJ J618 79) 1 2 = 1 := (congrFun (zJ_ne (by decide)) 2).trans jk631
  have hJ643 : FJ 1 J (zJ J618 79) := hJ629.z rfl
  have jz644 : (zJ J618 79) 47 0 = 0 := JZ.z jz633 rfl
  have jf645 : ∀ k, k < 22 → (zJ J618 79) 5 k = rsv.getD k 0 := J5.z jf632 rfl
  have hK646 : RK ((33, 1, 73) :: (lk_X0_init_73 ++ ((34, 0, 67) :: (lk_X2_init_67 ++ ((33, 0, 61) :: (lk_X0_init_61 ++ ((2, 3, 59) :: (lk_X10_init_59 ++ ((2, 2, 57) :: (lk_X10_init_57 ++ ((2, 1, 55) :: (lk_X10_init_55 ++ ((2, 0, 53) :: (lk_X10_init_53 ++ ((1, 19, 51) :: (lk_X4_init_51 ++ ((1, 18, 49) :: (lk_X4_init_49 ++ ((1, 17, 45) :: (lk_X9_init_45 ++ ((1, 16, 42) :: (lk_X5_init_42 ++ ((1, 15, 39) :: (lk_X8_init_39 ++ ((1, 14, 35) :: (lk_X7_init_35 ++ ((1, 12, 34) :: ((1, 11, 33) :: ((1, 10, 27) :: (lk_X2_init_27 ++ ((1, 9, 21) :: (lk_X2_init_21 ++ ((1, 8, 15) :: (lk_X0_init_15 ++ ((1, 7, 9) :: (lk_X0_init_9 ++ ((1, 6, 7) :: (lk_X3_init_7 ++ ((1, 5, 6) :: ((1, 4, 3) :: (lk_X6_init_3 ++ ((1, 3, 2) :: ([]))))))))))))))))))))))))))))))))))))))))))) (zR (uR R619 33 (Int32.toNatClampNeg (0 + 1)) 73) 79) := hK636.z rfl
  have hF647 : FR 1 R (zR (uR R619 33 (Int32.toNatClampNeg (0 + 1)) 73) 79) := hF637.z rfl
  refine ct_X2_init_79 hB638 (fun I648 J649 R650 hB651 hF652 hK653 hI654 hZ655 hJ656 jz657 => ?_)
  have hZ658 : KI (zk_X2_init_79 ++ (zk_X0_init_73 ++ (zk_X2_init_67 ++ (zk_X0_init_61 ++ (zk_X10_init_59 ++ (zk_X10_init_57 ++ (zk_X10_init_55 ++ (zk_X10_init_53 ++ (zk_X4_init_51 ++ (zk_X4_init_49 ++ (zk_X9_init_45 ++ (zk_X5_init_42 ++ (zk_X8_init_39 ++ (zk_X7_init_35 ++ (zk_X2_init_27 ++ (zk_X2_init_21 ++ (zk_X0_init_15 ++ (zk_X0_init_9 ++ (zk_X3_init_7 ++ (zk_X1_init_6 ++ (zk_X6_init_3 ++ ([])))))))))))))))))))))) I648 := hZ655.app (hZ639.fr hI654 rfl)
  have hI659 : FI 1 I I648 := fun o ho => (hI654 o (by omega)).trans (hI640 o ho)
  have hJ660 : FJ 1 J J649 := fun o ho => (hJ656 o (by omega)).trans (hJ643 o ho)
  have jk661 : J649 1 1 = 0 := (congrFun (hJ656 1 (by decide)) 1).trans jk641
  have jk662 : J649 1 2 = 1 := (congrFun (hJ656 1 (by decide)) 2).trans jk642
  have jf663 : ∀ k, k < 22 → J649 5 k = rsv.getD k 0 := fun k hk => (congrFun (hJ656 5 (by decide)) k).trans (jf645 k hk)
  have jz664 : J649 47 0 = 0 := (congrFun (hJ656 47 (by decide)) 0).trans jz644
  have hK665 : RK (lk_X2_init_79 ++ ((33, 1, 73) :: (lk_X0_init_73 ++ ((34, 0, 67) :: (lk_X2_init_67 ++ ((33, 0, 61) :: (lk_X0_init_61 ++ ((2, 3, 59) :: (lk_X10_init_59 ++ ((2, 2, 57) :: (lk_X10_init_57 ++ ((2, 1, 55) :: (lk_X10_init_55 ++ ((2, 0, 53) :: (lk_X10_init_53 ++ ((1, 19, 51) :: (lk_X4_init_51 ++ ((1, 18, 49) :: (lk_X4_init_49 ++ ((1, 17, 45) :: (lk_X9_init_45 ++ ((1, 16, 42) :: (lk_X5_init_42 ++ ((1, 15, 39) :: (lk_X8_init_39 ++ ((1, 14, 35) :: (lk_X7_init_35 ++ ((1, 12, 34) :: ((1, 11, 33) :: ((1, 10, 27) :: (lk_X2_init_27 ++ ((1, 9, 21) :: (lk_X2_init_21 ++ ((1, 8, 15) :: (lk_X0_init_15 ++ ((1, 7, 9) :: (lk_X0_init_9 ++ ((1, 6, 7) :: (lk_X3_init_7 ++ ((1, 5, 6) :: ((1, 4, 3) :: (lk_X6_init_3 ++ ((1, 3, 2) :: ([])))))))))))))))))))))))))))))))))))))))))))) R650 := hK653.app (hK646.fr hF652 rfl)
  have hF666 : FR 1 R R650 := fun o ho => (hF652 o (by omega)).trans (hF647 o ho)
  refine ⟨vp_of rfl (by decide) (by decide), ?_⟩
  have hK667 : RK ((34, 1, 79) :: (lk_X2_init_79 ++ ((33, 1, 73) :: (lk_X0_init_73 ++ ((34, 0, 67) :: (lk_X2_init_67 ++ ((33, 0, 61) :: (lk_X0_init_61 ++ ((2, 3, 59) :: (lk_X10_init_59 ++ ((2, 2, 57) :: (lk_X10_init_57 ++ ((2, 1, 55) :: (lk_X10_init_55 ++ ((2, 0, 53) :: (lk_X10_init_53 ++ ((1, 19, 51) :: (lk_X4_init_51 ++ ((1, 18, 49) :: (lk_X4_init_49 ++ ((1, 17, 45) :: (lk_X9_init_45 ++ ((1, 16, 42) :: (lk_X5_init_42 ++ ((1, 15, 39) :: (lk_X8_init_39 ++ ((1, 14, 35) :: (lk_X7_init_35 ++ ((1, 12, 34) :: ((1, 11, 33) :: ((1, 10, 27) :: (lk_X2_init_27 ++ ((1, 9, 21) :: (lk_X2_init_21 ++ ((1, 8, 15) :: (lk_X0_init_15 ++ ((1, 7, 9) :: (lk_X0_init_9 ++ ((1, 6, 7) :: (lk_X3_init_7 ++ ((1, 5, 6) :: ((1, 4, 3) :: (lk_X6_init_3 ++ ((1, 3, 2) :: ([]))))))))))))))))))))))))))))))))))))))))))))) (uR R650 34 (Int32.toNatClampNeg (0 + 1)) 79) := hK665.u rfl
  have hF668 : FR 1 R (uR R650 34 (Int32.toNatClampNeg (0 + 1)) 79) := hF666.u rfl
  refine cs_X11_init_1_219_84 hc _ _ _ ?_
  refine ⟨fun c => absurd c (by decide), fun _ => ?_⟩
  refine ⟨hK667.ne (show lkq ((34, 1, 79) :: (lk_X2_init_79 ++ ((33, 1, 73) :: (lk_X0_init_73 ++ ((34, 0, 67) :: (lk_X2_init_67 ++ ((33, 0, 61) :: (lk_X0_init_61 ++ ((2, 3, 59) :: (lk_X10_init_59 ++ ((2, 2, 57) :: (lk_X10_init_57 ++ ((2, 1, 55) :: (lk_X10_init_55 ++ ((2, 0, 53) :: (lk_X10_init_53 ++ ((1, 19, 51) :: (lk_X4_init_51 ++ ((1, 18, 49) :: (lk_X4_init_49 ++ ((1, 17, 45) :: (lk_X9_init_45 ++ ((1, 16, 42) :: (lk_X5_init_42 ++ ((1, 15, 39) :: (lk_X8_init_39 ++ ((1, 14, 35) :: (lk_X7_init_35 ++ ((1, 12, 34) :: ((1, 11, 33) :: ((1, 10, 27) :: (lk_X2_init_27 ++ ((1, 9, 21) :: (lk_X2_init_21 ++ ((1, 8, 15) :: (lk_X0_init_15 ++ ((1, 7, 9) :: (lk_X0_init_9 ++ ((1, 6, 7) :: (lk_X3_init_7 ++ ((1, 5, 6) :: ((1, 4, 3) :: (lk_X6_init_3 ++ ((1, 3, 2) :: ([]))))))))))))))))))))))))))))))))))))))))))))) 1 11 = true from rfl), ?_⟩
  have hB669 : BZ (zI I648 85) := hB651.z
  have hZ670 : KI (zk_X2_init_79 ++ (zk_X0_init_73 ++ (zk_X2_init_67 ++ (zk_X0_init_61 ++ (zk_X10_init_59 ++ (zk_X10_init_57 ++ (zk_X10_init_55 ++ (zk_X10_init_53 ++ (zk_X4_init_51 ++ (zk_X4_init_49 ++ (zk_X9_init_45 ++ (zk_X5_init_42 ++ (zk_X8_init_39 ++ (zk_X7_init_35 ++ (zk_X2_init_27 ++ (zk_X2_init_21 ++ (zk_X0_init_15 ++ (zk_X0_init_9 ++ (zk_X3_init_7 ++ (zk_X1_init_6 ++ (zk_X6_init_3 ++ ([])))))))))))))))))))))) (zI I648 85) := hZ658.z rfl
  have hI671 : FI 1 I (zI I648 85) := hI659.z rfl
  have jk672 : (zJ J649 85) 1 1 = 0 := (congrFun (zJ_ne (by decide)) 1).trans jk661
  have jk673 : (zJ J649 85) 1 2 = 1 := (congrFun (zJ_ne (by decide)) 2).trans jk662
  have hJ674 : FJ 1 J (zJ J649 85) := hJ660.z rfl
  have jz675 : (zJ J649 85) 47 0 = 0 := JZ.z jz664 rfl
  have jf676 : ∀ k, k < 22 → (zJ J649 85) 5 k = rsv.getD k 0 := J5.z jf663 rfl
  have hK677 : RK ((34, 1, 79) :: (lk_X2_init_79 ++ ((33, 1, 73) :: (lk_X0_init_73 ++ ((34, 0, 67) :: (lk_X2_init_67 ++ ((33, 0, 61) :: (lk_X0_init_61 ++ ((2, 3, 59) :: (lk_X10_init_59 ++ ((2, 2, 57) :: (lk_X10_init_57 ++ ((2, 1, 55) :: (lk_X10_init_55 ++ ((2, 0, 53) :: (lk_X10_init_53 ++ ((1, 19, 51) :: (lk_X4_init_51 ++ ((1, 18, 49) :: (lk_X4_init_49 ++ ((1, 17, 45) :: (lk_X9_init_45 ++ ((1, 16, 42) :: (lk_X5_init_42 ++ ((1, 15, 39) :: (lk_X8_init_39 ++ ((1, 14, 35) :: (lk_X7_init_35 ++ ((1, 12, 34) :: ((1, 11, 33) :: ((1, 10, 27) :: (lk_X2_init_27 ++ ((1, 9, 21) :: (lk_X2_init_21 ++ ((1, 8, 15) :: (lk_X0_init_15 ++ ((1, 7, 9) :: (lk_X0_init_9 ++ ((1, 6, 7) :: (lk_X3_init_7 ++ ((1, 5, 6) :: ((1, 4, 3) :: (lk_X6_init_3 ++ ((1, 3, 2) :: ([]))))))))))))))))))))))))))))))))))))))))))))) (zR (uR R650 34 (Int32.toNatClampNeg (0 + 1)) 79) 85) := hK667.z rfl
  have hF678 : FR 1 R (zR (uR R650 34 (Int32.toNatClampNeg (0 + 1)) 79) 85) := hF668.z rfl
  refine ct_X0_init_85 hB669 (fun I679 J680 R681 hB682 hF683 hK684 hI685 hZ686 hJ687 jz688 => ?_)
  have hZ689 : KI (zk_X0_init_85 ++ (zk_X2_init_79 ++ (zk_X0_init_73 ++ (zk_X2_init_67 ++ (zk_X0_init_61 ++ (zk_X10_init_59 ++ (zk_X10_init_57 ++ (zk_X10_init_55 ++ (zk_X10_init_53 ++ (zk_X4_init_51 ++ (zk_X4_init_49 ++ (zk_X9_init_45 ++ (zk_X5_init_42 ++ (zk_X8_init_39 ++ (zk_X7_init_35 ++ (zk_X2_init_27 ++ (zk_X2_init_21 ++ (zk_X0_init_15 ++ (zk_X0_init_9 ++ (zk_X3_init_7 ++ (zk_X1_init_6 ++ (zk_X6_init_3 ++ ([]))))))))))))))))))))))) I679 := hZ686.app (hZ670.fr hI685 rfl)
  have hI690 : FI 1 I I679 := fun o ho => (hI685 o (by omega)).trans (hI671 o ho)
  have hJ691 : FJ 1 J J680 := fun o ho => (hJ687 o (by omega)).trans (hJ674 o ho)
  have jk692 : J680 1 1 = 0 := (congrFun (hJ687 1 (by decide)) 1).trans jk672
  have jk693 : J680 1 2 = 1 := (congrFun (hJ687 1 (by decide)) 2).trans jk673
  have jf694 : ∀ k, k < 22 → J680 5 k = rsv.getD k 0 := fun k hk => (congrFun (hJ687 5 (by decide)) k).trans (jf676 k hk)
  have jz695 : J680 47 0 = 0 := (congrFun (hJ687 47 (by decide)) 0).trans jz675
  have hK696 : RK (lk_X0_init_85 ++ ((34, 1, 79) :: (lk_X2_init_79 ++ ((33, 1, 73) :: (lk_X0_init_73 ++ ((34, 0, 67) :: (lk_X2_init_67 ++ ((33, 0, 61) :: (lk_X0_init_61 ++ ((2, 3, 59) :: (lk_X10_init_59 ++ ((2, 2, 57) :: (lk_X10_init_57 ++ ((2, 1, 55) :: (lk_X10_init_55 ++ ((2, 0, 53) :: (lk_X10_init_53 ++ ((1, 19, 51) :: (lk_X4_init_51 ++ ((1, 18, 49) :: (lk_X4_init_49 ++ ((1, 17, 45) :: (lk_X9_init_45 ++ ((1, 16, 42) :: (lk_X5_init_42 ++ ((1, 15, 39) :: (lk_X8_init_39 ++ ((1, 14, 35) :: (lk_X7_init_35 ++ ((1, 12, 34) :: ((1, 11, 33) :: ((1, 10, 27) :: (lk_X2_init_27 ++ ((1, 9, 21) :: (lk_X2_init_21 ++ ((1, 8, 15) :: (lk_X0_init_15 ++ ((1, 7, 9) :: (lk_X0_init_9 ++ ((1, 6, 7) :: (lk_X3_init_7 ++ ((1, 5, 6) :: ((1, 4, 3) :: (lk_X6_init_3 ++ ((1, 3, 2) :: ([])))))))))))))))))))))))))))))))))))))))))))))) R681 := hK684.app (hK677.fr hF683 rfl)
  have hF697 : FR 1 R R681 := fun o ho => (hF683 o (by omega)).trans (hF678 o ho)
  refine ⟨vp_of rfl (by decide) (by decide), ?_⟩
  have hK698 : RK ((33, 2, 85) :: (lk_X0_init_85 ++ ((34, 1, 79) :: (lk_X2_init_79 ++ ((33, 1, 73) :: (lk_X0_init_73 ++ ((34, 0, 67) :: (lk_X2_init_67 ++ ((33, 0, 61) :: (lk_X0_init_61 ++ ((2, 3, 59) :: (lk_X10_init_59 ++ ((2, 2, 57) :: (lk_X10_init_57 ++ ((2, 1, 55) :: (lk_X10_init_55 ++ ((2, 0, 53) :: (lk_X10_init_53 ++ ((1, 19, 51) :: (lk_X4_init_51 ++ ((1, 18, 49) :: (lk_X4_init_49 ++ ((1, 17, 45) :: (lk_X9_init_45 ++ ((1, 16, 42) :: (lk_X5_init_42 ++ ((1, 15, 39) :: (lk_X8_init_39 ++ ((1, 14, 35) :: (lk_X7_init_35 ++ ((1, 12, 34) :: ((1, 11, 33) :: ((1, 10, 27) :: (lk_X2_init_27 ++ ((1, 9, 21) :: (lk_X2_init_21 ++ ((1, 8, 15) :: (lk_X0_init_15 ++ ((1, 7, 9) :: (lk_X0_init_9 ++ ((1, 6, 7) :: (lk_X3_init_7 ++ ((1, 5, 6) :: ((1, 4, 3) :: (lk_X6_init_3 ++ ((1, 3, 2) :: ([]))))))))))))))))))))))))))))))))))))))))))))))) (uR R681 33 (Int32.toNatClampNeg ((0 + 1) + 1)) 85) := hK696.u rfl
  have hF699 : FR 1 R (uR R681 33 (Int32.toNatClampNeg ((0 + 1) + 1)) 85) := hF697.u rfl
  refine ⟨hK698.ne (show lkq ((33, 2, 85) :: (lk_X0_init_85 ++ ((34, 1, 79) :: (lk_X2_init_79 ++ ((33, 1, 73) :: (lk_X0_init_73 ++ ((34, 0, 67) :: (lk_X2_init_67 ++ ((33, 0, 61) :: (lk_X0_init_61 ++ ((2, 3, 59) :: (lk_X10_init_59 ++ ((2, 2, 57) :: (lk_X10_init_57 ++ ((2, 1, 55) :: (lk_X10_init_55 ++ ((2, 0, 53) :: (lk_X10_init_53 ++ ((1, 19, 51) :: (lk_X4_init_51 ++ ((1, 18, 49) :: (lk_X4_init_49 ++ ((1, 17, 45) :: (lk_X9_init_45 ++ ((1, 16, 42) :: (lk_X5_init_42 ++ ((1, 15, 39) :: (lk_X8_init_39 ++ ((1, 14, 35) :: (lk_X7_init_35 ++ ((1, 12, 34) :: ((1, 11, 33) :: ((1, 10, 27) :: (lk_X2_init_27 ++ ((1, 9, 21) :: (lk_X2_init_21 ++ ((1, 8, 15) :: (lk_X0_init_15 ++ ((1, 7, 9) :: (lk_X0_init_9 ++ ((1, 6, 7) :: (lk_X3_init_7 ++ ((1, 5, 6) :: ((1, 4, 3) :: (lk_X6_init_3 ++ ((1, 3, 2) :: ([]))))))))))))))))))))))))))))))))))))))))))))))) 1 12 = true from rfl), ?_⟩
  have hB700 : BZ (zI I679 91) := hB682.z
  have hZ701 : KI (zk_X0_init_85 ++ (zk_X2_init_79 ++ (zk_X0_init_73 ++ (zk_X2_init_67 ++ (zk_X0_init_61 ++ (zk_X10_init_59 ++ (zk_X10_init_57 ++ (zk_X10_init_55 ++ (zk_X10_init_53 ++ (zk_X4_init_51 ++ (zk_X4_init_49 ++ (zk_X9_init_45 ++ (zk_X5_init_42 ++ (zk_X8_init_39 ++ (zk_X7_init_35 ++ (zk_X2_init_27 ++ (zk_X2_init_21 ++ (zk_X0_init_15 ++ (zk_X0_init_9 ++ (zk_X3_init_7 ++ (zk_X1_init_6 ++ (zk_X6_init_3 ++ ([]))))))))))))))))))))))) (zI I679 91) := hZ689.z rfl
  have hI702 : FI 1 I (zI I679 91) := hI690.z rfl
  have jk703 : (zJ J680 91) 1 1 = 0 := (congrFun (zJ_ne (by decide)) 1).trans jk692
  have jk704 : (zJ J680 91) 1 2 = 1 := (congrFun (zJ_ne (by decide)) 2).trans jk693
  have hJ705 : FJ 1 J (zJ J680 91) := hJ691.z rfl
  have jz706 : (zJ J680 91) 47 0 = 0 := JZ.z jz695 rfl
  have jf707 : ∀ k, k < 22 → (zJ J680 91) 5 k = rsv.getD k 0 := J5.z jf694 rfl
  have hK708 : RK ((33, 2, 85) :: (lk_X0_init_85 ++ ((34, 1, 79) :: (lk_X2_init_79 ++ ((33, 1, 73) :: (lk_X0_init_73 ++ ((34, 0, 67) :: (lk_X2_init_67 ++ ((33, 0, 61) :: (lk_X0_init_61 ++ ((2, 3, 59) :: (lk_X10_init_59 ++ ((2, 2, 57) :: (lk_X10_init_57 ++ ((2, 1, 55) :: (lk_X10_init_55 ++ ((2, 0, 53) :: (lk_X10_init_53 ++ ((1, 19, 51) :: (lk_X4_init_51 ++ ((1, 18, 49) :: (lk_X4_init_49 ++ ((1, 17, 45) :: (lk_X9_init_45 ++ ((1, 16, 42) :: (lk_X5_init_42 ++ ((1, 15, 39) :: (lk_X8_init_39 ++ ((1, 14, 35) :: (lk_X7_init_35 ++ ((1, 12, 34) :: ((1, 11, 33) :: ((1, 10, 27) :: (lk_X2_init_27 ++ ((1, 9, 21) :: (lk_X2_init_21 ++ ((1, 8, 15) :: (lk_X0_init_15 ++ ((1, 7, 9) :: (lk_X0_init_9 ++ ((1, 6, 7) :: (lk_X3_init_7 ++ ((1, 5, 6) :: ((1, 4, 3) :: (lk_X6_init_3 ++ ((1, 3, 2) :: ([]))))))))))))))))))))))))))))))))))))))))))))))) (zR (uR R681 33 (Int32.toNatClampNeg ((0 + 1) + 1)) 85) 91) := hK698.z rfl
  have hF709 : FR 1 R (zR (uR R681 33 (Int32.toNatClampNeg ((0 + 1) + 1)) 85) 91) := hF699.z rfl
  refine ct_X2_init_91 hB700 (fun I710 J711 R712 hB713 hF714 hK715 hI716 hZ717 hJ718 jz719 => ?_)
  have hZ720 : KI (zk_X2_init_91 ++ (zk_X0_init_85 ++ (zk_X2_init_79 ++ (zk_X0_init_73 ++ (zk_X2_init_67 ++ (zk_X0_init_61 ++ (zk_X10_init_59 ++ (zk_X10_init_57 ++ (zk_X10_init_55 ++ (zk_X10_init_53 ++ (zk_X4_init_51 ++ (zk_X4_init_49 ++ (zk_X9_init_45 ++ (zk_X5_init_42 ++ (zk_X8_init_39 ++ (zk_X7_init_35 ++ (zk_X2_init_27 ++ (zk_X2_init_21 ++ (zk_X0_init_15 ++ (zk_X0_init_9 ++ (zk_X3_init_7 ++ (zk_X1_init_6 ++ (zk_X6_init_3 ++ ([])))))))))))))))))))))))) I710 := hZ717.app (hZ701.fr hI716 rfl)
  have hI721 : FI 1 I I710 := fun o ho => (hI716 o (by omega)).trans (hI702 o ho)
  have hJ722 : FJ 1 J J711 := fun o ho => (hJ718 o (by omega)).trans (hJ705 o ho)
  have jk723 : J711 1 1 = 0 := (congrFun (hJ718 1 (by decide)) 1).trans jk703
  have jk724 : J711 1 2 = 1 := (congrFun (hJ718 1 (by decide)) 2).trans jk704
  have jf725 : ∀ k, k < 22 → J711 5 k = rsv.getD k 0 := fun k hk => (congrFun (hJ718 5 (by decide)) k).trans (jf707 k hk)
  have jz726 : J711 47 0 = 0 := (congrFun (hJ718 47 (by decide)) 0).trans jz706
  have hK727 : RK (lk_X2_init_91 ++ ((33, 2, 85) :: (lk_X0_init_85 ++ ((34, 1, 79) :: (lk_X2_init_79 ++ ((33, 1, 73) :: (lk_X0_init_73 ++ ((34, 0, 67) :: (lk_X2_init_67 ++ ((33, 0, 61) :: (lk_X0_init_61 ++ ((2, 3, 59) :: (lk_X10_init_59 ++ ((2, 2, 57) :: (lk_X10_init_57 ++ ((2, 1, 55) :: (lk_X10_init_55 ++ ((2, 0, 53) :: (lk_X10_init_53 ++ ((1, 19, 51) :: (lk_X4_init_51 ++ ((1, 18, 49) :: (lk_X4_init_49 ++ ((1, 17, 45) :: (lk_X9_init_45 ++ ((1, 16, 42) :: (lk_X5_init_42 ++ ((1, 15, 39) :: (lk_X8_init_39 ++ ((1, 14, 35) :: (lk_X7_init_35 ++ ((1, 12, 34) :: ((1, 11, 33) :: ((1, 10, 27) :: (lk_X2_init_27 ++ ((1, 9, 21) :: (lk_X2_init_21 ++ ((1, 8, 15) :: (lk_X0_init_15 ++ ((1, 7, 9) :: (lk_X0_init_9 ++ ((1, 6, 7) :: (lk_X3_init_7 ++ ((1, 5, 6) :: ((1, 4, 3) :: (lk_X6_init_3 ++ ((1, 3, 2) :: ([])))))))))))))))))))))))))))))))))))))))))))))))) R712 := hK715.app (hK708.fr hF714 rfl)
  have hF728 : FR 1 R R712 := fun o ho => (hF714 o (by omega)).trans (hF709 o ho)
  refine ⟨vp_of rfl (by decide) (by decide), ?_⟩
  have hK729 : RK ((34, 2, 91) :: (lk_X2_init_91 ++ ((33, 2, 85) :: (lk_X0_init_85 ++ ((34, 1, 79) :: (lk_X2_init_79 ++ ((33, 1, 73) :: (lk_X0_init_73 ++ ((34, 0, 67) :: (lk_X2_init_67 ++ ((33, 0, 61) :: (lk_X0_init_61 ++ ((2, 3, 59) :: (lk_X10_init_59 ++ ((2, 2, 57) :: (lk_X10_init_57 ++ ((2, 1, 55) :: (lk_X10_init_55 ++ ((2, 0, 53) :: (lk_X10_init_53 ++ ((1, 19, 51) :: (lk_X4_init_51 ++ ((1, 18, 49) :: (lk_X4_init_49 ++ ((1, 17, 45) :: (lk_X9_init_45 ++ ((1, 16, 42) :: (lk_X5_init_42 ++ ((1, 15, 39) :: (lk_X8_init_39 ++ ((1, 14, 35) :: (lk_X7_init_35 ++ ((1, 12, 34) :: ((1, 11, 33) :: ((1, 10, 27) :: (lk_X2_init_27 ++ ((1, 9, 21) :: (lk_X2_init_21 ++ ((1, 8, 15) :: (lk_X0_init_15 ++ ((1, 7, 9) :: (lk_X0_init_9 ++ ((1, 6, 7) :: (lk_X3_init_7 ++ ((1, 5, 6) :: ((1, 4, 3) :: (lk_X6_init_3 ++ ((1, 3, 2) :: ([]))))))))))))))))))))))))))))))))))))))))))))))))) (uR R712 34 (Int32.toNatClampNeg ((0 + 1) + 1)) 91) := hK727.u rfl
  have hF730 : FR 1 R (uR R712 34 (Int32.toNatClampNeg ((0 + 1) + 1)) 91) := hF728.u rfl
  refine cs_X11_init_1_219_96 hc _ _ _ ?_
  refine ⟨fun _ => ?_, fun c => absurd (by decide) c⟩
  exact ⟨rfl, fun z => absurd z (by decide), hQ _ _ _ hB713 hF730 hK729 hI721 hZ720 hJ722 ⟨jz726, jf725, jk723, jk724⟩⟩
noncomputable def lk_X12_init_97 : List (Nat × Nat × Nat) := (97, 39, 112) :: ((97, 38, 111) :: ((97, 37, 110) :: ((97, 36, 109) :: ((97, 35, 108) :: ((97, 30, 107) :: ((97, 29, 106) :: ((97, 28, 105) :: ((97, 22, 104) :: ((97, 21, 103) :: ((97, 20, 102) :: ((97, 7, 101) :: ((97, 6, 100) :: ((97, 5, 99) :: ((97, 4, 98) :: ([])))))))))))))))
theorem getD_out {α : Type} {l : List α} {n : Nat} {d : α} (h : l.length ≤ n) : l.getD n d = d := by rw [List.getD_eq_getElem?_getD, List.getElem?_eq_none h]; rfl
noncomputable def lkA : List (Nat × Nat × Nat) := lk_X12_init_97 ++ lk_X11_init_1
theorem fl_of {R : Rm} (h : RK lkA R) : Fl R := by
  have h1 : ((List.range 112).all fun i => (List.range 60).all fun k => !(Nat.beq (fkd (shl.getD i (999, 0)).1 k) 4) || lkq lkA (i + 1) k) = true := by decide +kernel
  have h2 : ∀ ci, ci < 1000 → (fkl.getD ci []).length ≤ 60 := by decide +kernel
  have h3 : shl.length = 112 := by decide +kernel
  have h4 : ∀ i, i < 112 → (shl.getD i (999, 0)).1 < 1000 := by decide +kernel
  intro i k hk
  have hi : i < 112 := by
    rcases Nat.lt_or_ge i 112 with q | q
    · exact q
    · rw [getD_out (by omega)] at hk
      have : fkd 999 k = 9 := by
        unfold fkd
        rw [getD_out (l := fkl) (by decide)]; rfl
      rw [show ((999, 0) : Nat × Nat).1 = 999 from rfl, this] at hk
      omega
  have hk6 : k < 60 := by
    rcases Nat.lt_or_ge k 60 with q | q
    · exact q
    · have h5 := h2 _ (h4 i hi)
      unfold fkd at hk
      rw [getD_out (by omega)] at hk
      omega
  have h5 := List.all_eq_true.mp (List.all_eq_true.mp h1 i (List.mem_range.mpr hi)) k (List.mem_range.mpr hk6)
  rw [hk] at h5
  exact h.ne h5
theorem ri_of {R : Rm} (h : RK lkA R) : RI R := by
  have a : ∀ o k v : Nat, lkA.contains (o, k, v) = true → R o k = v := fun o k v q => h.at q
  refine ⟨?_, ?_, ?_, ?_, fun j hj => ?_, fun j hj => ?_, fun j hj => ?_, fun j hj => ?_, Or.inl ⟨a 1 7 9 rfl, a 1 8 15 rfl⟩, Or.inl ⟨a 1 9 21 rfl, a 1 10 27 rfl⟩, fun j hj => ?_, fun j hj => ?_⟩
  · rw [a 1 7 9 rfl]; decide
  · rw [a 1 8 15 rfl]; decide
  · rw [a 1 9 21 rfl]; decide
  · rw [a 1 10 27 rfl]; decide
  · rcases (show j = 0 ∨ j = 1 ∨ j = 2 ∨ j = 3 by omega) with q | q | q | q <;> subst q
    · rw [a 2 0 53 rfl]; decide
    · rw [a 2 1 55 rfl]; decide
    · rw [a 2 2 57 rfl]; decide
    · rw [a 2 3 59 rfl]; decide
  · rcases (show j = 0 ∨ j = 1 ∨ j = 2 by omega) with q | q | q <;> subst q
    · rw [a 33 0 61 rfl]; decide
    · rw [a 33 1 73 rfl]; decide
    · rw [a 33 2 85 rfl]; decide
  · rcases (show j = 0 ∨ j = 1 ∨ j = 2 by omega) with q | q | q <;> subst q
    · rw [a 34 0 67 rfl]; decide
    · rw [a 34 1 79 rfl]; decide
    · rw [a 34 2 91 rfl]; decide
  · rcases (show j = 0 ∨ j = 1 ∨ j = 2 ∨ j = 3 by omega) with q | q | q | q <;> subst q
    · exact a 2 0 53 rfl
    · exact a 2 1 55 rfl
    · exact a 2 2 57 rfl
    · exact a 2 3 59 rfl
  · rcases (show j = 0 ∨ j = 1 ∨ j = 2 by omega) with q | q | q <;> subst q
    · exact a 33 0 61 rfl
    · exact a 33 1 73 rfl
    · exact a 33 2 85 rfl
  · rcases (show j = 0 ∨ j = 1 ∨ j = 2 by omega) with q | q | q <;> subst q
    · exact a 34 0 67 rfl
    · exact a 34 1 79 rfl
    · exact a 34 2 91 rfl
set_option maxHeartbeats 4000000 in
set_option maxRecDepth 100000 in
theorem ct_X12_init_97 {d : Nat} {Q : Qt} {I : Im} {J : Jm} {R : Rm} (hB : BZ I) (hL : RK lk_X11_init_1 R) (hZ0 : KI zk_X11_init_1 I) (hj0 : J 47 0 = 0) (hj5 : ∀ k, k < 22 → J 5 k = rsv.getD k 0) (hjt : J 1 1 = 0 ∧ J 1 2 = 1 ∧ J 97 2 = 0) (hQ : ∀ (I2 : Im) (J2 : Jm) (R2 : Rm), Bd I2 → FR 97 R R2 → RK lk_X12_init_97 R2 → RLk I2 J2 → R3 I2 J2 → (I2 9 4 = 0 ∧ I2 9 2 = 1073741823 ∧ I2 102 0 = 0 ∧ I2 102 3 = 1073741823 ∧ I2 97 23 = 0 ∧ I2 3 3 = 0 ∧ I2 97 10 = -1 ∧ I2 97 11 = -1) → ((I2 9 1 = 4 ∧ I2 9 3 = 0 ∧ (∀ k, I2 10 k = 0) ∧ I2 21 0 = 0 ∧ ∀ k, k < 324 → I2 102 k = emC k) ∧ FQ9 J2) → Q 0 0 I2 J2 R2) : AM (d + 2) 172 97 [.ref 97] I J R Q := by
  refine amc_of (k := kX12_init) rfl rfl rfl rfl rfl rfl (Nat.le_of_ble_eq_true rfl) (fun P hc => ?_)
  refine cs_X12_init_97_0_97 hc _ _ _ ?_
  have jk1 : (uJ J 97 3 1) 1 1 = 0 := (congrFun (uJ_ne (by decide)) 1).trans hjt.1
  have jk2 : (uJ J 97 3 1) 1 2 = 1 := (congrFun (uJ_ne (by decide)) 2).trans hjt.2.1
  have jk3 : (uJ J 97 3 1) 97 2 = 0 := (jd_k (by decide)).trans hjt.2.2
  have jk4 : (uJ J 97 3 1) 97 3 = 1 := jd_eq
  have hJ5 : FJ 97 J (uJ J 97 3 1) := (FJ.refl 97 J).w rfl
  have jz6 : (uJ J 97 3 1) 47 0 = 0 := JZ.w hj0 rfl
  have jf7 : ∀ k, k < 22 → (uJ J 97 3 1) 5 k = rsv.getD k 0 := J5.w hj5 rfl
  refine ⟨rfl, ?_⟩
  have hB8 : BZ (zI I 98) := hB.z
  have hZ9 : KI (zk_X11_init_1) (zI I 98) := hZ0.z rfl
  have hI10 : FI 97 I (zI I 98) := (FI.refl 97 I).z rfl
  have jk11 : (zJ (uJ J 97 3 1) 98) 1 1 = 0 := (congrFun (zJ_ne (by decide)) 1).trans jk1
  have jk12 : (zJ (uJ J 97 3 1) 98) 1 2 = 1 := (congrFun (zJ_ne (by decide)) 2).trans jk2
  have jk13 : (zJ (uJ J 97 3 1) 98) 97 2 = 0 := (congrFun (zJ_ne (by decide)) 2).trans jk3
  have jk14 : (zJ (uJ J 97 3 1) 98) 97 3 = 1 := (congrFun (zJ_ne (by decide)) 3).trans jk4
  have hJ15 : FJ 97 J (zJ (uJ J 97 3 1) 98) := hJ5.z rfl
  have jz16 : (zJ (uJ J 97 3 1) 98) 47 0 = 0 := JZ.z jz6 rfl
  have jf17 : ∀ k, k < 22 → (zJ (uJ J 97 3 1) 98) 5 k = rsv.getD k 0 := J5.z jf7 rfl
  have hK18 : RK ([]) (zR R 98) := (RK.nil (R := R)).z rfl
  have hF19 : FR 97 R (zR R 98) := (FR.refl 97 R).z rfl
  have hK20 : RK ((97, 4, 98) :: ([])) (uR (zR R 98) 97 4 98) := hK18.u rfl
  have hF21 : FR 97 R (uR (zR R 98) 97 4 98) := hF19.u rfl
  refine ⟨rfl, ?_⟩
  have hB22 : BZ (zI (zI I 98) 99) := hB8.z
  have hZ23 : KI (zk_X11_init_1) (zI (zI I 98) 99) := hZ9.z rfl
  have hI24 : FI 97 I (zI (zI I 98) 99) := hI10.z rfl
  have jk25 : (zJ (zJ (uJ J 97 3 1) 98) 99) 1 1 = 0 := (congrFun (zJ_ne (by decide)) 1).trans jk11
  have jk26 : (zJ (zJ (uJ J 97 3 1) 98) 99) 1 2 = 1 := (congrFun (zJ_ne (by decide)) 2).trans jk12
  have jk27 : (zJ (zJ (uJ J 97 3 1) 98) 99) 97 2 = 0 := (congrFun (zJ_ne (by decide)) 2).trans jk13
  have jk28 : (zJ (zJ (uJ J 97 3 1) 98) 99) 97 3 = 1 := (congrFun (zJ_ne (by decide)) 3).trans jk14
  have hJ29 : FJ 97 J (zJ (zJ (uJ J 97 3 1) 98) 99) := hJ15.z rfl
  have jz30 : (zJ (zJ (uJ J 97 3 1) 98) 99) 47 0 = 0 := JZ.z jz16 rfl
  have jf31 : ∀ k, k < 22 → (zJ (zJ (uJ J 97 3 1) 98) 99) 5 k = rsv.getD k 0 := J5.z jf17 rfl
  have hK32 : RK ((97, 4, 98) :: ([])) (zR (uR (zR R 98) 97 4 98) 99) := hK20.z rfl
  have hF33 : FR 97 R (zR (uR (zR R 98) 97 4 98) 99) := hF21.z rfl
  have hK34 : RK ((97, 5, 99) :: ((97, 4, 98) :: ([]))) (uR (zR (uR (zR R 98) 97 4 98) 99) 97 5 99) := hK32.u rfl
  have hF35 : FR 97 R (uR (zR (uR (zR R 98) 97 4 98) 99) 97 5 99) := hF33.u rfl
  refine ⟨rfl, ?_⟩
  have hB36 : BZ (zI (zI (zI I 98) 99) 100) := hB22.z
  have hZ37 : KI (zk_X11_init_1) (zI (zI (zI I 98) 99) 100) := hZ23.z rfl
  have hI38 : FI 97 I (zI (zI (zI I 98) 99) 100) := hI24.z rfl
  have jk39 : (zJ (zJ (zJ (uJ J 97 3 1) 98) 99) 100) 1 1 = 0 := (congrFun (zJ_ne (by decide)) 1).trans jk25
  have jk40 : (zJ (zJ (zJ (uJ J 97 3 1) 98) 99) 100) 1 2 = 1 := (congrFun (zJ_ne (by decide)) 2).trans jk26
  have jk41 : (zJ (zJ (zJ (uJ J 97 3 1) 98) 99) 100) 97 2 = 0 := (congrFun (zJ_ne (by decide)) 2).trans jk27
  have jk42 : (zJ (zJ (zJ (uJ J 97 3 1) 98) 99) 100) 97 3 = 1 := (congrFun (zJ_ne (by decide)) 3).trans jk28
  have hJ43 : FJ 97 J (zJ (zJ (zJ (uJ J 97 3 1) 98) 99) 100) := hJ29.z rfl
  have jz44 : (zJ (zJ (zJ (uJ J 97 3 1) 98) 99) 100) 47 0 = 0 := JZ.z jz30 rfl
  have jf45 : ∀ k, k < 22 → (zJ (zJ (zJ (uJ J 97 3 1) 98) 99) 100) 5 k = rsv.getD k 0 := J5.z jf31 rfl
  have hK46 : RK ((97, 5, 99) :: ((97, 4, 98) :: ([]))) (zR (uR (zR (uR (zR R 98) 97 4 98) 99) 97 5 99) 100) := hK34.z rfl
  have hF47 : FR 97 R (zR (uR (zR (uR (zR R 98) 97 4 98) 99) 97 5 99) 100) := hF35.z rfl
  have hK48 : RK ((97, 6, 100) :: ((97, 5, 99) :: ((97, 4, 98) :: ([])))) (uR (zR (uR (zR (uR (zR R 98) 97 4 98) 99) 97 5 99) 100) 97 6 100) := hK46.u rfl
  have hF49 : FR 97 R (uR (zR (uR (zR (uR (zR R 98) 97 4 98) 99) 97 5 99) 100) 97 6 100) := hF47.u rfl
  refine ⟨rfl, ?_⟩
  have hB50 : BZ (zI (zI (zI (zI I 98) 99) 100) 101) := hB36.z
  have hZ51 : KI (zk_X11_init_1) (zI (zI (zI (zI I 98) 99) 100) 101) := hZ37.z rfl
  have hI52 : FI 97 I (zI (zI (zI (zI I 98) 99) 100) 101) := hI38.z rfl
  have jk53 : (zJ (zJ (zJ (zJ (uJ J 97 3 1) 98) 99) 100) 101) 1 1 = 0 := (congrFun (zJ_ne (by decide)) 1).trans jk39
  have jk54 : (zJ (zJ (zJ (zJ (uJ J 97 3 1) 98) 99) 100) 101) 1 2 = 1 := (congrFun (zJ_ne (by decide)) 2).trans jk40
  have jk55 : (zJ (zJ (zJ (zJ (uJ J 97 3 1) 98) 99) 100) 101) 97 2 = 0 := (congrFun (zJ_ne (by decide)) 2).trans jk41
  have jk56 : (zJ (zJ (zJ (zJ (uJ J 97 3 1) 98) 99) 100) 101) 97 3 = 1 := (congrFun (zJ_ne (by decide)) 3).trans jk42
  have hJ57 : FJ 97 J (zJ (zJ (zJ (zJ (uJ J 97 3 1) 98) 99) 100) 101) := hJ43.z rfl
  have jz58 : (zJ (zJ (zJ (zJ (uJ J 97 3 1) 98) 99) 100) 101) 47 0 = 0 := JZ.z jz44 rfl
  have jf59 : ∀ k, k < 22 → (zJ (zJ (zJ (zJ (uJ J 97 3 1) 98) 99) 100) 101) 5 k = rsv.getD k 0 := J5.z jf45 rfl
  have hK60 : RK ((97, 6, 100) :: ((97, 5, 99) :: ((97, 4, 98) :: ([])))) (zR (uR (zR (uR (zR (uR (zR R 98) 97 4 98) 99) 97 5 99) 100) 97 6 100) 101) := hK48.z rfl
  have hF61 : FR 97 R (zR (uR (zR (uR (zR (uR (zR R 98) 97 4 98) 99) 97 5 99) 100) 97 6 100) 101) := hF49.z rfl
  have hK62 : RK ((97, 7, 101) :: ((97, 6, 100) :: ((97, 5, 99) :: ((97, 4, 98) :: ([]))))) (uR (zR (uR (zR (uR (zR (uR (zR R 98) 97 4 98) 99) 97 5 99) 100) 97 6 100) 101) 97 7 101) := hK60.u rfl
  have hF63 : FR 97 R (uR (zR (uR (zR (uR (zR (uR (zR R 98) 97 4 98) 99) 97 5 99) 100) 97 6 100) 101) 97 7 101) := hF61.u rfl
  have hB64 : BZ (uI (zI (zI (zI (zI I 98) 99) 100) 101) 97 10 (-1)) := hB50.kw rfl rfl rfl
  have hZ65 : KI ((97, 10, -1) :: (zk_X11_init_1)) (uI (zI (zI (zI (zI I 98) 99) 100) 101) 97 10 (-1)) := hZ51.u rfl
  have hI66 : FI 97 I (uI (zI (zI (zI (zI I 98) 99) 100) 101) 97 10 (-1)) := hI52.w rfl
  have hB67 : BZ (uI (uI (zI (zI (zI (zI I 98) 99) 100) 101) 97 10 (-1)) 97 11 (-1)) := hB64.kw rfl rfl rfl
  have hZ68 : KI ((97, 11, -1) :: ((97, 10, -1) :: (zk_X11_init_1))) (uI (uI (zI (zI (zI (zI I 98) 99) 100) 101) 97 10 (-1)) 97 11 (-1)) := hZ65.u rfl
  have hI69 : FI 97 I (uI (uI (zI (zI (zI (zI I 98) 99) 100) 101) 97 10 (-1)) 97 11 (-1)) := hI66.w rfl
  refine ⟨rfl, ?_⟩
  have hB70 : BZ (zI (uI (uI (zI (zI (zI (zI I 98) 99) 100) 101) 97 10 (-1)) 97 11 (-1)) 102) := hB67.z
  have hZ71 : KI ((97, 11, -1) :: ((97, 10, -1) :: (zk_X11_init_1))) (zI (uI (uI (zI (zI (zI (zI I 98) 99) 100) 101) 97 10 (-1)) 97 11 (-1)) 102) := hZ68.z rfl
  have hI72 : FI 97 I (zI (uI (uI (zI (zI (zI (zI I 98) 99) 100) 101) 97 10 (-1)) 97 11 (-1)) 102) := hI69.z rfl
  have jk73 : (zJ (zJ (zJ (zJ (zJ (uJ J 97 3 1) 98) 99) 100) 101) 102) 1 1 = 0 := (congrFun (zJ_ne (by decide)) 1).trans jk53
  have jk74 : (zJ (zJ (zJ (zJ (zJ (uJ J 97 3 1) 98) 99) 100) 101) 102) 1 2 = 1 := (congrFun (zJ_ne (by decide)) 2).trans jk54
  have jk75 : (zJ (zJ (zJ (zJ (zJ (uJ J 97 3 1) 98) 99) 100) 101) 102) 97 2 = 0 := (congrFun (zJ_ne (by decide)) 2).trans jk55
  have jk76 : (zJ (zJ (zJ (zJ (zJ (uJ J 97 3 1) 98) 99) 100) 101) 102) 97 3 = 1 := (congrFun (zJ_ne (by decide)) 3).trans jk56
  have hJ77 : FJ 97 J (zJ (zJ (zJ (zJ (zJ (uJ J 97 3 1) 98) 99) 100) 101) 102) := hJ57.z rfl
  have jz78 : (zJ (zJ (zJ (zJ (zJ (uJ J 97 3 1) 98) 99) 100) 101) 102) 47 0 = 0 := JZ.z jz58 rfl
  have jf79 : ∀ k, k < 22 → (zJ (zJ (zJ (zJ (zJ (uJ J 97 3 1) 98) 99) 100) 101) 102) 5 k = rsv.getD k 0 := J5.z jf59 rfl
  have hK80 : RK ((97, 7, 101) :: ((97, 6, 100) :: ((97, 5, 99) :: ((97, 4, 98) :: ([]))))) (zR (uR (zR (uR (zR (uR (zR (uR (zR R 98) 97 4 98) 99) 97 5 99) 100) 97 6 100) 101) 97 7 101) 102) := hK62.z rfl
  have hF81 : FR 97 R (zR (uR (zR (uR (zR (uR (zR (uR (zR R 98) 97 4 98) 99) 97 5 99) 100) 97 6 100) 101) 97 7 101) 102) := hF63.z rfl
  have hK82 : RK ((97, 20, 102) :: ((97, 7, 101) :: ((97, 6, 100) :: ((97, 5, 99) :: ((97, 4, 98) :: ([])))))) (uR (zR (uR (zR (uR (zR (uR (zR (uR (zR R 98) 97 4 98) 99) 97 5 99) 100) 97 6 100) 101) 97 7 101) 102) 97 20 102) := hK80.u rfl
  have hF83 : FR 97 R (uR (zR (uR (zR (uR (zR (uR (zR (uR (zR R 98) 97 4 98) 99) 97 5 99) 100) 97 6 100) 101) 97 7 101) 102) 97 20 102) := hF81.u rfl
  refine ⟨rfl, ?_⟩
  have hB84 : BZ (zI (zI (uI (uI (zI (zI (zI (zI I 98) 99) 100) 101) 97 10 (-1)) 97 11 (-1)) 102) 103) := hB70.z
  have hZ85 : KI ((97, 11, -1) :: ((97, 10, -1) :: (zk_X11_init_1))) (zI (zI (uI (uI (zI (zI (zI (zI I 98) 99) 100) 101) 97 10 (-1)) 97 11 (-1)) 102) 103) := hZ71.z rfl
  have hI86 : FI 97 I (zI (zI (uI (uI (zI (zI (zI (zI I 98) 99) 100) 101) 97 10 (-1)) 97 11 (-1)) 102) 103) := hI72.z rfl
  have jk87 : (zJ (zJ (zJ (zJ (zJ (zJ (uJ J 97 3 1) 98) 99) 100) 101) 102) 103) 1 1 = 0 := (congrFun (zJ_ne (by decide)) 1).trans jk73
  have jk88 : (zJ (zJ (zJ (zJ (zJ (zJ (uJ J 97 3 1) 98) 99) 100) 101) 102) 103) 1 2 = 1 := (congrFun (zJ_ne (by decide)) 2).trans jk74
  have jk89 : (zJ (zJ (zJ (zJ (zJ (zJ (uJ J 97 3 1) 98) 99) 100) 101) 102) 103) 97 2 = 0 := (congrFun (zJ_ne (by decide)) 2).trans jk75
  have jk90 : (zJ (zJ (zJ (zJ (zJ (zJ (uJ J 97 3 1) 98) 99) 100) 101) 102) 103) 97 3 = 1 := (congrFun (zJ_ne (by decide)) 3).trans jk76
  have hJ91 : FJ 97 J (zJ (zJ (zJ (zJ (zJ (zJ (uJ J 97 3 1) 98) 99) 100) 101) 102) 103) := hJ77.z rfl
  have jz92 : (zJ (zJ (zJ (zJ (zJ (zJ (uJ J 97 3 1) 98) 99) 100) 101) 102) 103) 47 0 = 0 := JZ.z jz78 rfl
  have jf93 : ∀ k, k < 22 → (zJ (zJ (zJ (zJ (zJ (zJ (uJ J 97 3 1) 98) 99) 100) 101) 102) 103) 5 k = rsv.getD k 0 := J5.z jf79 rfl
  have hK94 : RK ((97, 20, 102) :: ((97, 7, 101) :: ((97, 6, 100) :: ((97, 5, 99) :: ((97, 4, 98) :: ([])))))) (zR (uR (zR (uR (zR (uR (zR (uR (zR (uR (zR R 98) 97 4 98) 99) 97 5 99) 100) 97 6 100) 101) 97 7 101) 102) 97 20 102) 103) := hK82.z rfl
  have hF95 : FR 97 R (zR (uR (zR (uR (zR (uR (zR (uR (zR (uR (zR R 98) 97 4 98) 99) 97 5 99) 100) 97 6 100) 101) 97 7 101) 102) 97 20 102) 103) := hF83.z rfl
  have hK96 : RK ((97, 21, 103) :: ((97, 20, 102) :: ((97, 7, 101) :: ((97, 6, 100) :: ((97, 5, 99) :: ((97, 4, 98) :: ([]))))))) (uR (zR (uR (zR (uR (zR (uR (zR (uR (zR (uR (zR R 98) 97 4 98) 99) 97 5 99) 100) 97 6 100) 101) 97 7 101) 102) 97 20 102) 103) 97 21 103) := hK94.u rfl
  have hF97 : FR 97 R (uR (zR (uR (zR (uR (zR (uR (zR (uR (zR (uR (zR R 98) 97 4 98) 99) 97 5 99) 100) 97 6 100) 101) 97 7 101) 102) 97 20 102) 103) 97 21 103) := hF95.u rfl
  refine ⟨rfl, ?_⟩
  have hB98 : BZ (zI (zI (zI (uI (uI (zI (zI (zI (zI I 98) 99) 100) 101) 97 10 (-1)) 97 11 (-1)) 102) 103) 104) := hB84.z
  have hZ99 : KI ((97, 11, -1) :: ((97, 10, -1) :: (zk_X11_init_1))) (zI (zI (zI (uI (uI (zI (zI (zI (zI I 98) 99) 100) 101) 97 10 (-1)) 97 11 (-1)) 102) 103) 104) := hZ85.z rfl
  have hI100 : FI 97 I (zI (zI (zI (uI (uI (zI (zI (zI (zI I 98) 99) 100) 101) 97 10 (-1)) 97 11 (-1)) 102) 103) 104) := hI86.z rfl
  have jk101 : (zJ (zJ (zJ (zJ (zJ (zJ (zJ (uJ J 97 3 1) 98) 99) 100) 101) 102) 103) 104) 1 1 = 0 := (congrFun (zJ_ne (by decide)) 1).trans jk87
  have jk102 : (zJ (zJ (zJ (zJ (zJ (zJ (zJ (uJ J 97 3 1) 98) 99) 100) 101) 102) 103) 104) 1 2 = 1 := (congrFun (zJ_ne (by decide)) 2).trans jk88
  have jk103 : (zJ (zJ (zJ (zJ (zJ (zJ (zJ (uJ J 97 3 1) 98) 99) 100) 101) 102) 103) 104) 97 2 = 0 := (congrFun (zJ_ne (by decide)) 2).trans jk89
  have jk104 : (zJ (zJ (zJ (zJ (zJ (zJ (zJ (uJ J 97 3 1) 98) 99) 100) 101) 102) 103) 104) 97 3 = 1 := (congrFun (zJ_ne (by decide)) 3).trans jk90
  have hJ105 : FJ 97 J (zJ (zJ (zJ (zJ (zJ (zJ (zJ (uJ J 97 3 1) 98) 99) 100) 101) 102) 103) 104) := hJ91.z rfl
  have jz106 : (zJ (zJ (zJ (zJ (zJ (zJ (zJ (uJ J 97 3 1) 98) 99) 100) 101) 102) 103) 104) 47 0 = 0 := JZ.z jz92 rfl
  have jf107 : ∀ k, k < 22 → (zJ (zJ (zJ (zJ (zJ (zJ (zJ (uJ J 97 3 1) 98) 99) 100) 101) 102) 103) 104) 5 k = rsv.getD k 0 := J5.z jf93 rfl
  have hK108 : RK ((97, 21, 103) :: ((97, 20, 102) :: ((97, 7, 101) :: ((97, 6, 100) :: ((97, 5, 99) :: ((97, 4, 98) :: ([]))))))) (zR (uR (zR (uR (zR (uR (zR (uR (zR (uR (zR (uR (zR R 98) 97 4 98) 99) 97 5 99) 100) 97 6 100) 101) 97 7 101) 102) 97 20 102) 103) 97 21 103) 104) := hK96.z rfl
  have hF109 : FR 97 R (zR (uR (zR (uR (zR (uR (zR (uR (zR (uR (zR (uR (zR R 98) 97 4 98) 99) 97 5 99) 100) 97 6 100) 101) 97 7 101) 102) 97 20 102) 103) 97 21 103) 104) := hF97.z rfl
  have hK110 : RK ((97, 22, 104) :: ((97, 21, 103) :: ((97, 20, 102) :: ((97, 7, 101) :: ((97, 6, 100) :: ((97, 5, 99) :: ((97, 4, 98) :: ([])))))))) (uR (zR (uR (zR (uR (zR (uR (zR (uR (zR (uR (zR (uR (zR R 98) 97 4 98) 99) 97 5 99) 100) 97 6 100) 101) 97 7 101) 102) 97 20 102) 103) 97 21 103) 104) 97 22 104) := hK108.u rfl
  have hF111 : FR 97 R (uR (zR (uR (zR (uR (zR (uR (zR (uR (zR (uR (zR (uR (zR R 98) 97 4 98) 99) 97 5 99) 100) 97 6 100) 101) 97 7 101) 102) 97 20 102) 103) 97 21 103) 104) 97 22 104) := hF109.u rfl
  refine ⟨rfl, ?_⟩
  have hB112 : BZ (zI (zI (zI (zI (uI (uI (zI (zI (zI (zI I 98) 99) 100) 101) 97 10 (-1)) 97 11 (-1)) 102) 103) 104) 105) := hB98.z
  have hZ113 : KI ((97, 11, -1) :: ((97, 10, -1) :: (zk_X11_init_1))) (zI (zI (zI (zI (uI (uI (zI (zI (zI (zI I 98) 99) 100) 101) 97 10 (-1)) 97 11 (-1)) 102) 103) 104) 105) := hZ99.z rfl
  have hI114 : FI 97 I (zI (zI (zI (zI (uI (uI (zI (zI (zI (zI I 98) 99) 100) 101) 97 10 (-1)) 97 11 (-1)) 102) 103) 104) 105) := hI100.z rfl
  have jk115 : (zJ (zJ (zJ (zJ (zJ (zJ (zJ (zJ (uJ J 97 3 1) 98) 99) 100) 101) 102) 103) 104) 105) 1 1 = 0 := (congrFun (zJ_ne (by decide)) 1).trans jk101
  have jk116 : (zJ (zJ (zJ (zJ (zJ (zJ (zJ (zJ (uJ J 97 3 1) 98) 99) 100) 101) 102) 103) 104) 105) 1 2 = 1 := (congrFun (zJ_ne (by decide)) 2).trans jk102
  have jk117 : (zJ (zJ (zJ (zJ (zJ (zJ (zJ (zJ (uJ J 97 3 1) 98) 99) 100) 101) 102) 103) 104) 105) 97 2 = 0 := (congrFun (zJ_ne (by decide)) 2).trans jk103
  have jk118 : (zJ (zJ (zJ (zJ (zJ (zJ (zJ (zJ (uJ J 97 3 1) 98) 99) 100) 101) 102) 103) 104) 105) 97 3 = 1 := (congrFun (zJ_ne (by decide)) 3).trans jk104
  have hJ119 : FJ 97 J (zJ (zJ (zJ (zJ (zJ (zJ (zJ (zJ (uJ J 97 3 1) 98) 99) 100) 101) 102) 103) 104) 105) := hJ105.z rfl
  have jz120 : (zJ (zJ (zJ (zJ (zJ (zJ (zJ (zJ (uJ J 97 3 1) 98) 99) 100) 101) 102) 103) 104) 105) 47 0 = 0 := JZ.z jz106 rfl
  have jf121 : ∀ k, k < 22 → (zJ (zJ (zJ (zJ (zJ (zJ (zJ (zJ (uJ J 97 3 1) 98) 99) 100) 101) 102) 103) 104) 105) 5 k = rsv.getD k 0 := J5.z jf107 rfl
  have hK122 : RK ((97, 22, 104) :: ((97, 21, 103) :: ((97, 20, 102) :: ((97, 7, 101) :: ((97, 6, 100) :: ((97, 5, 99) :: ((97, 4, 98) :: ([])))))))) (zR (uR (zR (uR (zR (uR (zR (uR (zR (uR (zR (uR (zR (uR (zR R 98) 97 4 98) 99) 97 5 99) 100) 97 6 100) 101) 97 7 101) 102) 97 20 102) 103) 97 21 103) 104) 97 22 104) 105) := hK110.z rfl
  have hF123 : FR 97 R (zR (uR (zR (uR (zR (uR (zR (uR (zR (uR (zR (uR (zR (uR (zR R 98) 97 4 98) 99) 97 5 99) 100) 97 6 100) 101) 97 7 101) 102) 97 20 102) 103) 97 21 103) 104) 97 22 104) 105) := hF111.z rfl
  have hK124 : RK ((97, 28, 105) :: ((97, 22, 104) :: ((97, 21, 103) :: ((97, 20, 102) :: ((97, 7, 101) :: ((97, 6, 100) :: ((97, 5, 99) :: ((97, 4, 98) :: ([]))))))))) (uR (zR (uR (zR (uR (zR (uR (zR (uR (zR (uR (zR (uR (zR (uR (zR R 98) 97 4 98) 99) 97 5 99) 100) 97 6 100) 101) 97 7 101) 102) 97 20 102) 103) 97 21 103) 104) 97 22 104) 105) 97 28 105) := hK122.u rfl
  have hF125 : FR 97 R (uR (zR (uR (zR (uR (zR (uR (zR (uR (zR (uR (zR (uR (zR (uR (zR R 98) 97 4 98) 99) 97 5 99) 100) 97 6 100) 101) 97 7 101) 102) 97 20 102) 103) 97 21 103) 104) 97 22 104) 105) 97 28 105) := hF123.u rfl
  refine ⟨rfl, ?_⟩
  have hB126 : BZ (zI (zI (zI (zI (zI (uI (uI (zI (zI (zI (zI I 98) 99) 100) 101) 97 10 (-1)) 97 11 (-1)) 102) 103) 104) 105) 106) := hB112.z
  have hZ127 : KI ((97, 11, -1) :: ((97, 10, -1) :: (zk_X11_init_1))) (zI (zI (zI (zI (zI (uI (uI (zI (zI (zI (zI I 98) 99) 100) 101) 97 10 (-1)) 97 11 (-1)) 102) 103) 104) 105) 106) := hZ113.z rfl
  have hI128 : FI 97 I (zI (zI (zI (zI (zI (uI (uI (zI (zI (zI (zI I 98) 99) 100) 101) 97 10 (-1)) 97 11 (-1)) 102) 103) 104) 105) 106) := hI114.z rfl
  have jk129 : (zJ (zJ (zJ (zJ (zJ (zJ (zJ (zJ (zJ (uJ J 97 3 1) 98) 99) 100) 101) 102) 103) 104) 105) 106) 1 1 = 0 := (congrFun (zJ_ne (by decide)) 1).trans jk115
  have jk130 : (zJ (zJ (zJ (zJ (zJ (zJ (zJ (zJ (zJ (uJ J 97 3 1) 98) 99) 100) 101) 102) 103) 104) 105) 106) 1 2 = 1 := (congrFun (zJ_ne (by decide)) 2).trans jk116
  have jk131 : (zJ (zJ (zJ (zJ (zJ (zJ (zJ (zJ (zJ (uJ J 97 3 1) 98) 99) 100) 101) 102) 103) 104) 105) 106) 97 2 = 0 := (congrFun (zJ_ne (by decide)) 2).trans jk117
  have jk132 : (zJ (zJ (zJ (zJ (zJ (zJ (zJ (zJ (zJ (uJ J 97 3 1) 98) 99) 100) 101) 102) 103) 104) 105) 106) 97 3 = 1 := (congrFun (zJ_ne (by decide)) 3).trans jk118
  have hJ133 : FJ 97 J (zJ (zJ (zJ (zJ (zJ (zJ (zJ (zJ (zJ (uJ J 97 3 1) 98) 99) 100) 101) 102) 103) 104) 105) 106) := hJ119.z rfl
  have jz134 : (zJ (zJ (zJ (zJ (zJ (zJ (zJ (zJ (zJ (uJ J 97 3 1) 98) 99) 100) 101) 102) 103) 104) 105) 106) 47 0 = 0 := JZ.z jz120 rfl
  have jf135 : ∀ k, k < 22 → (zJ (zJ (zJ (zJ (zJ (zJ (zJ (zJ (zJ (uJ J 97 3 1) 98) 99) 100) 101) 102) 103) 104) 105) 106) 5 k = rsv.getD k 0 := J5.z jf121 rfl
  have hK136 : RK ((97, 28, 105) :: ((97, 22, 104) :: ((97, 21, 103) :: ((97, 20, 102) :: ((97, 7, 101) :: ((97, 6, 100) :: ((97, 5, 99) :: ((97, 4, 98) :: ([]))))))))) (zR (uR (zR (uR (zR (uR (zR (uR (zR (uR (zR (uR (zR (uR (zR (uR (zR R 98) 97 4 98) 99) 97 5 99) 100) 97 6 100) 101) 97 7 101) 102) 97 20 102) 103) 97 21 103) 104) 97 22 104) 105) 97 28 105) 106) := hK124.z rfl
  have hF137 : FR 97 R (zR (uR (zR (uR (zR (uR (zR (uR (zR (uR (zR (uR (zR (uR (zR (uR (zR R 98) 97 4 98) 99) 97 5 99) 100) 97 6 100) 101) 97 7 101) 102) 97 20 102) 103) 97 21 103) 104) 97 22 104) 105) 97 28 105) 106) := hF125.z rfl
  have hK138 : RK ((97, 29, 106) :: ((97, 28, 105) :: ((97, 22, 104) :: ((97, 21, 103) :: ((97, 20, 102) :: ((97, 7, 101) :: ((97, 6, 100) :: ((97, 5, 99) :: ((97, 4, 98) :: ([])))))))))) (uR (zR (uR (zR (uR (zR (uR (zR (uR (zR (uR (zR (uR (zR (uR (zR (uR (zR R 98) 97 4 98) 99) 97 5 99) 100) 97 6 100) 101) 97 7 101) 102) 97 20 102) 103) 97 21 103) 104) 97 22 104) 105) 97 28 105) 106) 97 29 106) := hK136.u rfl
  have hF139 : FR 97 R (uR (zR (uR (zR (uR (zR (uR (zR (uR (zR (uR (zR (uR (zR (uR (zR (uR (zR R 98) 97 4 98) 99) 97 5 99) 100) 97 6 100) 101) 97 7 101) 102) 97 20 102) 103) 97 21 103) 104) 97 22 104) 105) 97 28 105) 106) 97 29 106) := hF137.u rfl
  refine ⟨rfl, ?_⟩
  have hB140 : BZ (zI (zI (zI (zI (zI (zI (uI (uI (zI (zI (zI (zI I 98) 99) 100) 101) 97 10 (-1)) 97 11 (-1)) 102) 103) 104) 105) 106) 107) := hB126.z
  have hZ141 : KI ((97, 11, -1) :: ((97, 10, -1) :: (zk_X11_init_1))) (zI (zI (zI (zI (zI (zI (uI (uI (zI (zI (zI (zI I 98) 99) 100) 101) 97 10 (-1)) 97 11 (-1)) 102) 103) 104) 105) 106) 107) := hZ127.z rfl
  have hI142 : FI 97 I (zI (zI (zI (zI (zI (zI (uI (uI (zI (zI (zI (zI I 98) 99) 100) 101) 97 10 (-1)) 97 11 (-1)) 102) 103) 104) 105) 106) 107) := hI128.z rfl
  have jk143 : (zJ (zJ (zJ (zJ (zJ (zJ (zJ (zJ (zJ (zJ (uJ J 97 3 1) 98) 99) 100) 101) 102) 103) 104) 105) 106) 107) 1 1 = 0 := (congrFun (zJ_ne (by decide)) 1).trans jk129
  have jk144 : (zJ (zJ (zJ (zJ (zJ (zJ (zJ (zJ (zJ (zJ (uJ J 97 3 1) 98) 99) 100) 101) 102) 103) 104) 105) 106) 107) 1 2 = 1 := (congrFun (zJ_ne (by decide)) 2).trans jk130
  have jk145 : (zJ (zJ (zJ (zJ (zJ (zJ (zJ (zJ (zJ (zJ (uJ J 97 3 1) 98) 99) 100) 101) 102) 103) 104) 105) 106) 107) 97 2 = 0 := (congrFun (zJ_ne (by decide)) 2).trans jk131
  have jk146 : (zJ (zJ (zJ (zJ (zJ (zJ (zJ (zJ (zJ (zJ (uJ J 97 3 1) 98) 99) 100) 101) 102) 103) 104) 105) 106) 107) 97 3 = 1 := (congrFun (zJ_ne (by decide)) 3).trans jk132
  have hJ147 : FJ 97 J (zJ (zJ (zJ (zJ (zJ (zJ (zJ (zJ (zJ (zJ (uJ J 97 3 1) 98) 99) 100) 101) 102) 103) 104) 105) 106) 107) := hJ133.z rfl
  have jz148 : (zJ (zJ (zJ (zJ (zJ (zJ (zJ (zJ (zJ (zJ (uJ J 97 3 1) 98) 99) 100) 101) 102) 103) 104) 105) 106) 107) 47 0 = 0 := JZ.z jz134 rfl
  have jf149 : ∀ k, k < 22 → (zJ (zJ (zJ (zJ (zJ (zJ (zJ (zJ (zJ (zJ (uJ J 97 3 1) 98) 99) 100) 101) 102) 103) 104) 105) 106) 107) 5 k = rsv.getD k 0 := J5.z jf135 rfl
  have hK150 : RK ((97, 29, 106) :: ((97, 28, 105) :: ((97, 22, 104) :: ((97, 21, 103) :: ((97, 20, 102) :: ((97, 7, 101) :: ((97, 6, 100) :: ((97, 5, 99) :: ((97, 4, 98) :: ([])))))))))) (zR (uR (zR (uR (zR (uR (zR (uR (zR (uR (zR (uR (zR (uR (zR (uR (zR (uR (zR R 98) 97 4 98) 99) 97 5 99) 100) 97 6 100) 101) 97 7 101) 102) 97 20 102) 103) 97 21 103) 104) 97 22 104) 105) 97 28 105) 106) 97 29 106) 107) := hK138.z rfl
  have hF151 : FR 97 R (zR (uR (zR (uR (zR (uR (zR (uR (zR (uR (zR (uR (zR (uR (zR (uR (zR (uR (zR R 98) 97 4 98) 99) 97 5 99) 100) 97 6 100) 101) 97 7 101) 102) 97 20 102) 103) 97 21 103) 104) 97 22 104) 105) 97 28 105) 106) 97 29 106) 107) := hF139.z rfl
  have hK152 : RK ((97, 30, 107) :: ((97, 29, 106) :: ((97, 28, 105) :: ((97, 22, 104) :: ((97, 21, 103) :: ((97, 20, 102) :: ((97, 7, 101) :: ((97, 6, 100) :: ((97, 5, 99) :: ((97, 4, 98) :: ([]))))))))))) (uR (zR (uR (zR (uR (zR (uR (zR (uR (zR (uR (zR (uR (zR (uR (zR (uR (zR (uR (zR R 98) 97 4 98) 99) 97 5 99) 100) 97 6 100) 101) 97 7 101) 102) 97 20 102) 103) 97 21 103) 104) 97 22 104) 105) 97 28 105) 106) 97 29 106) 107) 97 30 107) := hK150.u rfl
  have hF153 : FR 97 R (uR (zR (uR (zR (uR (zR (uR (zR (uR (zR (uR (zR (uR (zR (uR (zR (uR (zR (uR (zR R 98) 97 4 98) 99) 97 5 99) 100) 97 6 100) 101) 97 7 101) 102) 97 20 102) 103) 97 21 103) 104) 97 22 104) 105) 97 28 105) 106) 97 29 106) 107) 97 30 107) := hF151.u rfl
  refine ⟨rfl, ?_⟩
  have hB154 : BZ (zI (zI (zI (zI (zI (zI (zI (uI (uI (zI (zI (zI (zI I 98) 99) 100) 101) 97 10 (-1)) 97 11 (-1)) 102) 103) 104) 105) 106) 107) 108) := hB140.z
  have hZ155 : KI ((97, 11, -1) :: ((97, 10, -1) :: (zk_X11_init_1))) (zI (zI (zI (zI (zI (zI (zI (uI (uI (zI (zI (zI (zI I 98) 99) 100) 101) 97 10 (-1)) 97 11 (-1)) 102) 103) 104) 105) 106) 107) 108) := hZ141.z rfl
  have hI156 : FI 97 I (zI (zI (zI (zI (zI (zI (zI (uI (uI (zI (zI (zI (zI I 98) 99) 100) 101) 97 10 (-1)) 97 11 (-1)) 102) 103) 104) 105) 106) 107) 108) := hI142.z rfl
  have jk157 : (zJ (zJ (zJ (zJ (zJ (zJ (zJ (zJ (zJ (zJ (zJ (uJ J 97 3 1) 98) 99) 100) 101) 102) 103) 104) 105) 106) 107) 108) 1 1 = 0 := (congrFun (zJ_ne (by decide)) 1).trans jk143
  have jk158 : (zJ (zJ (zJ (zJ (zJ (zJ (zJ (zJ (zJ (zJ (zJ (uJ J 97 3 1) 98) 99) 100) 101) 102) 103) 104) 105) 106) 107) 108) 1 2 = 1 := (congrFun (zJ_ne (by decide)) 2).trans jk144
  have jk159 : (zJ (zJ (zJ (zJ (zJ (zJ (zJ (zJ (zJ (zJ (zJ (uJ J 97 3 1) 98) 99) 100) 101) 102) 103) 104) 105) 106) 107) 108) 97 2 = 0 := (congrFun (zJ_ne (by decide)) 2).trans jk145
  have jk160 : (zJ (zJ (zJ (zJ (zJ (zJ (zJ (zJ (zJ (zJ (zJ (uJ J 97 3 1) 98) 99) 100) 101) 102) 103) 104) 105) 106) 107) 108) 97 3 = 1 := (congrFun (zJ_ne (by decide)) 3).trans jk146
  have hJ161 : FJ 97 J (zJ (zJ (zJ (zJ (zJ (zJ (zJ (zJ (zJ (zJ (zJ (uJ J 97 3 1) 98) 99) 100) 101) 102) 103) 104) 105) 106) 107) 108) := hJ147.z rfl
  have jz162 : (zJ (zJ (zJ (zJ (zJ (zJ (zJ (zJ (zJ (zJ (zJ (uJ J 97 3 1) 98) 99) 100) 101) 102) 103) 104) 105) 106) 107) 108) 47 0 = 0 := JZ.z jz148 rfl
  have jf163 : ∀ k, k < 22 → (zJ (zJ (zJ (zJ (zJ (zJ (zJ (zJ (zJ (zJ (zJ (uJ J 97 3 1) 98) 99) 100) 101) 102) 103) 104) 105) 106) 107) 108) 5 k = rsv.getD k 0 := J5.z jf149 rfl
  have hK164 : RK ((97, 30, 107) :: ((97, 29, 106) :: ((97, 28, 105) :: ((97, 22, 104) :: ((97, 21, 103) :: ((97, 20, 102) :: ((97, 7, 101) :: ((97, 6, 100) :: ((97, 5, 99) :: ((97, 4, 98) :: ([]))))))))))) (zR (uR (zR (uR (zR (uR (zR (uR (zR (uR (zR (uR (zR (uR (zR (uR (zR (uR (zR (uR (zR R 98) 97 4 98) 99) 97 5 99) 100) 97 6 100) 101) 97 7 101) 102) 97 20 102) 103) 97 21 103) 104) 97 22 104) 105) 97 28 105) 106) 97 29 106) 107) 97 30 107) 108) := hK152.z rfl
  have hF165 : FR 97 R (zR (uR (zR (uR (zR (uR (zR (uR (zR (uR (zR (uR (zR (uR (zR (uR (zR (uR (zR (uR (zR R 98) 97 4 98) 99) 97 5 99) 100) 97 6 100) 101) 97 7 101) 102) 97 20 102) 103) 97 21 103) 104) 97 22 104) 105) 97 28 105) 106) 97 29 106) 107) 97 30 107) 108) := hF153.z rfl
  have hK166 : RK ((97, 35, 108) :: ((97, 30, 107) :: ((97, 29, 106) :: ((97, 28, 105) :: ((97, 22, 104) :: ((97, 21, 103) :: ((97, 20, 102) :: ((97, 7, 101) :: ((97, 6, 100) :: ((97, 5, 99) :: ((97, 4, 98) :: ([])))))))))))) (uR (zR (uR (zR (uR (zR (uR (zR (uR (zR (uR (zR (uR (zR (uR (zR (uR (zR (uR (zR (uR (zR R 98) 97 4 98) 99) 97 5 99) 100) 97 6 100) 101) 97 7 101) 102) 97 20 102) 103) 97 21 103) 104) 97 22 104) 105) 97 28 105) 106) 97 29 106) 107) 97 30 107) 108) 97 35 108) := hK164.u rfl
  have hF167 : FR 97 R (uR (zR (uR (zR (uR (zR (uR (zR (uR (zR (uR (zR (uR (zR (uR (zR (uR (zR (uR (zR (uR (zR R 98) 97 4 98) 99) 97 5 99) 100) 97 6 100) 101) 97 7 101) 102) 97 20 102) 103) 97 21 103) 104) 97 22 104) 105) 97 28 105) 106) 97 29 106) 107) 97 30 107) 108) 97 35 108) := hF165.u rfl
  refine ⟨rfl, ?_⟩
  have hB168 : BZ (zI (zI (zI (zI (zI (zI (zI (zI (uI (uI (zI (zI (zI (zI I 98) 99) 100) 101) 97 10 (-1)) 97 11 (-1)) 102) 103) 104) 105) 106) 107) 108) 109) := hB154.z
  have hZ169 : KI ((97, 11, -1) :: ((97, 10, -1) :: (zk_X11_init_1))) (zI (zI (zI (zI (zI (zI (zI (zI (uI (uI (zI (zI (zI (zI I 98) 99) 100) 101) 97 10 (-1)) 97 11 (-1)) 102) 103) 104) 105) 106) 107) 108) 109) := hZ155.z rfl
  have hI170 : FI 97 I (zI (zI (zI (zI (zI (zI (zI (zI (uI (uI (zI (zI (zI (zI I 98) 99) 100) 101) 97 10 (-1)) 97 11 (-1)) 102) 103) 104) 105) 106) 107) 108) 109) := hI156.z rfl
  have jk171 : (zJ (zJ (zJ (zJ (zJ (zJ (zJ (zJ (zJ (zJ (zJ (zJ (uJ J 97 3 1) 98) 99) 100) 101) 102) 103) 104) 105) 106) 107) 108) 109) 1 1 = 0 := (congrFun (zJ_ne (by decide)) 1).trans jk157
  have jk172 : (zJ (zJ (zJ (zJ (zJ (zJ (zJ (zJ (zJ (zJ (zJ (zJ (uJ J 97 3 1) 98) 99) 100) 101) 102) 103) 104) 105) 106) 107) 108) 109) 1 2 = 1 := (congrFun (zJ_ne (by decide)) 2).trans jk158
  have jk173 : (zJ (zJ (zJ (zJ (zJ (zJ (zJ (zJ (zJ (zJ (zJ (zJ (uJ J 97 3 1) 98) 99) 100) 101) 102) 103) 104) 105) 106) 107) 108) 109) 97 2 = 0 := (congrFun (zJ_ne (by decide)) 2).trans jk159
  have jk174 : (zJ (zJ (zJ (zJ (zJ (zJ (zJ (zJ (zJ (zJ (zJ (zJ (uJ J 97 3 1) 98) 99) 100) 101) 102) 103) 104) 105) 106) 107) 108) 109) 97 3 = 1 := (congrFun (zJ_ne (by decide)) 3).trans jk160
  have hJ175 : FJ 97 J (zJ (zJ (zJ (zJ (zJ (zJ (zJ (zJ (zJ (zJ (zJ (zJ (uJ J 97 3 1) 98) 99) 100) 101) 102) 103) 104) 105) 106) 107) 108) 109) := hJ161.z rfl
  have jz176 : (zJ (zJ (zJ (zJ (zJ (zJ (zJ (zJ (zJ (zJ (zJ (zJ (uJ J 97 3 1) 98) 99) 100) 101) 102) 103) 104) 105) 106) 107) 108) 109) 47 0 = 0 := JZ.z jz162 rfl
  have jf177 : ∀ k, k < 22 → (zJ (zJ (zJ (zJ (zJ (zJ (zJ (zJ (zJ (zJ (zJ (zJ (uJ J 97 3 1) 98) 99) 100) 101) 102) 103) 104) 105) 106) 107) 108) 109) 5 k = rsv.getD k 0 := J5.z jf163 rfl
  have hK178 : RK ((97, 35, 108) :: ((97, 30, 107) :: ((97, 29, 106) :: ((97, 28, 105) :: ((97, 22, 104) :: ((97, 21, 103) :: ((97, 20, 102) :: ((97, 7, 101) :: ((97, 6, 100) :: ((97, 5, 99) :: ((97, 4, 98) :: ([])))))))))))) (zR (uR (zR (uR (zR (uR (zR (uR (zR (uR (zR (uR (zR (uR (zR (uR (zR (uR (zR (uR (zR (uR (zR R 98) 97 4 98) 99) 97 5 99) 100) 97 6 100) 101) 97 7 101) 102) 97 20 102) 103) 97 21 103) 104) 97 22 104) 105) 97 28 105) 106) 97 29 106) 107) 97 30 107) 108) 97 35 108) 109) := hK166.z rfl
  have hF179 : FR 97 R (zR (uR (zR (uR (zR (uR (zR (uR (zR (uR (zR (uR (zR (uR (zR (uR (zR (uR (zR (uR (zR (uR (zR R 98) 97 4 98) 99) 97 5 99) 100) 97 6 100) 101) 97 7 101) 102) 97 20 102) 103) 97 21 103) 104) 97 22 104) 105) 97 28 105) 106) 97 29 106) 107) 97 30 107) 108) 97 35 108) 109) := hF167.z rfl
  have hK180 : RK ((97, 36, 109) :: ((97, 35, 108) :: ((97, 30, 107) :: ((97, 29, 106) :: ((97, 28, 105) :: ((97, 22, 104) :: ((97, 21, 103) :: ((97, 20, 102) :: ((97, 7, 101) :: ((97, 6, 100) :: ((97, 5, 99) :: ((97, 4, 98) :: ([]))))))))))))) (uR (zR (uR (zR (uR (zR (uR (zR (uR (zR (uR (zR (uR (zR (uR (zR (uR (zR (uR (zR (uR (zR (uR (zR R 98) 97 4 98) 99) 97 5 99) 100) 97 6 100) 101) 97 7 101) 102) 97 20 102) 103) 97 21 103) 104) 97 22 104) 105) 97 28 105) 106) 97 29 106) 107) 97 30 107) 108) 97 35 108) 109) 97 36 109) := hK178.u rfl
  have hF181 : FR 97 R (uR (zR (uR (zR (uR (zR (uR (zR (uR (zR (uR (zR (uR (zR (uR (zR (uR (zR (uR (zR (uR (zR (uR (zR R 98) 97 4 98) 99) 97 5 99) 100) 97 6 100) 101) 97 7 101) 102) 97 20 102) 103) 97 21 103) 104) 97 22 104) 105) 97 28 105) 106) 97 29 106) 107) 97 30 107) 108) 97 35 108) 109) 97 36 109) := hF179.u rfl
  refine ⟨rfl, ?_⟩
  have hB182 : BZ (zI (zI (zI (zI (zI (zI (zI (zI (zI (uI (uI (zI (zI (zI (zI I 98) 99) 100) 101) 97 10 (-1)) 97 11 (-1)) 102) 103) 104) 105) 106) 107) 108) 109) 110) := hB168.z
  have hZ183 : KI ((97, 11, -1) :: ((97, 10, -1) :: (zk_X11_init_1))) (zI (zI (zI (zI (zI (zI (zI (zI (zI (uI (uI (zI (zI (zI (zI I 98) 99) 100) 101) 97 10 (-1)) 97 11 (-1)) 102) 103) 104) 105) 106) 107) 108) 109) 110) := hZ169.z rfl
  have hI184 : FI 97 I (zI (zI (zI (zI (zI (zI (zI (zI (zI (uI (uI (zI (zI (zI (zI I 98) 99) 100) 101) 97 10 (-1)) 97 11 (-1)) 102) 103) 104) 105) 106) 107) 108) 109) 110) := hI170.z rfl
  have jk185 : (zJ (zJ (zJ (zJ (zJ (zJ (zJ (zJ (zJ (zJ (zJ (zJ (zJ (uJ J 97 3 1) 98) 99) 100) 101) 102) 103) 104) 105) 106) 107) 108) 109) 110) 1 1 = 0 := (congrFun (zJ_ne (by decide)) 1).trans jk171
  have jk186 : (zJ (zJ (zJ (zJ (zJ (zJ (zJ (zJ (zJ (zJ (zJ (zJ (zJ (uJ J 97 3 1) 98) 99) 100) 101) 102) 103) 104) 105) 106) 107) 108) 109) 110) 1 2 = 1 := (congrFun (zJ_ne (by decide)) 2).trans jk172
  have jk187 : (zJ (zJ (zJ (zJ (zJ (zJ (zJ (zJ (zJ (zJ (zJ (zJ (zJ (uJ J 97 3 1) 98) 99) 100) 101) 102) 103) 104) 105) 106) 107) 108) 109) 110) 97 2 = 0 := (congrFun (zJ_ne (by decide)) 2).trans jk173
  have jk188 : (zJ (zJ (zJ (zJ (zJ (zJ (zJ (zJ (zJ (zJ (zJ (zJ (zJ (uJ J 97 3 1) 98) 99) 100) 101) 102) 103) 104) 105) 106) 107) 108) 109) 110) 97 3 = 1 := (congrFun (zJ_ne (by decide)) 3).trans jk174
  have hJ189 : FJ 97 J (zJ (zJ (zJ (zJ (zJ (zJ (zJ (zJ (zJ (zJ (zJ (zJ (zJ (uJ J 97 3 1) 98) 99) 100) 101) 102) 103) 104) 105) 106) 107) 108) 109) 110) := hJ175.z rfl
  have jz190 : (zJ (zJ (zJ (zJ (zJ (zJ (zJ (zJ (zJ (zJ (zJ (zJ (zJ (uJ J 97 3 1) 98) 99) 100) 101) 102) 103) 104) 105) 106) 107) 108) 109) 110) 47 0 = 0 := JZ.z jz176 rfl
  have jf191 : ∀ k, k < 22 → (zJ (zJ (zJ (zJ (zJ (zJ (zJ (zJ (zJ (zJ (zJ (zJ (zJ (uJ J 97 3 1) 98) 99) 100) 101) 102) 103) 104) 105) 106) 107) 108) 109) 110) 5 k = rsv.getD k 0 := J5.z jf177 rfl
  have hK192 : RK ((97, 36, 109) :: ((97, 35, 108) :: ((97, 30, 107) :: ((97, 29, 106) :: ((97, 28, 105) :: ((97, 22, 104) :: ((97, 21, 103) :: ((97, 20, 102) :: ((97, 7, 101) :: ((97, 6, 100) :: ((97, 5, 99) :: ((97, 4, 98) :: ([]))))))))))))) (zR (uR (zR (uR (zR (uR (zR (uR (zR (uR (zR (uR (zR (uR (zR (uR (zR (uR (zR (uR (zR (uR (zR (uR (zR R 98) 97 4 98) 99) 97 5 99) 100) 97 6 100) 101) 97 7 101) 102) 97 20 102) 103) 97 21 103) 104) 97 22 104) 105) 97 28 105) 106) 97 29 106) 107) 97 30 107) 108) 97 35 108) 109) 97 36 109) 110) := hK180.z rfl
  have hF193 : FR 97 R (zR (uR (zR (uR (zR (uR (zR (uR (zR (uR (zR (uR (zR (uR (zR (uR (zR (uR (zR (uR (zR (uR (zR (uR (zR R 98) 97 4 98) 99) 97 5 99) 100) 97 6 100) 101) 97 7 101) 102) 97 20 102) 103) 97 21 103) 104) 97 22 104) 105) 97 28 105) 106) 97 29 106) 107) 97 30 107) 108) 97 35 108) 109) 97 36 109) 110) := hF181.z rfl
  have hK194 : RK ((97, 37, 110) :: ((97, 36, 109) :: ((97, 35, 108) :: ((97, 30, 107) :: ((97, 29, 106) :: ((97, 28, 105) :: ((97, 22, 104) :: ((97, 21, 103) :: ((97, 20, 102) :: ((97, 7, 101) :: ((97, 6, 100) :: ((97, 5, 99) :: ((97, 4, 98) :: ([])))))))))))))) (uR (zR (uR (zR (uR (zR (uR (zR (uR (zR (uR (zR (uR (zR (uR (zR (uR (zR (uR (zR (uR (zR (uR (zR (uR (zR R 98) 97 4 98) 99) 97 5 99) 100) 97 6 100) 101) 97 7 101) 102) 97 20 102) 103) 97 21 103) 104) 97 22 104) 105) 97 28 105) 106) 97 29 106) 107) 97 30 107) 108) 97 35 108) 109) 97 36 109) 110) 97 37 110) := hK192.u rfl
  have hF195 : FR 97 R (uR (zR (uR (zR (uR (zR (uR (zR (uR (zR (uR (zR (uR (zR (uR (zR (uR (zR (uR (zR (uR (zR (uR (zR (uR (zR R 98) 97 4 98) 99) 97 5 99) 100) 97 6 100) 101) 97 7 101) 102) 97 20 102) 103) 97 21 103) 104) 97 22 104) 105) 97 28 105) 106) 97 29 106) 107) 97 30 107) 108) 97 35 108) 109) 97 36 109) 110) 97 37 110) := hF193.u rfl
  refine ⟨rfl, ?_⟩
  have hB196 : BZ (zI (zI (zI (zI (zI (zI (zI (zI (zI (zI (uI (uI (zI (zI (zI (zI I 98) 99) 100) 101) 97 10 (-1)) 97 11 (-1)) 102) 103) 104) 105) 106) 107) 108) 109) 110) 111) := hB182.z
  have hZ197 : KI ((97, 11, -1) :: ((97, 10, -1) :: (zk_X11_init_1))) (zI (zI (zI (zI (zI (zI (zI (zI (zI (zI (uI (uI (zI (zI (zI (zI I 98) 99) 100) 101) 97 10 (-1)) 97 11 (-1)) 102) 103) 104) 105) 106) 107) 108) 109) 110) 111) := hZ183.z rfl
  have hI198 : FI 97 I (zI (zI (zI (zI (zI (zI (zI (zI (zI (zI (uI (uI (zI (zI (zI (zI I 98) 99) 100) 101) 97 10 (-1)) 97 11 (-1)) 102) 103) 104) 105) 106) 107) 108) 109) 110) 111) := hI184.z rfl
  have jk199 : (zJ (zJ (zJ (zJ (zJ (zJ (zJ (zJ (zJ (zJ (zJ (zJ (zJ (zJ (uJ J 97 3 1) 98) 99) 100) 101) 102) 103) 104) 105) 106) 107) 108) 109) 110) 111) 1 1 = 0 := (congrFun (zJ_ne (by decide)) 1).trans jk185
  have jk200 : (zJ (zJ (zJ (zJ (zJ (zJ (zJ (zJ (zJ (zJ (zJ (zJ (zJ (zJ (uJ J 97 3 1) 98) 99) 100) 101) 102) 103) 104) 105) 106) 107) 108) 109) 110) 111) 1 2 = 1 := (congrFun (zJ_ne (by decide)) 2).trans jk186
  have jk201 : (zJ (zJ (zJ (zJ (zJ (zJ (zJ (zJ (zJ (zJ (zJ (zJ (zJ (zJ (uJ J 97 3 1) 98) 99) 100) 101) 102) 103) 104) 105) 106) 107) 108) 109) 110) 111) 97 2 = 0 := (congrFun (zJ_ne (by decide)) 2).trans jk187
  have jk202 : (zJ (zJ (zJ (zJ (zJ (zJ (zJ (zJ (zJ (zJ (zJ (zJ (zJ (zJ (uJ J 97 3 1) 98) 99) 100) 101) 102) 103) 104) 105) 106) 107) 108) 109) 110) 111) 97 3 = 1 := (congrFun (zJ_ne (by decide)) 3).trans jk188
  have hJ203 : FJ 97 J (zJ (zJ (zJ (zJ (zJ (zJ (zJ (zJ (zJ (zJ (zJ (zJ (zJ (zJ (uJ J 97 3 1) 98) 99) 100) 101) 102) 103) 104) 105) 106) 107) 108) 109) 110) 111) := hJ189.z rfl
  have jz204 : (zJ (zJ (zJ (zJ (zJ (zJ (zJ (zJ (zJ (zJ (zJ (zJ (zJ (zJ (uJ J 97 3 1) 98) 99) 100) 101) 102) 103) 104) 105) 106) 107) 108) 109) 110) 111) 47 0 = 0 := JZ.z jz190 rfl
  have jf205 : ∀ k, k < 22 → (zJ (zJ (zJ (zJ (zJ (zJ (zJ (zJ (zJ (zJ (zJ (zJ (zJ (zJ (uJ J 97 3 1) 98) 99) 100) 101) 102) 103) 104) 105) 106) 107) 108) 109) 110) 111) 5 k = rsv.getD k 0 := J5.z jf191 rfl
  have hK206 : RK ((97, 37, 110) :: ((97, 36, 109) :: ((97, 35, 108) :: ((97, 30, 107) :: ((97, 29, 106) :: ((97, 28, 105) :: ((97, 22, 104) :: ((97, 21, 103) :: ((97, 20, 102) :: ((97, 7, 101) :: ((97, 6, 100) :: ((97, 5, 99) :: ((97, 4, 98) :: ([])))))))))))))) (zR (uR (zR (uR (zR (uR (zR (uR (zR (uR (zR (uR (zR (uR (zR (uR (zR (uR (zR (uR (zR (uR (zR (uR (zR (uR (zR R 98) 97 4 98) 99) 97 5 99) 100) 97 6 100) 101) 97 7 101) 102) 97 20 102) 103) 97 21 103) 104) 97 22 104) 105) 97 28 105) 106) 97 29 106) 107) 97 30 107) 108) 97 35 108) 109) 97 36 109) 110) 97 37 110) 111) := hK194.z rfl
  have hF207 : FR 97 R (zR (uR (zR (uR (zR (uR (zR (uR (zR (uR (zR (uR (zR (uR (zR (uR (zR (uR (zR (uR (zR (uR (zR (uR (zR (uR (zR R 98) 97 4 98) 99) 97 5 99) 100) 97 6 100) 101) 97 7 101) 102) 97 20 102) 103) 97 21 103) 104) 97 22 104) 105) 97 28 105) 106) 97 29 106) 107) 97 30 107) 108) 97 35 108) 109) 97 36 109) 110) 97 37 110) 111) := hF195.z rfl
  have hK208 : RK ((97, 38, 111) :: ((97, 37, 110) :: ((97, 36, 109) :: ((97, 35, 108) :: ((97, 30, 107) :: ((97, 29, 106) :: ((97, 28, 105) :: ((97, 22, 104) :: ((97, 21, 103) :: ((97, 20, 102) :: ((97, 7, 101) :: ((97, 6, 100) :: ((97, 5, 99) :: ((97, 4, 98) :: ([]))))))))))))))) (uR (zR (uR (zR (uR (zR (uR (zR (uR (zR (uR (zR (uR (zR (uR (zR (uR (zR (uR (zR (uR (zR (uR (zR (uR (zR (uR (zR R 98) 97 4 98) 99) 97 5 99) 100) 97 6 100) 101) 97 7 101) 102) 97 20 102) 103) 97 21 103) 104) 97 22 104) 105) 97 28 105) 106) 97 29 106) 107) 97 30 107) 108) 97 35 108) 109) 97 36 109) 110) 97 37 110) 111) 97 38 111) := hK206.u rfl
  have hF209 : FR 97 R (uR (zR (uR (zR (uR (zR (uR (zR (uR (zR (uR (zR (uR (zR (uR (zR (uR (zR (uR (zR (uR (zR (uR (zR (uR (zR (uR (zR R 98) 97 4 98) 99) 97 5 99) 100) 97 6 100) 101) 97 7 101) 102) 97 20 102) 103) 97 21 103) 104) 97 22 104) 105) 97 28 105) 106) 97 29 106) 107) 97 30 107) 108) 97 35 108) 109) 97 36 109) 110) 97 37 110) 111) 97 38 111) := hF207.u rfl
  refine ⟨rfl, ?_⟩
  have hB210 : BZ (zI (zI (zI (zI (zI (zI (zI (zI (zI (zI (zI (uI (uI (zI (zI (zI (zI I 98) 99) 100) 101) 97 10 (-1)) 97 11 (-1)) 102) 103) 104) 105) 106) 107) 108) 109) 110) 111) 112) := hB196.z
  have hZ211 : KI ((97, 11, -1) :: ((97, 10, -1) :: (zk_X11_init_1))) (zI (zI (zI (zI (zI (zI (zI (zI (zI (zI (zI (uI (uI (zI (zI (zI (zI I 98) 99) 100) 101) 97 10 (-1)) 97 11 (-1)) 102) 103) 104) 105) 106) 107) 108) 109) 110) 111) 112) := hZ197.z rfl
  have hI212 : FI 97 I (zI (zI (zI (zI (zI (zI (zI (zI (zI (zI (zI (uI (uI (zI (zI (zI (zI I 98) 99) 100) 101) 97 10 (-1)) 97 11 (-1)) 102) 103) 104) 105) 106) 107) 108) 109) 110) 111) 112) := hI198.z rfl
  have jk213 : (zJ (zJ (zJ (zJ (zJ (zJ (zJ (zJ (zJ (zJ (zJ (zJ (zJ (zJ (zJ (uJ J 97 3 1) 98) 99) 100) 101) 102) 103) 104) 105) 106) 107) 108) 109) 110) 111) 112) 1 1 = 0 := (congrFun (zJ_ne (by decide)) 1).trans jk199
  have jk214 : (zJ (zJ (zJ (zJ (zJ (zJ (zJ (zJ (zJ (zJ (zJ (zJ (zJ (zJ (zJ (uJ J 97 3 1) 98) 99) 100) 101) 102) 103) 104) 105) 106) 107) 108) 109) 110) 111) 112) 1 2 = 1 := (congrFun (zJ_ne (by decide)) 2).trans jk200
  have jk215 : (zJ (zJ (zJ (zJ (zJ (zJ (zJ (zJ (zJ (zJ (zJ (zJ (zJ (zJ (zJ (uJ J 97 3 1) 98) 99) 100) 101) 102) 103) 104) 105) 106) 107) 108) 109) 110) 111) 112) 97 2 = 0 := (congrFun (zJ_ne (by decide)) 2).trans jk201
  have jk216 : (zJ (zJ (zJ (zJ (zJ (zJ (zJ (zJ (zJ (zJ (zJ (zJ (zJ (zJ (zJ (uJ J 97 3 1) 98) 99) 100) 101) 102) 103) 104) 105) 106) 107) 108) 109) 110) 111) 112) 97 3 = 1 := (congrFun (zJ_ne (by decide)) 3).trans jk202
  have hJ217 : FJ 97 J (zJ (zJ (zJ (zJ (zJ (zJ (zJ (zJ (zJ (zJ (zJ (zJ (zJ (zJ (zJ (uJ J 97 3 1) 98) 99) 100) 101) 102) 103) 104) 105) 106) 107) 108) 109) 110) 111) 112) := hJ203.z rfl
  have jz218 : (zJ (zJ (zJ (zJ (zJ (zJ (zJ (zJ (zJ (zJ (zJ (zJ (zJ (zJ (zJ (uJ J 97 3 1) 98) 99) 100) 101) 102) 103) 104) 105) 106) 107) 108) 109) 110) 111) 112) 47 0 = 0 := JZ.z jz204 rfl
  have jf219 : ∀ k, k < 22 → (zJ (zJ (zJ (zJ (zJ (zJ (zJ (zJ (zJ (zJ (zJ (zJ (zJ (zJ (zJ (uJ J 97 3 1) 98) 99) 100) 101) 102) 103) 104) 105) 106) 107) 108) 109) 110) 111) 112) 5 k = rsv.getD k 0 := J5.z jf205 rfl
  have hK220 : RK ((97, 38, 111) :: ((97, 37, 110) :: ((97, 36, 109) :: ((97, 35, 108) :: ((97, 30, 107) :: ((97, 29, 106) :: ((97, 28, 105) :: ((97, 22, 104) :: ((97, 21, 103) :: ((97, 20, 102) :: ((97, 7, 101) :: ((97, 6, 100) :: ((97, 5, 99) :: ((97, 4, 98) :: ([]))))))))))))))) (zR (uR (zR (uR (zR (uR (zR (uR (zR (uR (zR (uR (zR (uR (zR (uR (zR (uR (zR (uR (zR (uR (zR (uR (zR (uR (zR (uR (zR R 98) 97 4 98) 99) 97 5 99) 100) 97 6 100) 101) 97 7 101) 102) 97 20 102) 103) 97 21 103) 104) 97 22 104) 105) 97 28 105) 106) 97 29 106) 107) 97 30 107) 108) 97 35 108) 109) 97 36 109) 110) 97 37 110) 111) 97 38 111) 112) := hK208.z rfl
  have hF221 : FR 97 R (zR (uR (zR (uR (zR (uR (zR (uR (zR (uR (zR (uR (zR (uR (zR (uR (zR (uR (zR (uR (zR (uR (zR (uR (zR (uR (zR (uR (zR R 98) 97 4 98) 99) 97 5 99) 100) 97 6 100) 101) 97 7 101) 102) 97 20 102) 103) 97 21 103) 104) 97 22 104) 105) 97 28 105) 106) 97 29 106) 107) 97 30 107) 108) 97 35 108) 109) 97 36 109) 110) 97 37 110) 111) 97 38 111) 112) := hF209.z rfl
  have hK222 : RK ((97, 39, 112) :: ((97, 38, 111) :: ((97, 37, 110) :: ((97, 36, 109) :: ((97, 35, 108) :: ((97, 30, 107) :: ((97, 29, 106) :: ((97, 28, 105) :: ((97, 22, 104) :: ((97, 21, 103) :: ((97, 20, 102) :: ((97, 7, 101) :: ((97, 6, 100) :: ((97, 5, 99) :: ((97, 4, 98) :: ([])))))))))))))))) (uR (zR (uR (zR (uR (zR (uR (zR (uR (zR (uR (zR (uR (zR (uR (zR (uR (zR (uR (zR (uR (zR (uR (zR (uR (zR (uR (zR (uR (zR R 98) 97 4 98) 99) 97 5 99) 100) 97 6 100) 101) 97 7 101) 102) 97 20 102) 103) 97 21 103) 104) 97 22 104) 105) 97 28 105) 106) 97 29 106) 107) 97 30 107) 108) 97 35 108) 109) 97 36 109) 110) 97 37 110) 111) 97 38 111) 112) 97 39 112) := hK220.u rfl
  have hF223 : FR 97 R (uR (zR (uR (zR (uR (zR (uR (zR (uR (zR (uR (zR (uR (zR (uR (zR (uR (zR (uR (zR (uR (zR (uR (zR (uR (zR (uR (zR (uR (zR R 98) 97 4 98) 99) 97 5 99) 100) 97 6 100) 101) 97 7 101) 102) 97 20 102) 103) 97 21 103) 104) 97 22 104) 105) 97 28 105) 106) 97 29 106) 107) 97 30 107) 108) 97 35 108) 109) 97 36 109) 110) 97 37 110) 111) 97 38 111) 112) 97 39 112) := hF221.u rfl
  refine cs_X12_init_97_140_112 hc 0 _ _ _ ?_
  refine ⟨fun c => absurd c (by decide), fun _ => ?_⟩
  refine ⟨hK222.ne (show lkq ((97, 39, 112) :: ((97, 38, 111) :: ((97, 37, 110) :: ((97, 36, 109) :: ((97, 35, 108) :: ((97, 30, 107) :: ((97, 29, 106) :: ((97, 28, 105) :: ((97, 22, 104) :: ((97, 21, 103) :: ((97, 20, 102) :: ((97, 7, 101) :: ((97, 6, 100) :: ((97, 5, 99) :: ((97, 4, 98) :: ([])))))))))))))))) 97 5 = true from rfl), ?_⟩
  refine ⟨vp_of rfl (by decide) (by decide), ?_⟩
  have hB224 : BZ (uI (zI (zI (zI (zI (zI (zI (zI (zI (zI (zI (zI (uI (uI (zI (zI (zI (zI I 98) 99) 100) 101) 97 10 (-1)) 97 11 (-1)) 102) 103) 104) 105) 106) 107) 108) 109) 110) 111) 112) 99 (Int32.toNatClampNeg 0) (-1)) := hB210.kw rfl rfl rfl
  have hZ225 : KI ((99, 0, -1) :: ((97, 11, -1) :: ((97, 10, -1) :: (zk_X11_init_1)))) (uI (zI (zI (zI (zI (zI (zI (zI (zI (zI (zI (zI (uI (uI (zI (zI (zI (zI I 98) 99) 100) 101) 97 10 (-1)) 97 11 (-1)) 102) 103) 104) 105) 106) 107) 108) 109) 110) 111) 112) 99 (Int32.toNatClampNeg 0) (-1)) := hZ211.u rfl
  have hI226 : FI 97 I (uI (zI (zI (zI (zI (zI (zI (zI (zI (zI (zI (zI (uI (uI (zI (zI (zI (zI I 98) 99) 100) 101) 97 10 (-1)) 97 11 (-1)) 102) 103) 104) 105) 106) 107) 108) 109) 110) 111) 112) 99 (Int32.toNatClampNeg 0) (-1)) := hI212.w rfl
  refine cs_X12_init_97_140_112 hc (0 + 1) _ _ _ ?_
  refine ⟨fun c => absurd c (by decide), fun _ => ?_⟩
  refine ⟨hK222.ne (show lkq ((97, 39, 112) :: ((97, 38, 111) :: ((97, 37, 110) :: ((97, 36, 109) :: ((97, 35, 108) :: ((97, 30, 107) :: ((97, 29, 106) :: ((97, 28, 105) :: ((97, 22, 104) :: ((97, 21, 103) :: ((97, 20, 102) :: ((97, 7, 101) :: ((97, 6, 100) :: ((97, 5, 99) :: ((97, 4, 98) :: ([])))))))))))))))) 97 5 = true from rfl), ?_⟩
  refine ⟨vp_of rfl (by decide) (by decide), ?_⟩
  have hB227 : BZ (uI (uI (zI (zI (zI (zI (zI (zI (zI (zI (zI (zI (zI (uI (uI (zI (zI (zI (zI I 98) 99) 100) 101) 97 10 (-1)) 97 11 (-1)) 102) 103) 104) 105) 106) 107) 108) 109) 110) 111) 112) 99 (Int32.toNatClampNeg 0) (-1)) 99 (Int32.toNatClampNeg (0 + 1)) (-1)) := hB224.kw rfl rfl rfl
  have hZ228 : KI ((99, 1, -1) :: ((99, 0, -1) :: ((97, 11, -1) :: ((97, 10, -1) :: (zk_X11_init_1))))) (uI (uI (zI (zI (zI (zI (zI (zI (zI (zI (zI (zI (zI (uI (uI (zI (zI (zI (zI I 98) 99) 100) 101) 97 10 (-1)) 97 11 (-1)) 102) 103) 104) 105) 106) 107) 108) 109) 110) 111) 112) 99 (Int32.toNatClampNeg 0) (-1)) 99 (Int32.toNatClampNeg (0 + 1)) (-1)) := hZ225.u rfl
  have hI229 : FI 97 I (uI (uI (zI (zI (zI (zI (zI (zI (zI (zI (zI (zI (zI (uI (uI (zI (zI (zI (zI I 98) 99) 100) 101) 97 10 (-1)) 97 11 (-1)) 102) 103) 104) 105) 106) 107) 108) 109) 110) 111) 112) 99 (Int32.toNatClampNeg 0) (-1)) 99 (Int32.toNatClampNeg (0 + 1)) (-1)) := hI226.w rfl
  refine cs_X12_init_97_140_112 hc ((0 + 1) + 1) _ _ _ ?_
  refine ⟨fun c => absurd c (by decide), fun _ => ?_⟩
  refine ⟨hK222.ne (show lkq ((97, 39, 112) :: ((97, 38, 111) :: ((97, 37, 110) :: ((97, 36, 109) :: ((97, 35, 108) :: ((97, 30, 107) :: ((97, 29, 106) :: ((97, 28, 105) :: ((97, 22, 104) :: ((97, 21, 103) :: ((97, 20, 102) :: ((97, 7, 101) :: ((97, 6, 100) :: ((97, 5, 99) :: ((97, 4, 98) :: ([])))))))))))))))) 97 5 = true from rfl), ?_⟩
  refine ⟨vp_of rfl (by decide) (by decide), ?_⟩
  have hB230 : BZ (uI (uI (uI (zI (zI (zI (zI (zI (zI (zI (zI (zI (zI (zI (uI (uI (zI (zI (zI (zI I 98) 99) 100) 101) 97 10 (-1)) 97 11 (-1)) 102) 103) 104) 105) 106) 107) 108) 109) 110) 111) 112) 99 (Int32.toNatClampNeg 0) (-1)) 99 (Int32.toNatClampNeg (0 + 1)) (-1)) 99 (Int32.toNatClampNeg ((0 + 1) + 1)) (-1)) := hB227.kw rfl rfl rfl
  have hZ231 : KI ((99, 2, -1) :: ((99, 1, -1) :: ((99, 0, -1) :: ((97, 11, -1) :: ((97, 10, -1) :: (zk_X11_init_1)))))) (uI (uI (uI (zI (zI (zI (zI (zI (zI (zI (zI (zI (zI (zI (uI (uI (zI (zI (zI (zI I 98) 99) 100) 101) 97 10 (-1)) 97 11 (-1)) 102) 103) 104) 105) 106) 107) 108) 109) 110) 111) 112) 99 (Int32.toNatClampNeg 0) (-1)) 99 (Int32.toNatClampNeg (0 + 1)) (-1)) 99 (Int32.toNatClampNeg ((0 + 1) + 1)) (-1)) := hZ228.u rfl
  have hI232 : FI 97 I (uI (uI (uI (zI (zI (zI (zI (zI (zI (zI (zI (zI (zI (zI (uI (uI (zI (zI (zI (zI I 98) 99) 100) 101) 97 10 (-1)) 97 11 (-1)) 102) 103) 104) 105) 106) 107) 108) 109) 110) 111) 112) 99 (Int32.toNatClampNeg 0) (-1)) 99 (Int32.toNatClampNeg (0 + 1)) (-1)) 99 (Int32.toNatClampNeg ((0 + 1) + 1)) (-1)) := hI229.w rfl
  refine cs_X12_init_97_140_112 hc (((0 + 1) + 1) + 1) _ _ _ ?_
  refine ⟨fun c => absurd c (by decide), fun _ => ?_⟩
  refine ⟨hK222.ne (show lkq ((97, 39, 112) :: ((97, 38, 111) :: ((97, 37, 110) :: ((97, 36, 109) :: ((97, 35, 108) :: ((97, 30, 107) :: ((97, 29, 106) :: ((97, 28, 105) :: ((97, 22, 104) :: ((97, 21, 103) :: ((97, 20, 102) :: ((97, 7, 101) :: ((97, 6, 100) :: ((97, 5, 99) :: ((97, 4, 98) :: ([])))))))))))))))) 97 5 = true from rfl), ?_⟩
  refine ⟨vp_of rfl (by decide) (by decide), ?_⟩
  have hB233 : BZ (uI (uI (uI (uI (zI (zI (zI (zI (zI (zI (zI (zI (zI (zI (zI (uI (uI (zI (zI (zI (zI I 98) 99) 100) 101) 97 10 (-1)) 97 11 (-1)) 102) 103) 104) 105) 106) 107) 108) 109) 110) 111) 112) 99 (Int32.toNatClampNeg 0) (-1)) 99 (Int32.toNatClampNeg (0 + 1)) (-1)) 99 (Int32.toNatClampNeg ((0 + 1) + 1)) (-1)) 99 (Int32.toNatClampNeg (((0 + 1) + 1) + 1)) (-1)) := hB230.kw rfl rfl rfl
  have hZ234 : KI ((99, 3, -1) :: ((99, 2, -1) :: ((99, 1, -1) :: ((99, 0, -1) :: ((97, 11, -1) :: ((97, 10, -1) :: (zk_X11_init_1))))))) (uI (uI (uI (uI (zI (zI (zI (zI (zI (zI (zI (zI (zI (zI (zI (uI (uI (zI (zI (zI (zI I 98) 99) 100) 101) 97 10 (-1)) 97 11 (-1)) 102) 103) 104) 105) 106) 107) 108) 109) 110) 111) 112) 99 (Int32.toNatClampNeg 0) (-1)) 99 (Int32.toNatClampNeg (0 + 1)) (-1)) 99 (Int32.toNatClampNeg ((0 + 1) + 1)) (-1)) 99 (Int32.toNatClampNeg (((0 + 1) + 1) + 1)) (-1)) := hZ231.u rfl
  have hI235 : FI 97 I (uI (uI (uI (uI (zI (zI (zI (zI (zI (zI (zI (zI (zI (zI (zI (uI (uI (zI (zI (zI (zI I 98) 99) 100) 101) 97 10 (-1)) 97 11 (-1)) 102) 103) 104) 105) 106) 107) 108) 109) 110) 111) 112) 99 (Int32.toNatClampNeg 0) (-1)) 99 (Int32.toNatClampNeg (0 + 1)) (-1)) 99 (Int32.toNatClampNeg ((0 + 1) + 1)) (-1)) 99 (Int32.toNatClampNeg (((0 + 1) + 1) + 1)) (-1)) := hI232.w rfl
  refine cs_X12_init_97_140_112 hc ((((0 + 1) + 1) + 1) + 1) _ _ _ ?_
  refine ⟨fun _ => ?_, fun c => absurd (by decide) c⟩
  refine ⟨⟨fl_of (RK.app (show RK lk_X12_init_97 (uR (zR (uR (zR (uR (zR (uR (zR (uR (zR (uR (zR (uR (zR (uR (zR (uR (zR (uR (zR (uR (zR (uR (zR (uR (zR (uR (zR (uR (zR R 98) 97 4 98) 99) 97 5 99) 100) 97 6 100) 101) 97 7 101) 102) 97 20 102) 103) 97 21 103) 104) 97 22 104) 105) 97 28 105) 106) 97 29 106) 107) 97 30 107) 108) 97 35 108) 109) 97 36 109) 110) 97 37 110) 111) 97 38 111) 112) 97 39 112) from hK222) (RK.fr hL hF223 rfl)), rfl⟩, ?_⟩
  refine kx (px_empties (b := 0) (Q := fun _ _ I2 _ _ => (∀ c, ¬ c = 102 → I2 c = (uI (uI (uI (uI (zI (zI (zI (zI (zI (zI (zI (zI (zI (zI (zI (uI (uI (zI (zI (zI (zI I 98) 99) 100) 101) 97 10 (-1)) 97 11 (-1)) 102) 103) 104) 105) 106) 107) 108) 109) 110) 111) 112) 99 (Int32.toNatClampNeg 0) (-1)) 99 (Int32.toNatClampNeg (0 + 1)) (-1)) 99 (Int32.toNatClampNeg ((0 + 1) + 1)) (-1)) 99 (Int32.toNatClampNeg (((0 + 1) + 1) + 1)) (-1)) c) ∧ I2 102 0 = 0 ∧ I2 102 3 = 1073741823 ∧ ∀ k, k < 324 → I2 102 k = emC k) rfl (by decide) (fun I2 e1 _ e3 => ⟨e1, e3 0 (by decide), e3 3 (by decide), fun k hk => (congrArg (I2 102) (show k = 324 * 0 + k by omega)).trans (e3 k hk)⟩)) (kpFc rfl (kpFm rfl (kp7 rfl (ri_of (RK.app (show RK lk_X12_init_97 (uR (zR (uR (zR (uR (zR (uR (zR (uR (zR (uR (zR (uR (zR (uR (zR (uR (zR (uR (zR (uR (zR (uR (zR (uR (zR (uR (zR (uR (zR R 98) 97 4 98) 99) 97 5 99) 100) 97 6 100) 101) 97 7 101) 102) 97 20 102) 103) 97 21 103) 104) 97 22 104) 105) 97 28 105) 106) 97 29 106) 107) 97 30 107) 108) 97 35 108) 109) 97 36 109) 110) 97 37 110) 111) 97 38 111) 112) 97 39 112) from hK222) (RK.fr hL hF223 rfl))) rfl (kp6 rfl (ri_of (RK.app (show RK lk_X12_init_97 (uR (zR (uR (zR (uR (zR (uR (zR (uR (zR (uR (zR (uR (zR (uR (zR (uR (zR (uR (zR (uR (zR (uR (zR (uR (zR (uR (zR (uR (zR R 98) 97 4 98) 99) 97 5 99) 100) 97 6 100) 101) 97 7 101) 102) 97 20 102) 103) 97 21 103) 104) 97 22 104) 105) 97 28 105) 106) 97 29 106) 107) 97 30 107) 108) 97 35 108) 109) 97 36 109) 110) 97 37 110) 111) 97 38 111) 112) 97 39 112) from hK222) (RK.fr hL hF223 rfl))) rfl (kp0 rfl (kp1 rfl (kp2 rfl (kp3 rfl (kp4 rfl (kp5 rfl (ri_of (RK.app (show RK lk_X12_init_97 (uR (zR (uR (zR (uR (zR (uR (zR (uR (zR (uR (zR (uR (zR (uR (zR (uR (zR (uR (zR (uR (zR (uR (zR (uR (zR (uR (zR (uR (zR R 98) 97 4 98) 99) 97 5 99) 100) 97 6 100) 101) 97 7 101) 102) 97 20 102) 103) 97 21 103) 104) 97 22 104) 105) 97 28 105) 106) 97 29 106) 107) 97 30 107) 108) 97 35 108) 109) 97 36 109) 110) 97 37 110) 111) 97 38 111) 112) 97 39 112) from hK222) (RK.fr hL hF223 rfl))) rfl (emp_b (b := 0) hB233.1 rfl (by decide) (fun x y I2 J2 hB2 _ k9 k4 k3 k2 k1 k0 k6 k7 km kc ke => ⟨rfl, fun z => absurd z (by decide), hQ _ _ _ hB2 hF223 hK222 ⟨?_, ?_, RT.kp (fun t ht => ?_) k4 k9, (congrFun k6 0).trans jz218⟩ ⟨fun i => by rw [k7.1, (hB233.2.2 i).1]; decide, fun i hi => absurd hi (by have e : I2 3 1 = 0 := k0.trans (hB233.at (by decide)); unfold fl; rw [e, show (0 : Int32).toInt.toNat = 0 from rfl]; omega), fun k hk => by rw [k7.2.2]; exact jf219 k hk⟩ ⟨(congrFun (ke.1 9 (by decide)) 4).trans (hB233.at (by decide)), (congrFun (ke.1 9 (by decide)) 2).trans (KI.at (o := 9) (k := 2) (v := 1073741823) hZ234 (by decide +kernel)), ke.2.1, ke.2.2.1, k3.trans (hB233.at (by decide)), (congrFun (ke.1 3 (by decide)) 3).trans (hB233.at (by decide)), (congrFun (ke.1 97 (by decide)) 10).trans (KI.at (o := 97) (k := 10) (v := -1) hZ234 (by decide +kernel)), (congrFun (ke.1 97 (by decide)) 11).trans (KI.at (o := 97) (k := 11) (v := -1) hZ234 (by decide +kernel))⟩ ⟨⟨(congrFun (ke.1 9 (by decide)) 1).trans (KI.at (o := 9) (k := 1) (v := 4) hZ234 (by decide +kernel)), (congrFun (ke.1 9 (by decide)) 3).trans (hB233.at (by decide)), fun k => (congrFun (ke.1 10 (by decide)) k).trans (hB233.2.2 k).2, (congrFun (ke.1 21 (by decide)) 0).trans (hB233.at (by decide)), ke.2.2.2⟩, FQ9.kp ⟨(jk213).trans (jk215).symm, (jk214).trans (jk216).symm⟩ kc km⟩⟩))))))))))))
  · exact congrArg Int32.toInt ((k0.trans (hB233.at (by decide))).trans (k1.trans (hB233.at (by decide))).symm)
  · exact congrArg Int32.toInt ((k2.trans (hB233.at (by decide))).trans (k3.trans (hB233.at (by decide))).symm)
  · rcases (show t = 0 ∨ t = 1 ∨ t = 2 ∨ t = 3 by omega) with q | q | q | q <;> subst q
    · exact ⟨(hB233.at (o := 53) (by decide)).trans (hB233.at (o := 98) (by decide)).symm, (KI.at (o := 53) (k := 1) (v := -1) hZ234 (by decide +kernel)).trans (KI.at (o := 99) (k := 0) (v := -1) hZ234 (by decide +kernel)).symm⟩
    · exact ⟨(hB233.at (o := 55) (by decide)).trans (hB233.at (o := 98) (by decide)).symm, (KI.at (o := 55) (k := 1) (v := -1) hZ234 (by decide +kernel)).trans (KI.at (o := 99) (k := 1) (v := -1) hZ234 (by decide +kernel)).symm⟩
    · exact ⟨(hB233.at (o := 57) (by decide)).trans (hB233.at (o := 98) (by decide)).symm, (KI.at (o := 57) (k := 1) (v := -1) hZ234 (by decide +kernel)).trans (KI.at (o := 99) (k := 2) (v := -1) hZ234 (by decide +kernel)).symm⟩
    · exact ⟨(hB233.at (o := 59) (by decide)).trans (hB233.at (o := 98) (by decide)).symm, (KI.at (o := 59) (k := 1) (v := -1) hZ234 (by decide +kernel)).trans (KI.at (o := 99) (k := 3) (v := -1) hZ234 (by decide +kernel)).symm⟩
