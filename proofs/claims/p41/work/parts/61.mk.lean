/-! ===== what makes objects: bounds hold, the references lie as they are to ===== -/
noncomputable def okb (b : Option (Int × Int)) (v : Int) : Bool := match b with
  | none => true
  | some (lo, hi) => decide (lo ≤ v) && decide (v ≤ hi)
theorem okb_spec {b : Option (Int × Int)} {v lo hi : Int} (h : okb b v = true) (hb : b = some (lo, hi)) : lo ≤ v ∧ v ≤ hi := by
  subst hb
  unfold okb at h
  rw [Bool.and_eq_true, decide_eq_true_eq, decide_eq_true_eq] at h
  exact h
theorem Bd.kw {I : Im} (h : Bd I) {o k : Nat} {v : Int32} (hk : (okb (bnd (clsOf o) k) v.toInt && (okb (bna o) v.toInt && !(Nat.beq o 102))) = true) : Bd (uI I o k v) := by
  rw [Bool.and_eq_true, Bool.and_eq_true] at hk
  refine h.up (fun lo hi q => okb_spec hk.1 q) (fun lo hi q => okb_spec hk.2.1 q) (fun q => ?_)
  subst q; exact absurd hk.2.2 (by decide)
theorem bnd_0 {ci k : Nat} {lo hi : Int} (h : bnd ci k = some (lo, hi)) : lo ≤ 0 ∧ 0 ≤ hi := by
  unfold bnd at h
  split at h <;> first | (cases h; decide) | (cases h)
theorem bna_0 {a : Nat} {lo hi : Int} (h : bna a = some (lo, hi)) : lo ≤ 0 ∧ 0 ≤ hi := by
  unfold bna at h
  split at h <;> first | (cases h; decide) | (cases h)
theorem CK.zero : CK (fun _ => 0) := by
  have z0 : (0 : Int32).toInt = 0 := rfl
  refine ⟨fun j => ?_, fun c k hc hk => ?_, fun c s hc hd hs => absurd rfl hd⟩
  · show CB j (0 : Int32).toInt
    rw [z0]; unfold CB; omega
  · have : (k : Int) < (0 : Int32).toInt := hk
    omega
theorem Bd.z {I : Im} (h : Bd I) {a : Nat} : Bd (zI I a) := by
  have e : ∀ o, (zI I a o = fun _ => 0) ∨ zI I a o = I o := fun o => by
    by_cases q : o = a
    · exact Or.inl (if_pos q)
    · exact Or.inr (if_neg q)
  refine ⟨fun o k lo hi hb => ?_, fun o j lo hi hb => ?_, ?_⟩
  · rcases e o with q | q
    · rw [q]; exact bnd_0 hb
    · rw [q]; exact h.1 o k lo hi hb
  · rcases e o with q | q
    · rw [q]; exact bna_0 hb
    · rw [q]; exact h.2.1 o j lo hi hb
  · rcases e 102 with q | q
    · rw [q]; exact CK.zero
    · rw [q]; exact h.2.2
/-- the places that both sides have alike are 0 while the objects are made -/
noncomputable def ZP : List (Nat × Nat) := [(9, 4), (9, 3), (21, 0), (3, 1), (3, 3), (1, 13), (97, 8), (97, 23), (53, 0), (55, 0), (57, 0), (59, 0), (98, 0), (98, 1), (98, 2), (98, 3)]
noncomputable def BZ (I : Im) : Prop := Bd I ∧ (∀ q ∈ ZP, I q.1 q.2 = 0) ∧ ∀ k, I 4 k = 0 ∧ I 10 k = 0
theorem BZ.kw {I : Im} (h : BZ I) {o k : Nat} {v : Int32} (hk : (okb (bnd (clsOf o) k) v.toInt && (okb (bna o) v.toInt && !(Nat.beq o 102))) = true) (hz : ZP.all (fun q => !(Nat.beq q.1 o && Nat.beq q.2 k) || decide (v.toInt = 0)) = true) (h4 : (Nat.beq o 4 || Nat.beq o 10) = false) : BZ (uI I o k v) := by
  have n10 : ¬ (10 : Nat) = o := fun q => by subst q; exact absurd h4 (by decide)
  have n4 : ¬ (4 : Nat) = o := fun q => by subst q; exact absurd h4 (by decide)
  refine ⟨h.1.kw hk, fun q hq => ?_, fun k2 => by rw [uI_ne n4, uI_ne n10]; exact h.2.2 k2⟩
  have h1 := List.all_eq_true.mp hz q hq
  rw [Bool.or_eq_true, Bool.not_eq_true', decide_eq_true_eq] at h1
  by_cases ho : q.1 = o
  · by_cases hk2 : q.2 = k
    · rcases h1 with h1 | h1
      · rw [ho, hk2, nb_refl, nb_refl] at h1; exact absurd h1 (by decide)
      · rw [ho, hk2, uI_eq]
        have : upd (I o) k v k = v := by simp [upd]
        rw [this]; exact Int32.toInt_inj.mp h1
    · rw [ho, uI_eq]
      have : upd (I o) k v q.2 = I o q.2 := by simp [upd, hk2]
      rw [this, ← ho]; exact h.2.1 q hq
  · rw [uI_ne ho]; exact h.2.1 q hq
theorem BZ.z {I : Im} (h : BZ I) {a : Nat} : BZ (zI I a) := by
  refine ⟨h.1.z, fun q hq => ?_, fun k2 => ?_⟩
  · by_cases ho : q.1 = a
    · show (if q.1 = a then (fun _ => 0) else I q.1) q.2 = 0
      rw [if_pos ho]
    · rw [zI_ne ho]; exact h.2.1 q hq
  · refine ⟨?_, ?_⟩
    · by_cases ho : 4 = a
      · show (if 4 = a then (fun _ => 0) else I 4) k2 = 0
        rw [if_pos ho]
      · rw [zI_ne ho]; exact (h.2.2 k2).1
    · by_cases ho : 10 = a
      · show (if 10 = a then (fun _ => 0) else I 10) k2 = 0
        rw [if_pos ho]
      · rw [zI_ne ho]; exact (h.2.2 k2).2
/-- what is known of ints -/
noncomputable def KI (L : List (Nat × Nat × Int32)) (I : Im) : Prop := ∀ q ∈ L, I q.1 q.2.1 = q.2.2
noncomputable def FI (n : Nat) (I I2 : Im) : Prop := ∀ o, o < n → I2 o = I o
theorem KI.nil {I : Im} : KI [] I := fun q h => by cases h
theorem KI.z {L : List (Nat × Nat × Int32)} {I : Im} (h : KI L I) {a : Nat} (ha : L.all (fun q => !(Nat.beq q.1 a)) = true) : KI L (zI I a) := fun q hq => by
  have h1 := List.all_eq_true.mp ha q hq
  have h2 : ¬ q.1 = a := fun z => by rw [z, nb_refl] at h1; cases h1
  rw [zI_ne h2]; exact h q hq
theorem KI.w {L : List (Nat × Nat × Int32)} {I : Im} (h : KI L I) {a j : Nat} {v : Int32} (ha : L.all (fun q => !(Nat.beq q.1 a && Nat.beq q.2.1 j)) = true) : KI L (uI I a j v) := fun q hq => by
  have h1 := List.all_eq_true.mp ha q hq
  by_cases z : q.1 = a
  · have h2 : ¬ q.2.1 = j := fun y => by rw [z, y, nb_refl, nb_refl] at h1; cases h1
    have h3 := h q hq
    rw [z] at h3
    rw [z, uI_eq]
    have : upd (I a) j v q.2.1 = I a q.2.1 := by simp [upd, h2]
    rw [this]; exact h3
  · rw [uI_ne z]; exact h q hq
theorem KI.u {L : List (Nat × Nat × Int32)} {I : Im} (h : KI L I) {a j : Nat} {v : Int32} (ha : L.all (fun q => !(Nat.beq q.1 a && Nat.beq q.2.1 j)) = true) : KI ((a, j, v) :: L) (uI I a j v) := fun q hq => by
  rcases List.mem_cons.mp hq with rfl | hq
  · show uI I a j v a j = v
    rw [uI_eq]; simp [upd]
  · exact h.w ha q hq
theorem KI.app {A B : List (Nat × Nat × Int32)} {I : Im} (h : KI A I) (h2 : KI B I) : KI (A ++ B) I := fun q hq => by
  rcases List.mem_append.mp hq with hq | hq
  · exact h q hq
  · exact h2 q hq
theorem KI.fr {L : List (Nat × Nat × Int32)} {I I2 : Im} (h : KI L I) {n : Nat} (hf : FI n I I2) (hL : L.all (fun q => Nat.blt q.1 n) = true) : KI L I2 := fun q hq => by
  have h1 := List.all_eq_true.mp hL q hq
  rw [hf q.1 (Nat.lt_of_lt_of_le (Nat.lt_succ_self _) (Nat.le_of_ble_eq_true h1))]; exact h q hq
theorem FI.refl (n : Nat) (I : Im) : FI n I I := fun _ _ => rfl
noncomputable def FJ (n : Nat) (J J2 : Jm) : Prop := ∀ o, o < n → J2 o = J o
theorem FJ.refl (n : Nat) (J : Jm) : FJ n J J := fun _ _ => rfl
theorem FJ.z {n : Nat} {J J2 : Jm} (h : FJ n J J2) {a : Nat} (ha : Nat.ble n a = true) : FJ n J (zJ J2 a) := fun o ho => by
  have := Nat.le_of_ble_eq_true ha
  rw [zJ_ne (by omega)]; exact h o ho
theorem FJ.w {n : Nat} {J J2 : Jm} (h : FJ n J J2) {a j : Nat} {v : Int64} (ha : Nat.ble n a = true) : FJ n J (uJ J2 a j v) := fun o ho => by
  have := Nat.le_of_ble_eq_true ha
  rw [uJ_ne (by omega)]; exact h o ho
theorem JZ.z {J : Jm} {a : Nat} (h : J 47 0 = 0) (ha : Nat.beq 47 a = false) : zJ J a 47 0 = 0 := by
  have : ¬ 47 = a := fun q => by subst q; exact absurd ha (by decide)
  rw [zJ_ne this]; exact h
theorem JZ.w {J : Jm} {a j : Nat} {v : Int64} (h : J 47 0 = 0) (ha : Nat.beq 47 a = false) : uJ J a j v 47 0 = 0 := by
  have : ¬ 47 = a := fun q => by subst q; exact absurd ha (by decide)
  rw [uJ_ne this]; exact h
theorem J5.z {J : Jm} {a : Nat} (h : ∀ k, k < 22 → J 5 k = rsv.getD k 0) (ha : Nat.beq 5 a = false) : ∀ k, k < 22 → zJ J a 5 k = rsv.getD k 0 := fun k hk => by
  have : ¬ 5 = a := fun q => by subst q; exact absurd ha (by decide)
  rw [zJ_ne this]; exact h k hk
theorem J5.w {J : Jm} {a j : Nat} {v : Int64} (h : ∀ k, k < 22 → J 5 k = rsv.getD k 0) (ha : Nat.beq 5 a = false) : ∀ k, k < 22 → uJ J a j v 5 k = rsv.getD k 0 := fun k hk => by
  have : ¬ 5 = a := fun q => by subst q; exact absurd ha (by decide)
  rw [uJ_ne this]; exact h k hk
theorem FI.z {n : Nat} {I I2 : Im} (h : FI n I I2) {a : Nat} (ha : Nat.ble n a = true) : FI n I (zI I2 a) := fun o ho => by
  have := Nat.le_of_ble_eq_true ha
  rw [zI_ne (by omega)]; exact h o ho
theorem FI.w {n : Nat} {I I2 : Im} (h : FI n I I2) {a j : Nat} {v : Int32} (ha : Nat.ble n a = true) : FI n I (uI I2 a j v) := fun o ho => by
  have := Nat.le_of_ble_eq_true ha
  rw [uI_ne (by first | decide | omega)]; exact h o ho
theorem Bd.start : Bd (fun _ _ => 0) := ⟨fun _ _ _ _ hb => bnd_0 hb, fun _ _ _ _ hb => bna_0 hb, CK.zero⟩
theorem BZ.at {I : Im} (h : BZ I) {o k : Nat} (hq : (o, k) ∈ ZP) : I o k = 0 := h.2.1 (o, k) hq
theorem KI.at {L : List (Nat × Nat × Int32)} {I : Im} (h : KI L I) {o k : Nat} {v : Int32} (hq : (o, k, v) ∈ L) : I o k = v := h (o, k, v) hq
theorem BZ.start : BZ (fun _ _ => 0) := ⟨Bd.start, fun _ _ => rfl, fun _ => ⟨rfl, rfl⟩⟩
/-- what is known of the references -/
noncomputable def RK (L : List (Nat × Nat × Nat)) (R : Rm) : Prop := ∀ q ∈ L, R q.1 q.2.1 = q.2.2
theorem RK.nil {R : Rm} : RK [] R := fun q h => by cases h
theorem RK.z {L : List (Nat × Nat × Nat)} {R : Rm} (h : RK L R) {a : Nat} (ha : L.all (fun q => !(Nat.beq q.1 a)) = true) : RK L (zR R a) := fun q hq => by
  have h1 := List.all_eq_true.mp ha q hq
  have h2 : ¬ q.1 = a := fun z => by rw [z, Nat.beq_refl] at h1; cases h1
  show (if q.1 = a then (fun _ => 0) else R q.1) q.2.1 = q.2.2
  rw [if_neg h2]; exact h q hq
theorem RK.u {L : List (Nat × Nat × Nat)} {R : Rm} (h : RK L R) {a j v : Nat} (ha : L.all (fun q => !(Nat.beq q.1 a && Nat.beq q.2.1 j)) = true) : RK ((a, j, v) :: L) (uR R a j v) := fun q hq => by
  rcases List.mem_cons.mp hq with rfl | hq
  · show (if a = a then va_up (R a) j v else R a) j = v
    rw [if_pos rfl]; exact if_pos rfl
  · have h1 := List.all_eq_true.mp ha q hq
    show (if q.1 = a then va_up (R a) j v else R q.1) q.2.1 = q.2.2
    by_cases z : q.1 = a
    · rw [if_pos z]
      have h2 : ¬ q.2.1 = j := fun y => by rw [z, y, Nat.beq_refl, Nat.beq_refl] at h1; cases h1
      show (if q.2.1 = j then v else R a q.2.1) = q.2.2
      rw [if_neg h2, ← z]; exact h q hq
    · rw [if_neg z]; exact h q hq
theorem RK.app {A B : List (Nat × Nat × Nat)} {R : Rm} (h : RK A R) (h2 : RK B R) : RK (A ++ B) R := fun q hq => by
  rcases List.mem_append.mp hq with hq | hq
  · exact h q hq
  · exact h2 q hq
/-- the cells before one are as they were -/
noncomputable def FR (n : Nat) (R R2 : Rm) : Prop := ∀ o, o < n → R2 o = R o
theorem FR.refl (n : Nat) (R : Rm) : FR n R R := fun _ _ => rfl
theorem FR.z {n : Nat} {R R2 : Rm} (h : FR n R R2) {a : Nat} (ha : Nat.ble n a = true) : FR n R (zR R2 a) := fun o ho => by
  have := Nat.le_of_ble_eq_true ha
  show (if o = a then (fun _ => 0) else R2 o) = R o
  rw [if_neg (by omega)]; exact h o ho
theorem FR.u {n : Nat} {R R2 : Rm} (h : FR n R R2) {a j v : Nat} (ha : Nat.ble n a = true) : FR n R (uR R2 a j v) := fun o ho => by
  have := Nat.le_of_ble_eq_true ha
  show (if o = a then va_up (R2 a) j v else R2 o) = R o
  rw [if_neg (by omega)]; exact h o ho
theorem RK.fr {L : List (Nat × Nat × Nat)} {R R2 : Rm} (h : RK L R) {n : Nat} (hf : FR n R R2) (hL : L.all (fun q => Nat.blt q.1 n) = true) : RK L R2 := fun q hq => by
  have h1 := List.all_eq_true.mp hL q hq
  rw [hf q.1 (Nat.lt_of_lt_of_le (Nat.lt_succ_self _) (Nat.le_of_ble_eq_true h1))]; exact h q hq
noncomputable def lkq (L : List (Nat × Nat × Nat)) (o k : Nat) : Bool := L.any (fun q => Nat.beq q.1 o && (Nat.beq q.2.1 k && !(Nat.beq q.2.2 0)))
theorem RK.ne {L : List (Nat × Nat × Nat)} {R : Rm} (h : RK L R) {o k : Nat} (hq : lkq L o k = true) : ¬ R o k = 0 := by
  obtain ⟨q, h1, h2⟩ := List.any_eq_true.mp hq
  rw [Bool.and_eq_true, Bool.and_eq_true] at h2
  have e1 := Nat.eq_of_beq_eq_true h2.1
  have e2 := Nat.eq_of_beq_eq_true h2.2.1
  intro z
  have h3 := h q h1
  rw [e1, e2, z] at h3
  rw [← h3] at h2
  exact absurd h2.2.2 (by decide)
theorem RK.at {L : List (Nat × Nat × Nat)} {R : Rm} (h : RK L R) {o k v : Nat} (hq : L.contains (o, k, v) = true) : R o k = v := h (o, k, v) (List.contains_iff_mem.mp hq)
theorem amc_of {d mi rk : Nat} {n al kr : Nat} {as : List Value} {I : Im} {J : Jm} {R : Rm} {Q : Qt} {k : List En} (h1 : Nat.beq mi mReader = false) (hc : (mQ mi).1 = k) (hrk : qRk (mQ mi) = rk) (hal : qAl (mQ mi) = al) (hkr : qKr (mQ mi) = kr) (hph : Nat.beq (qPh (mQ mi)) 1 = false) (hlen : (lg_sl as).length ≤ qL (mQ mi)) (h : ∀ P : Kt, Cl (AM d) false false 0 (fun _ => 0) rk (n + al) k (fun n' x y I' J' R' => n' = n + al ∧ (kr = 1 → R' = R) ∧ Q x y I' J' R') P → P 0 n (lv_args 0 as) [] I J R) : AM (d + 1) mi n as I J R Q := by
  unfold AM
  rw [h1]
  refine ⟨hlen, ?_⟩
  rw [hc, hrk, hal, hph, hkr]
  exact h

noncomputable def lk_X6_init_3 : List (Nat × Nat × Nat) := [(3, 0, 4), (3, 2, 5)]
noncomputable def zk_X6_init_3 : List (Nat × Nat × Int32) := []
theorem ct_X6_init_3 {d : Nat} {Q : Qt} {I : Im} {J : Jm} {R : Rm} (hB : BZ I) (hQ : ∀ (I2 : Im) (J2 : Jm) (R2 : Rm), BZ I2 → FR 3 R R2 → RK lk_X6_init_3 R2 → FI 3 I I2 → KI zk_X6_init_3 I2 → FJ 3 J J2 → (∀ k, k < 22 → J2 5 k = rsv.getD k 0) → Q 0 0 I2 J2 R2) : AM (d + 6) 58 3 [.ref 3] I J R Q := by
  unfold AM
  show hReader 3 [.ref 3] I J R Q
  refine ⟨3, rfl, rfl, ⟨rfl, rfl, rfl, rfl, rfl⟩, ?_⟩
  intro I' J' R' hI hJ hR ⟨b0, r0, r2, i1, i3, i4, i5, i6, i7, i8, i9, j10, i11, i12, i13, j5⟩
  refine hQ I' J' R' ⟨?_, fun q hq => ?_, fun k => ⟨b0 k, by rw [hI 10 (by decide) (by decide) (by decide)]; exact (hB.2.2 k).2⟩⟩ (fun o ho => hR o (by omega) (by omega) (by omega)) (fun q hq => ?_) (fun o ho => hI o (by omega) (by omega) (by omega)) (fun q hq => by cases hq) (fun o ho => hJ o (by omega) (by omega) (by omega)) j5
  · refine ⟨fun o k lo hi hb => ?_, fun a j lo hi hb => ?_, ?_⟩
    · by_cases q3 : o = 3
      · subst q3
        have hb2 : bnd 6 k = some (lo, hi) := hb
        unfold bnd at hb2
        split at hb2 <;> first | (rename_i z; cases z) | skip
        all_goals first | (cases hb2; first | (rw [i1]; decide) | (rw [i3]; decide) | (rw [i4]; decide) | (rw [i5]; decide) | (rw [i6]; decide)) | (cases hb2)
      · by_cases q4 : o = 4
        · subst q4; rw [show bnd (clsOf 4) k = none from bnd_A (t := 2) rfl k] at hb; cases hb
        · by_cases q5 : o = 5
          · subst q5; rw [show bnd (clsOf 5) k = none from bnd_A (t := 1) rfl k] at hb; cases hb
          · rw [hI o q3 q4 q5]; exact hB.1.1 o k lo hi hb
    · by_cases q3 : a = 3
      · subst q3; cases hb
      · by_cases q4 : a = 4
        · subst q4; cases hb
        · by_cases q5 : a = 5
          · subst q5; cases hb
          · rw [hI a q3 q4 q5]; exact hB.1.2.1 a j lo hi hb
    · rw [hI 102 (by decide) (by decide) (by decide)]; exact hB.1.2.2
  · have hz : ∀ q ∈ ZP, ¬ q.1 = 4 ∧ ¬ q.1 = 5 ∧ (q.1 = 3 → q.2 = 1 ∨ q.2 = 3) := by decide
    obtain ⟨h4, h5, h3⟩ := hz q hq
    by_cases q3 : q.1 = 3
    · rw [q3]; exact (h3 q3).elim (fun z => by rw [z]; exact i1) (fun z => by rw [z]; exact i3)
    · rw [hI q.1 q3 h4 h5]; exact hB.2.1 q hq
  · rcases List.mem_cons.mp hq with rfl | hq
    · exact r0
    · rcases List.mem_cons.mp hq with rfl | hq
      · exact r2
      · cases hq
noncomputable def zk_X1_init_6 : List (Nat × Nat × Int32) := []
theorem ct_X1_init_6 {d : Nat} {Q : Qt} {I : Im} {J : Jm} {R : Rm} (hB : BZ I) (hQ : ∀ (I2 : Im) (J2 : Jm) (R2 : Rm), BZ I2 → R2 = R → True → FI 6 I I2 → KI zk_X1_init_6 I2 → FJ 6 J J2 → True → Q 0 0 I2 J2 R2) : AM (d + 1) 20 6 [.ref 6] I J R Q := by
  refine amc_of (k := kX1_init) rfl rfl rfl rfl rfl rfl (Nat.le_of_ble_eq_true rfl) (fun P hc => ?_)
  refine cs_X1_init_6_0_6 hc _ _ _ ?_
  refine ⟨Or.inl rfl, ?_⟩
  have hB1 : BZ (uI I 6 0 0) := hB.kw rfl rfl rfl
  have hZ2 : KI ([]) (uI I 6 0 0) := (KI.nil (I := I)).w rfl
  have hI3 : FI 6 I (uI I 6 0 0) := (FI.refl 6 I).w rfl
  refine ⟨Or.inl rfl, ?_⟩
  have hB4 : BZ (uI (uI I 6 0 0) 6 1 0) := hB1.kw rfl rfl rfl
  have hZ5 : KI ([]) (uI (uI I 6 0 0) 6 1 0) := hZ2.w rfl
  have hI6 : FI 6 I (uI (uI I 6 0 0) 6 1 0) := hI3.w rfl
  have hB7 : BZ (uI (uI (uI I 6 0 0) 6 1 0) 6 2 0) := hB4.kw rfl rfl rfl
  have hZ8 : KI ([]) (uI (uI (uI I 6 0 0) 6 1 0) 6 2 0) := hZ5.w rfl
  have hI9 : FI 6 I (uI (uI (uI I 6 0 0) 6 1 0) 6 2 0) := hI6.w rfl
  exact ⟨rfl, fun _ => rfl, hQ _ _ _ hB7 rfl trivial hI9 hZ8 (FJ.refl 6 J) trivial⟩
noncomputable def zk_X3_init_7 : List (Nat × Nat × Int32) := []
noncomputable def lk_X3_init_7 : List (Nat × Nat × Nat) := (7, 0, 8) :: ([])
set_option maxHeartbeats 4000000 in
set_option maxRecDepth 100000 in
theorem ct_X3_init_7 {d : Nat} {Q : Qt} {I : Im} {J : Jm} {R : Rm} (hB : BZ I) (hQ : ∀ (I2 : Im) (J2 : Jm) (R2 : Rm), BZ I2 → FR 7 R R2 → RK lk_X3_init_7 R2 → FI 7 I I2 → KI zk_X3_init_7 I2 → FJ 7 J J2 → True → Q 0 0 I2 J2 R2) : AM (d + 1) 32 7 [.ref 7] I J R Q := by
  refine amc_of (k := kX3_init) rfl rfl rfl rfl rfl rfl (Nat.le_of_ble_eq_true rfl) (fun P hc => ?_)
  refine cs_X3_init_7_0_7 hc _ _ _ ?_
  refine ⟨rfl, ?_⟩
  have hB1 : BZ (zI I 8) := hB.z
  have hZ2 : KI ([]) (zI I 8) := (KI.nil (I := I)).z rfl
  have hI3 : FI 7 I (zI I 8) := (FI.refl 7 I).z rfl
  have hJ4 : FJ 7 J (zJ J 8) := (FJ.refl 7 J).z rfl
  have hK5 : RK ([]) (zR R 8) := (RK.nil (R := R)).z rfl
  have hF6 : FR 7 R (zR R 8) := (FR.refl 7 R).z rfl
  have hK7 : RK ((7, 0, 8) :: ([])) (uR (zR R 8) 7 0 8) := hK5.u rfl
  have hF8 : FR 7 R (uR (zR R 8) 7 0 8) := hF6.u rfl
  have hB9 : BZ (uI (zI I 8) 7 1 0) := hB1.kw rfl rfl rfl
  have hZ10 : KI ([]) (uI (zI I 8) 7 1 0) := hZ2.w rfl
  have hI11 : FI 7 I (uI (zI I 8) 7 1 0) := hI3.w rfl
  exact ⟨rfl, fun z => absurd z (by decide), hQ _ _ _ hB9 hF8 hK7 hI11 hZ10 hJ4 trivial⟩
noncomputable def zk_X0_init_9 : List (Nat × Nat × Int32) := (9, 2, 1073741823) :: ((9, 1, 4) :: ([]))
noncomputable def lk_X0_init_9 : List (Nat × Nat × Nat) := (9, 8, 14) :: ((9, 7, 13) :: ((9, 6, 12) :: ((9, 5, 11) :: ((9, 0, 10) :: ([])))))
set_option maxHeartbeats 4000000 in
set_option maxRecDepth 100000 in
theorem ct_X0_init_9 {d : Nat} {Q : Qt} {I : Im} {J : Jm} {R : Rm} (hB : BZ I) (hQ : ∀ (I2 : Im) (J2 : Jm) (R2 : Rm), BZ I2 → FR 9 R R2 → RK lk_X0_init_9 R2 → FI 9 I I2 → KI zk_X0_init_9 I2 → FJ 9 J J2 → True → Q 0 0 I2 J2 R2) : AM (d + 1) 0 9 [.ref 9] I J R Q := by
  refine amc_of (k := kX0_init) rfl rfl rfl rfl rfl rfl (Nat.le_of_ble_eq_true rfl) (fun P hc => ?_)
  refine cs_X0_init_9_0_9 hc _ _ _ ?_
  refine ⟨rfl, ?_⟩
  have hB1 : BZ (zI I 10) := hB.z
  have hZ2 : KI ([]) (zI I 10) := (KI.nil (I := I)).z rfl
  have hI3 : FI 9 I (zI I 10) := (FI.refl 9 I).z rfl
  have hJ4 : FJ 9 J (zJ J 10) := (FJ.refl 9 J).z rfl
  have hK5 : RK ([]) (zR R 10) := (RK.nil (R := R)).z rfl
  have hF6 : FR 9 R (zR R 10) := (FR.refl 9 R).z rfl
  have hK7 : RK ((9, 0, 10) :: ([])) (uR (zR R 10) 9 0 10) := hK5.u rfl
  have hF8 : FR 9 R (uR (zR R 10) 9 0 10) := hF6.u rfl
  have hB9 : BZ (uI (zI I 10) 9 1 4) := hB1.kw rfl rfl rfl
  have hZ10 : KI ((9, 1, 4) :: ([])) (uI (zI I 10) 9 1 4) := hZ2.u rfl
  have hI11 : FI 9 I (uI (zI I 10) 9 1 4) := hI3.w rfl
  have hB12 : BZ (uI (uI (zI I 10) 9 1 4) 9 2 1073741823) := hB9.kw rfl rfl rfl
  have hZ13 : KI ((9, 2, 1073741823) :: ((9, 1, 4) :: ([]))) (uI (uI (zI I 10) 9 1 4) 9 2 1073741823) := hZ10.u rfl
  have hI14 : FI 9 I (uI (uI (zI I 10) 9 1 4) 9 2 1073741823) := hI11.w rfl
  have hB15 : BZ (uI (uI (uI (zI I 10) 9 1 4) 9 2 1073741823) 9 3 0) := hB12.kw rfl rfl rfl
  have hZ16 : KI ((9, 2, 1073741823) :: ((9, 1, 4) :: ([]))) (uI (uI (uI (zI I 10) 9 1 4) 9 2 1073741823) 9 3 0) := hZ13.w rfl
  have hI17 : FI 9 I (uI (uI (uI (zI I 10) 9 1 4) 9 2 1073741823) 9 3 0) := hI14.w rfl
  have hB18 : BZ (uI (uI (uI (uI (zI I 10) 9 1 4) 9 2 1073741823) 9 3 0) 9 4 0) := hB15.kw rfl rfl rfl
  have hZ19 : KI ((9, 2, 1073741823) :: ((9, 1, 4) :: ([]))) (uI (uI (uI (uI (zI I 10) 9 1 4) 9 2 1073741823) 9 3 0) 9 4 0) := hZ16.w rfl
  have hI20 : FI 9 I (uI (uI (uI (uI (zI I 10) 9 1 4) 9 2 1073741823) 9 3 0) 9 4 0) := hI17.w rfl
  refine ⟨rfl, ?_⟩
  have hB21 : BZ (zI (uI (uI (uI (uI (zI I 10) 9 1 4) 9 2 1073741823) 9 3 0) 9 4 0) 11) := hB18.z
  have hZ22 : KI ((9, 2, 1073741823) :: ((9, 1, 4) :: ([]))) (zI (uI (uI (uI (uI (zI I 10) 9 1 4) 9 2 1073741823) 9 3 0) 9 4 0) 11) := hZ19.z rfl
  have hI23 : FI 9 I (zI (uI (uI (uI (uI (zI I 10) 9 1 4) 9 2 1073741823) 9 3 0) 9 4 0) 11) := hI20.z rfl
  have hJ24 : FJ 9 J (zJ (zJ J 10) 11) := hJ4.z rfl
  have hK25 : RK ((9, 0, 10) :: ([])) (zR (uR (zR R 10) 9 0 10) 11) := hK7.z rfl
  have hF26 : FR 9 R (zR (uR (zR R 10) 9 0 10) 11) := hF8.z rfl
  have hK27 : RK ((9, 5, 11) :: ((9, 0, 10) :: ([]))) (uR (zR (uR (zR R 10) 9 0 10) 11) 9 5 11) := hK25.u rfl
  have hF28 : FR 9 R (uR (zR (uR (zR R 10) 9 0 10) 11) 9 5 11) := hF26.u rfl
  refine ⟨rfl, ?_⟩
  have hB29 : BZ (zI (zI (uI (uI (uI (uI (zI I 10) 9 1 4) 9 2 1073741823) 9 3 0) 9 4 0) 11) 12) := hB21.z
  have hZ30 : KI ((9, 2, 1073741823) :: ((9, 1, 4) :: ([]))) (zI (zI (uI (uI (uI (uI (zI I 10) 9 1 4) 9 2 1073741823) 9 3 0) 9 4 0) 11) 12) := hZ22.z rfl
  have hI31 : FI 9 I (zI (zI (uI (uI (uI (uI (zI I 10) 9 1 4) 9 2 1073741823) 9 3 0) 9 4 0) 11) 12) := hI23.z rfl
  have hJ32 : FJ 9 J (zJ (zJ (zJ J 10) 11) 12) := hJ24.z rfl
  have hK33 : RK ((9, 5, 11) :: ((9, 0, 10) :: ([]))) (zR (uR (zR (uR (zR R 10) 9 0 10) 11) 9 5 11) 12) := hK27.z rfl
  have hF34 : FR 9 R (zR (uR (zR (uR (zR R 10) 9 0 10) 11) 9 5 11) 12) := hF28.z rfl
  have hK35 : RK ((9, 6, 12) :: ((9, 5, 11) :: ((9, 0, 10) :: ([])))) (uR (zR (uR (zR (uR (zR R 10) 9 0 10) 11) 9 5 11) 12) 9 6 12) := hK33.u rfl
  have hF36 : FR 9 R (uR (zR (uR (zR (uR (zR R 10) 9 0 10) 11) 9 5 11) 12) 9 6 12) := hF34.u rfl
  refine ⟨rfl, ?_⟩
  have hB37 : BZ (zI (zI (zI (uI (uI (uI (uI (zI I 10) 9 1 4) 9 2 1073741823) 9 3 0) 9 4 0) 11) 12) 13) := hB29.z
  have hZ38 : KI ((9, 2, 1073741823) :: ((9, 1, 4) :: ([]))) (zI (zI (zI (uI (uI (uI (uI (zI I 10) 9 1 4) 9 2 1073741823) 9 3 0) 9 4 0) 11) 12) 13) := hZ30.z rfl
  have hI39 : FI 9 I (zI (zI (zI (uI (uI (uI (uI (zI I 10) 9 1 4) 9 2 1073741823) 9 3 0) 9 4 0) 11) 12) 13) := hI31.z rfl
  have hJ40 : FJ 9 J (zJ (zJ (zJ (zJ J 10) 11) 12) 13) := hJ32.z rfl
  have hK41 : RK ((9, 6, 12) :: ((9, 5, 11) :: ((9, 0, 10) :: ([])))) (zR (uR (zR (uR (zR (uR (zR R 10) 9 0 10) 11) 9 5 11) 12) 9 6 12) 13) := hK35.z rfl
  have hF42 : FR 9 R (zR (uR (zR (uR (zR (uR (zR R 10) 9 0 10) 11) 9 5 11) 12) 9 6 12) 13) := hF36.z rfl
  have hK43 : RK ((9, 7, 13) :: ((9, 6, 12) :: ((9, 5, 11) :: ((9, 0, 10) :: ([]))))) (uR (zR (uR (zR (uR (zR (uR (zR R 10) 9 0 10) 11) 9 5 11) 12) 9 6 12) 13) 9 7 13) := hK41.u rfl
  have hF44 : FR 9 R (uR (zR (uR (zR (uR (zR (uR (zR R 10) 9 0 10) 11) 9 5 11) 12) 9 6 12) 13) 9 7 13) := hF42.u rfl
  refine ⟨rfl, ?_⟩
  have hB45 : BZ (zI (zI (zI (zI (uI (uI (uI (uI (zI I 10) 9 1 4) 9 2 1073741823) 9 3 0) 9 4 0) 11) 12) 13) 14) := hB37.z
  have hZ46 : KI ((9, 2, 1073741823) :: ((9, 1, 4) :: ([]))) (zI (zI (zI (zI (uI (uI (uI (uI (zI I 10) 9 1 4) 9 2 1073741823) 9 3 0) 9 4 0) 11) 12) 13) 14) := hZ38.z rfl
  have hI47 : FI 9 I (zI (zI (zI (zI (uI (uI (uI (uI (zI I 10) 9 1 4) 9 2 1073741823) 9 3 0) 9 4 0) 11) 12) 13) 14) := hI39.z rfl
  have hJ48 : FJ 9 J (zJ (zJ (zJ (zJ (zJ J 10) 11) 12) 13) 14) := hJ40.z rfl
  have hK49 : RK ((9, 7, 13) :: ((9, 6, 12) :: ((9, 5, 11) :: ((9, 0, 10) :: ([]))))) (zR (uR (zR (uR (zR (uR (zR (uR (zR R 10) 9 0 10) 11) 9 5 11) 12) 9 6 12) 13) 9 7 13) 14) := hK43.z rfl
  have hF50 : FR 9 R (zR (uR (zR (uR (zR (uR (zR (uR (zR R 10) 9 0 10) 11) 9 5 11) 12) 9 6 12) 13) 9 7 13) 14) := hF44.z rfl
  have hK51 : RK ((9, 8, 14) :: ((9, 7, 13) :: ((9, 6, 12) :: ((9, 5, 11) :: ((9, 0, 10) :: ([])))))) (uR (zR (uR (zR (uR (zR (uR (zR (uR (zR R 10) 9 0 10) 11) 9 5 11) 12) 9 6 12) 13) 9 7 13) 14) 9 8 14) := hK49.u rfl
  have hF52 : FR 9 R (uR (zR (uR (zR (uR (zR (uR (zR (uR (zR R 10) 9 0 10) 11) 9 5 11) 12) 9 6 12) 13) 9 7 13) 14) 9 8 14) := hF50.u rfl
  exact ⟨rfl, fun z => absurd z (by decide), hQ _ _ _ hB45 hF52 hK51 hI47 hZ46 hJ48 trivial⟩
noncomputable def zk_X0_init_15 : List (Nat × Nat × Int32) := []
noncomputable def lk_X0_init_15 : List (Nat × Nat × Nat) := (15, 8, 20) :: ((15, 7, 19) :: ((15, 6, 18) :: ((15, 5, 17) :: ((15, 0, 16) :: ([])))))
set_option maxHeartbeats 4000000 in
set_option maxRecDepth 100000 in
theorem ct_X0_init_15 {d : Nat} {Q : Qt} {I : Im} {J : Jm} {R : Rm} (hB : BZ I) (hQ : ∀ (I2 : Im) (J2 : Jm) (R2 : Rm), BZ I2 → FR 15 R R2 → RK lk_X0_init_15 R2 → FI 15 I I2 → KI zk_X0_init_15 I2 → FJ 15 J J2 → True → Q 0 0 I2 J2 R2) : AM (d + 1) 0 15 [.ref 15] I J R Q := by
  refine amc_of (k := kX0_init) rfl rfl rfl rfl rfl rfl (Nat.le_of_ble_eq_true rfl) (fun P hc => ?_)
  refine cs_X0_init_15_0_15 hc _ _ _ ?_
  refine ⟨rfl, ?_⟩
  have hB1 : BZ (zI I 16) := hB.z
  have hZ2 : KI ([]) (zI I 16) := (KI.nil (I := I)).z rfl
  have hI3 : FI 15 I (zI I 16) := (FI.refl 15 I).z rfl
  have hJ4 : FJ 15 J (zJ J 16) := (FJ.refl 15 J).z rfl
  have hK5 : RK ([]) (zR R 16) := (RK.nil (R := R)).z rfl
  have hF6 : FR 15 R (zR R 16) := (FR.refl 15 R).z rfl
  have hK7 : RK ((15, 0, 16) :: ([])) (uR (zR R 16) 15 0 16) := hK5.u rfl
  have hF8 : FR 15 R (uR (zR R 16) 15 0 16) := hF6.u rfl
  have hB9 : BZ (uI (zI I 16) 15 1 4) := hB1.kw rfl rfl rfl
  have hZ10 : KI ([]) (uI (zI I 16) 15 1 4) := hZ2.w rfl
  have hI11 : FI 15 I (uI (zI I 16) 15 1 4) := hI3.w rfl
  have hB12 : BZ (uI (uI (zI I 16) 15 1 4) 15 2 1073741823) := hB9.kw rfl rfl rfl
  have hZ13 : KI ([]) (uI (uI (zI I 16) 15 1 4) 15 2 1073741823) := hZ10.w rfl
  have hI14 : FI 15 I (uI (uI (zI I 16) 15 1 4) 15 2 1073741823) := hI11.w rfl
  have hB15 : BZ (uI (uI (uI (zI I 16) 15 1 4) 15 2 1073741823) 15 3 0) := hB12.kw rfl rfl rfl
  have hZ16 : KI ([]) (uI (uI (uI (zI I 16) 15 1 4) 15 2 1073741823) 15 3 0) := hZ13.w rfl
  have hI17 : FI 15 I (uI (uI (uI (zI I 16) 15 1 4) 15 2 1073741823) 15 3 0) := hI14.w rfl
  have hB18 : BZ (uI (uI (uI (uI (zI I 16) 15 1 4) 15 2 1073741823) 15 3 0) 15 4 0) := hB15.kw rfl rfl rfl
  have hZ19 : KI ([]) (uI (uI (uI (uI (zI I 16) 15 1 4) 15 2 1073741823) 15 3 0) 15 4 0) := hZ16.w rfl
  have hI20 : FI 15 I (uI (uI (uI (uI (zI I 16) 15 1 4) 15 2 1073741823) 15 3 0) 15 4 0) := hI17.w rfl
  refine ⟨rfl, ?_⟩
  have hB21 : BZ (zI (uI (uI (uI (uI (zI I 16) 15 1 4) 15 2 1073741823) 15 3 0) 15 4 0) 17) := hB18.z
  have hZ22 : KI ([]) (zI (uI (uI (uI (uI (zI I 16) 15 1 4) 15 2 1073741823) 15 3 0) 15 4 0) 17) := hZ19.z rfl
  have hI23 : FI 15 I (zI (uI (uI (uI (uI (zI I 16) 15 1 4) 15 2 1073741823) 15 3 0) 15 4 0) 17) := hI20.z rfl
  have hJ24 : FJ 15 J (zJ (zJ J 16) 17) := hJ4.z rfl
  have hK25 : RK ((15, 0, 16) :: ([])) (zR (uR (zR R 16) 15 0 16) 17) := hK7.z rfl
  have hF26 : FR 15 R (zR (uR (zR R 16) 15 0 16) 17) := hF8.z rfl
  have hK27 : RK ((15, 5, 17) :: ((15, 0, 16) :: ([]))) (uR (zR (uR (zR R 16) 15 0 16) 17) 15 5 17) := hK25.u rfl
  have hF28 : FR 15 R (uR (zR (uR (zR R 16) 15 0 16) 17) 15 5 17) := hF26.u rfl
  refine ⟨rfl, ?_⟩
  have hB29 : BZ (zI (zI (uI (uI (uI (uI (zI I 16) 15 1 4) 15 2 1073741823) 15 3 0) 15 4 0) 17) 18) := hB21.z
  have hZ30 : KI ([]) (zI (zI (uI (uI (uI (uI (zI I 16) 15 1 4) 15 2 1073741823) 15 3 0) 15 4 0) 17) 18) := hZ22.z rfl
  have hI31 : FI 15 I (zI (zI (uI (uI (uI (uI (zI I 16) 15 1 4) 15 2 1073741823) 15 3 0) 15 4 0) 17) 18) := hI23.z rfl
  have hJ32 : FJ 15 J (zJ (zJ (zJ J 16) 17) 18) := hJ24.z rfl
  have hK33 : RK ((15, 5, 17) :: ((15, 0, 16) :: ([]))) (zR (uR (zR (uR (zR R 16) 15 0 16) 17) 15 5 17) 18) := hK27.z rfl
  have hF34 : FR 15 R (zR (uR (zR (uR (zR R 16) 15 0 16) 17) 15 5 17) 18) := hF28.z rfl
  have hK35 : RK ((15, 6, 18) :: ((15, 5, 17) :: ((15, 0, 16) :: ([])))) (uR (zR (uR (zR (uR (zR R 16) 15 0 16) 17) 15 5 17) 18) 15 6 18) := hK33.u rfl
  have hF36 : FR 15 R (uR (zR (uR (zR (uR (zR R 16) 15 0 16) 17) 15 5 17) 18) 15 6 18) := hF34.u rfl
  refine ⟨rfl, ?_⟩
  have hB37 : BZ (zI (zI (zI (uI (uI (uI (uI (zI I 16) 15 1 4) 15 2 1073741823) 15 3 0) 15 4 0) 17) 18) 19) := hB29.z
  have hZ38 : KI ([]) (zI (zI (zI (uI (uI (uI (uI (zI I 16) 15 1 4) 15 2 1073741823) 15 3 0) 15 4 0) 17) 18) 19) := hZ30.z rfl
  have hI39 : FI 15 I (zI (zI (zI (uI (uI (uI (uI (zI I 16) 15 1 4) 15 2 1073741823) 15 3 0) 15 4 0) 17) 18) 19) := hI31.z rfl
  have hJ40 : FJ 15 J (zJ (zJ (zJ (zJ J 16) 17) 18) 19) := hJ32.z rfl
  have hK41 : RK ((15, 6, 18) :: ((15, 5, 17) :: ((15, 0, 16) :: ([])))) (zR (uR (zR (uR (zR (uR (zR R 16) 15 0 16) 17) 15 5 17) 18) 15 6 18) 19) := hK35.z rfl
  have hF42 : FR 15 R (zR (uR (zR (uR (zR (uR (zR R 16) 15 0 16) 17) 15 5 17) 18) 15 6 18) 19) := hF36.z rfl
  have hK43 : RK ((15, 7, 19) :: ((15, 6, 18) :: ((15, 5, 17) :: ((15, 0, 16) :: ([]))))) (uR (zR (uR (zR (uR (zR (uR (zR R 16) 15 0 16) 17) 15 5 17) 18) 15 6 18) 19) 15 7 19) := hK41.u rfl
  have hF44 : FR 15 R (uR (zR (uR (zR (uR (zR (uR (zR R 16) 15 0 16) 17) 15 5 17) 18) 15 6 18) 19) 15 7 19) := hF42.u rfl
  refine ⟨rfl, ?_⟩
  have hB45 : BZ (zI (zI (zI (zI (uI (uI (uI (uI (zI I 16) 15 1 4) 15 2 1073741823) 15 3 0) 15 4 0) 17) 18) 19) 20) := hB37.z
  have hZ46 : KI ([]) (zI (zI (zI (zI (uI (uI (uI (uI (zI I 16) 15 1 4) 15 2 1073741823) 15 3 0) 15 4 0) 17) 18) 19) 20) := hZ38.z rfl
  have hI47 : FI 15 I (zI (zI (zI (zI (uI (uI (uI (uI (zI I 16) 15 1 4) 15 2 1073741823) 15 3 0) 15 4 0) 17) 18) 19) 20) := hI39.z rfl
  have hJ48 : FJ 15 J (zJ (zJ (zJ (zJ (zJ J 16) 17) 18) 19) 20) := hJ40.z rfl
  have hK49 : RK ((15, 7, 19) :: ((15, 6, 18) :: ((15, 5, 17) :: ((15, 0, 16) :: ([]))))) (zR (uR (zR (uR (zR (uR (zR (uR (zR R 16) 15 0 16) 17) 15 5 17) 18) 15 6 18) 19) 15 7 19) 20) := hK43.z rfl
  have hF50 : FR 15 R (zR (uR (zR (uR (zR (uR (zR (uR (zR R 16) 15 0 16) 17) 15 5 17) 18) 15 6 18) 19) 15 7 19) 20) := hF44.z rfl
  have hK51 : RK ((15, 8, 20) :: ((15, 7, 19) :: ((15, 6, 18) :: ((15, 5, 17) :: ((15, 0, 16) :: ([])))))) (uR (zR (uR (zR (uR (zR (uR (zR (uR (zR R 16) 15 0 16) 17) 15 5 17) 18) 15 6 18) 19) 15 7 19) 20) 15 8 20) := hK49.u rfl
  have hF52 : FR 15 R (uR (zR (uR (zR (uR (zR (uR (zR (uR (zR R 16) 15 0 16) 17) 15 5 17) 18) 15 6 18) 19) 15 7 19) 20) 15 8 20) := hF50.u rfl
  exact ⟨rfl, fun z => absurd z (by decide), hQ _ _ _ hB45 hF52 hK51 hI47 hZ46 hJ48 trivial⟩
noncomputable def zk_X2_init_21 : List (Nat × Nat × Int32) := []
noncomputable def lk_X2_init_21 : List (Nat × Nat × Nat) := (21, 7, 26) :: ((21, 6, 25) :: ((21, 5, 24) :: ((21, 4, 23) :: ((21, 3, 22) :: ([])))))
set_option maxHeartbeats 4000000 in
set_option maxRecDepth 100000 in
theorem ct_X2_init_21 {d : Nat} {Q : Qt} {I : Im} {J : Jm} {R : Rm} (hB : BZ I) (hQ : ∀ (I2 : Im) (J2 : Jm) (R2 : Rm), BZ I2 → FR 21 R R2 → RK lk_X2_init_21 R2 → FI 21 I I2 → KI zk_X2_init_21 I2 → FJ 21 J J2 → True → Q 0 0 I2 J2 R2) : AM (d + 1) 27 21 [.ref 21] I J R Q := by
  refine amc_of (k := kX2_init) rfl rfl rfl rfl rfl rfl (Nat.le_of_ble_eq_true rfl) (fun P hc => ?_)
  refine cs_X2_init_21_0_21 hc _ _ _ ?_
  refine ⟨Or.inl rfl, ?_⟩
  have hB1 : BZ (uI I 21 0 0) := hB.kw rfl rfl rfl
  have hZ2 : KI ([]) (uI I 21 0 0) := (KI.nil (I := I)).w rfl
  have hI3 : FI 21 I (uI I 21 0 0) := (FI.refl 21 I).w rfl
  have hB4 : BZ (uI (uI I 21 0 0) 21 1 0) := hB1.kw rfl rfl rfl
  have hZ5 : KI ([]) (uI (uI I 21 0 0) 21 1 0) := hZ2.w rfl
  have hI6 : FI 21 I (uI (uI I 21 0 0) 21 1 0) := hI3.w rfl
  have hB7 : BZ (uI (uI (uI I 21 0 0) 21 1 0) 21 2 0) := hB4.kw rfl rfl rfl
  have hZ8 : KI ([]) (uI (uI (uI I 21 0 0) 21 1 0) 21 2 0) := hZ5.w rfl
  have hI9 : FI 21 I (uI (uI (uI I 21 0 0) 21 1 0) 21 2 0) := hI6.w rfl
  refine ⟨rfl, ?_⟩
  have hB10 : BZ (zI (uI (uI (uI I 21 0 0) 21 1 0) 21 2 0) 22) := hB7.z
  have hZ11 : KI ([]) (zI (uI (uI (uI I 21 0 0) 21 1 0) 21 2 0) 22) := hZ8.z rfl
  have hI12 : FI 21 I (zI (uI (uI (uI I 21 0 0) 21 1 0) 21 2 0) 22) := hI9.z rfl
  have hJ13 : FJ 21 J (zJ J 22) := (FJ.refl 21 J).z rfl
  have hK14 : RK ([]) (zR R 22) := (RK.nil (R := R)).z rfl
  have hF15 : FR 21 R (zR R 22) := (FR.refl 21 R).z rfl
  have hK16 : RK ((21, 3, 22) :: ([])) (uR (zR R 22) 21 3 22) := hK14.u rfl
  have hF17 : FR 21 R (uR (zR R 22) 21 3 22) := hF15.u rfl
  refine ⟨rfl, ?_⟩
  have hB18 : BZ (zI (zI (uI (uI (uI I 21 0 0) 21 1 0) 21 2 0) 22) 23) := hB10.z
  have hZ19 : KI ([]) (zI (zI (uI (uI (uI I 21 0 0) 21 1 0) 21 2 0) 22) 23) := hZ11.z rfl
  have hI20 : FI 21 I (zI (zI (uI (uI (uI I 21 0 0) 21 1 0) 21 2 0) 22) 23) := hI12.z rfl
  have hJ21 : FJ 21 J (zJ (zJ J 22) 23) := hJ13.z rfl
  have hK22 : RK ((21, 3, 22) :: ([])) (zR (uR (zR R 22) 21 3 22) 23) := hK16.z rfl
  have hF23 : FR 21 R (zR (uR (zR R 22) 21 3 22) 23) := hF17.z rfl
  have hK24 : RK ((21, 4, 23) :: ((21, 3, 22) :: ([]))) (uR (zR (uR (zR R 22) 21 3 22) 23) 21 4 23) := hK22.u rfl
  have hF25 : FR 21 R (uR (zR (uR (zR R 22) 21 3 22) 23) 21 4 23) := hF23.u rfl
  refine ⟨rfl, ?_⟩
  have hB26 : BZ (zI (zI (zI (uI (uI (uI I 21 0 0) 21 1 0) 21 2 0) 22) 23) 24) := hB18.z
  have hZ27 : KI ([]) (zI (zI (zI (uI (uI (uI I 21 0 0) 21 1 0) 21 2 0) 22) 23) 24) := hZ19.z rfl
  have hI28 : FI 21 I (zI (zI (zI (uI (uI (uI I 21 0 0) 21 1 0) 21 2 0) 22) 23) 24) := hI20.z rfl
  have hJ29 : FJ 21 J (zJ (zJ (zJ J 22) 23) 24) := hJ21.z rfl
  have hK30 : RK ((21, 4, 23) :: ((21, 3, 22) :: ([]))) (zR (uR (zR (uR (zR R 22) 21 3 22) 23) 21 4 23) 24) := hK24.z rfl
  have hF31 : FR 21 R (zR (uR (zR (uR (zR R 22) 21 3 22) 23) 21 4 23) 24) := hF25.z rfl
  have hK32 : RK ((21, 5, 24) :: ((21, 4, 23) :: ((21, 3, 22) :: ([])))) (uR (zR (uR (zR (uR (zR R 22) 21 3 22) 23) 21 4 23) 24) 21 5 24) := hK30.u rfl
  have hF33 : FR 21 R (uR (zR (uR (zR (uR (zR R 22) 21 3 22) 23) 21 4 23) 24) 21 5 24) := hF31.u rfl
  refine ⟨rfl, ?_⟩
  have hB34 : BZ (zI (zI (zI (zI (uI (uI (uI I 21 0 0) 21 1 0) 21 2 0) 22) 23) 24) 25) := hB26.z
  have hZ35 : KI ([]) (zI (zI (zI (zI (uI (uI (uI I 21 0 0) 21 1 0) 21 2 0) 22) 23) 24) 25) := hZ27.z rfl
  have hI36 : FI 21 I (zI (zI (zI (zI (uI (uI (uI I 21 0 0) 21 1 0) 21 2 0) 22) 23) 24) 25) := hI28.z rfl
  have hJ37 : FJ 21 J (zJ (zJ (zJ (zJ J 22) 23) 24) 25) := hJ29.z rfl
  have hK38 : RK ((21, 5, 24) :: ((21, 4, 23) :: ((21, 3, 22) :: ([])))) (zR (uR (zR (uR (zR (uR (zR R 22) 21 3 22) 23) 21 4 23) 24) 21 5 24) 25) := hK32.z rfl
  have hF39 : FR 21 R (zR (uR (zR (uR (zR (uR (zR R 22) 21 3 22) 23) 21 4 23) 24) 21 5 24) 25) := hF33.z rfl
  have hK40 : RK ((21, 6, 25) :: ((21, 5, 24) :: ((21, 4, 23) :: ((21, 3, 22) :: ([]))))) (uR (zR (uR (zR (uR (zR (uR (zR R 22) 21 3 22) 23) 21 4 23) 24) 21 5 24) 25) 21 6 25) := hK38.u rfl
  have hF41 : FR 21 R (uR (zR (uR (zR (uR (zR (uR (zR R 22) 21 3 22) 23) 21 4 23) 24) 21 5 24) 25) 21 6 25) := hF39.u rfl
  refine ⟨rfl, ?_⟩
  have hB42 : BZ (zI (zI (zI (zI (zI (uI (uI (uI I 21 0 0) 21 1 0) 21 2 0) 22) 23) 24) 25) 26) := hB34.z
  have hZ43 : KI ([]) (zI (zI (zI (zI (zI (uI (uI (uI I 21 0 0) 21 1 0) 21 2 0) 22) 23) 24) 25) 26) := hZ35.z rfl
  have hI44 : FI 21 I (zI (zI (zI (zI (zI (uI (uI (uI I 21 0 0) 21 1 0) 21 2 0) 22) 23) 24) 25) 26) := hI36.z rfl
  have hJ45 : FJ 21 J (zJ (zJ (zJ (zJ (zJ J 22) 23) 24) 25) 26) := hJ37.z rfl
  have hK46 : RK ((21, 6, 25) :: ((21, 5, 24) :: ((21, 4, 23) :: ((21, 3, 22) :: ([]))))) (zR (uR (zR (uR (zR (uR (zR (uR (zR R 22) 21 3 22) 23) 21 4 23) 24) 21 5 24) 25) 21 6 25) 26) := hK40.z rfl
  have hF47 : FR 21 R (zR (uR (zR (uR (zR (uR (zR (uR (zR R 22) 21 3 22) 23) 21 4 23) 24) 21 5 24) 25) 21 6 25) 26) := hF41.z rfl
  have hK48 : RK ((21, 7, 26) :: ((21, 6, 25) :: ((21, 5, 24) :: ((21, 4, 23) :: ((21, 3, 22) :: ([])))))) (uR (zR (uR (zR (uR (zR (uR (zR (uR (zR R 22) 21 3 22) 23) 21 4 23) 24) 21 5 24) 25) 21 6 25) 26) 21 7 26) := hK46.u rfl
  have hF49 : FR 21 R (uR (zR (uR (zR (uR (zR (uR (zR (uR (zR R 22) 21 3 22) 23) 21 4 23) 24) 21 5 24) 25) 21 6 25) 26) 21 7 26) := hF47.u rfl
  exact ⟨rfl, fun z => absurd z (by decide), hQ _ _ _ hB42 hF49 hK48 hI44 hZ43 hJ45 trivial⟩
noncomputable def zk_X2_init_27 : List (Nat × Nat × Int32) := []
noncomputable def lk_X2_init_27 : List (Nat × Nat × Nat) := (27, 7, 32) :: ((27, 6, 31) :: ((27, 5, 30) :: ((27, 4, 29) :: ((27, 3, 28) :: ([])))))
set_option maxHeartbeats 4000000 in
set_option maxRecDepth 100000 in
theorem ct_X2_init_27 {d : Nat} {Q : Qt} {I : Im} {J : Jm} {R : Rm} (hB : BZ I) (hQ : ∀ (I2 : Im) (J2 : Jm) (R2 : Rm), BZ I2 → FR 27 R R2 → RK lk_X2_init_27 R2 → FI 27 I I2 → KI zk_X2_init_27 I2 → FJ 27 J J2 → True → Q 0 0 I2 J2 R2) : AM (d + 1) 27 27 [.ref 27] I J R Q := by
  refine amc_of (k := kX2_init) rfl rfl rfl rfl rfl rfl (Nat.le_of_ble_eq_true rfl) (fun P hc => ?_)
  refine cs_X2_init_27_0_27 hc _ _ _ ?_
  refine ⟨Or.inl rfl, ?_⟩
  have hB1 : BZ (uI I 27 0 0) := hB.kw rfl rfl rfl
  have hZ2 : KI ([]) (uI I 27 0 0) := (KI.nil (I := I)).w rfl
  have hI3 : FI 27 I (uI I 27 0 0) := (FI.refl 27 I).w rfl
  have hB4 : BZ (uI (uI I 27 0 0) 27 1 0) := hB1.kw rfl rfl rfl
  have hZ5 : KI ([]) (uI (uI I 27 0 0) 27 1 0) := hZ2.w rfl
  have hI6 : FI 27 I (uI (uI I 27 0 0) 27 1 0) := hI3.w rfl
  have hB7 : BZ (uI (uI (uI I 27 0 0) 27 1 0) 27 2 0) := hB4.kw rfl rfl rfl
  have hZ8 : KI ([]) (uI (uI (uI I 27 0 0) 27 1 0) 27 2 0) := hZ5.w rfl
  have hI9 : FI 27 I (uI (uI (uI I 27 0 0) 27 1 0) 27 2 0) := hI6.w rfl
  refine ⟨rfl, ?_⟩
  have hB10 : BZ (zI (uI (uI (uI I 27 0 0) 27 1 0) 27 2 0) 28) := hB7.z
  have hZ11 : KI ([]) (zI (uI (uI (uI I 27 0 0) 27 1 0) 27 2 0) 28) := hZ8.z rfl
  have hI12 : FI 27 I (zI (uI (uI (uI I 27 0 0) 27 1 0) 27 2 0) 28) := hI9.z rfl
  have hJ13 : FJ 27 J (zJ J 28) := (FJ.refl 27 J).z rfl
  have hK14 : RK ([]) (zR R 28) := (RK.nil (R := R)).z rfl
  have hF15 : FR 27 R (zR R 28) := (FR.refl 27 R).z rfl
  have hK16 : RK ((27, 3, 28) :: ([])) (uR (zR R 28) 27 3 28) := hK14.u rfl
  have hF17 : FR 27 R (uR (zR R 28) 27 3 28) := hF15.u rfl
  refine ⟨rfl, ?_⟩
  have hB18 : BZ (zI (zI (uI (uI (uI I 27 0 0) 27 1 0) 27 2 0) 28) 29) := hB10.z
  have hZ19 : KI ([]) (zI (zI (uI (uI (uI I 27 0 0) 27 1 0) 27 2 0) 28) 29) := hZ11.z rfl
  have hI20 : FI 27 I (zI (zI (uI (uI (uI I 27 0 0) 27 1 0) 27 2 0) 28) 29) := hI12.z rfl
  have hJ21 : FJ 27 J (zJ (zJ J 28) 29) := hJ13.z rfl
  have hK22 : RK ((27, 3, 28) :: ([])) (zR (uR (zR R 28) 27 3 28) 29) := hK16.z rfl
  have hF23 : FR 27 R (zR (uR (zR R 28) 27 3 28) 29) := hF17.z rfl
  have hK24 : RK ((27, 4, 29) :: ((27, 3, 28) :: ([]))) (uR (zR (uR (zR R 28) 27 3 28) 29) 27 4 29) := hK22.u rfl
  have hF25 : FR 27 R (uR (zR (uR (zR R 28) 27 3 28) 29) 27 4 29) := hF23.u rfl
  refine ⟨rfl, ?_⟩
  have hB26 : BZ (zI (zI (zI (uI (uI (uI I 27 0 0) 27 1 0) 27 2 0) 28) 29) 30) := hB18.z
  have hZ27 : KI ([]) (zI (zI (zI (uI (uI (uI I 27 0 0) 27 1 0) 27 2 0) 28) 29) 30) := hZ19.z rfl
  have hI28 : FI 27 I (zI (zI (zI (uI (uI (uI I 27 0 0) 27 1 0) 27 2 0) 28) 29) 30) := hI20.z rfl
  have hJ29 : FJ 27 J (zJ (zJ (zJ J 28) 29) 30) := hJ21.z rfl
  have hK30 : RK ((27, 4, 29) :: ((27, 3, 28) :: ([]))) (zR (uR (zR (uR (zR R 28) 27 3 28) 29) 27 4 29) 30) := hK24.z rfl
  have hF31 : FR 27 R (zR (uR (zR (uR (zR R 28) 27 3 28) 29) 27 4 29) 30) := hF25.z rfl
  have hK32 : RK ((27, 5, 30) :: ((27, 4, 29) :: ((27, 3, 28) :: ([])))) (uR (zR (uR (zR (uR (zR R 28) 27 3 28) 29) 27 4 29) 30) 27 5 30) := hK30.u rfl
  have hF33 : FR 27 R (uR (zR (uR (zR (uR (zR R 28) 27 3 28) 29) 27 4 29) 30) 27 5 30) := hF31.u rfl
  refine ⟨rfl, ?_⟩
  have hB34 : BZ (zI (zI (zI (zI (uI (uI (uI I 27 0 0) 27 1 0) 27 2 0) 28) 29) 30) 31) := hB26.z
  have hZ35 : KI ([]) (zI (zI (zI (zI (uI (uI (uI I 27 0 0) 27 1 0) 27 2 0) 28) 29) 30) 31) := hZ27.z rfl
  have hI36 : FI 27 I (zI (zI (zI (zI (uI (uI (uI I 27 0 0) 27 1 0) 27 2 0) 28) 29) 30) 31) := hI28.z rfl
  have hJ37 : FJ 27 J (zJ (zJ (zJ (zJ J 28) 29) 30) 31) := hJ29.z rfl
  have hK38 : RK ((27, 5, 30) :: ((27, 4, 29) :: ((27, 3, 28) :: ([])))) (zR (uR (zR (uR (zR (uR (zR R 28) 27 3 28) 29) 27 4 29) 30) 27 5 30) 31) := hK32.z rfl
  have hF39 : FR 27 R (zR (uR (zR (uR (zR (uR (zR R 28) 27 3 28) 29) 27 4 29) 30) 27 5 30) 31) := hF33.z rfl
  have hK40 : RK ((27, 6, 31) :: ((27, 5, 30) :: ((27, 4, 29) :: ((27, 3, 28) :: ([]))))) (uR (zR (uR (zR (uR (zR (uR (zR R 28) 27 3 28) 29) 27 4 29) 30) 27 5 30) 31) 27 6 31) := hK38.u rfl
  have hF41 : FR 27 R (uR (zR (uR (zR (uR (zR (uR (zR R 28) 27 3 28) 29) 27 4 29) 30) 27 5 30) 31) 27 6 31) := hF39.u rfl
  refine ⟨rfl, ?_⟩
  have hB42 : BZ (zI (zI (zI (zI (zI (uI (uI (uI I 27 0 0) 27 1 0) 27 2 0) 28) 29) 30) 31) 32) := hB34.z
  have hZ43 : KI ([]) (zI (zI (zI (zI (zI (uI (uI (uI I 27 0 0) 27 1 0) 27 2 0) 28) 29) 30) 31) 32) := hZ35.z rfl
  have hI44 : FI 27 I (zI (zI (zI (zI (zI (uI (uI (uI I 27 0 0) 27 1 0) 27 2 0) 28) 29) 30) 31) 32) := hI36.z rfl
  have hJ45 : FJ 27 J (zJ (zJ (zJ (zJ (zJ J 28) 29) 30) 31) 32) := hJ37.z rfl
  have hK46 : RK ((27, 6, 31) :: ((27, 5, 30) :: ((27, 4, 29) :: ((27, 3, 28) :: ([]))))) (zR (uR (zR (uR (zR (uR (zR (uR (zR R 28) 27 3 28) 29) 27 4 29) 30) 27 5 30) 31) 27 6 31) 32) := hK40.z rfl
  have hF47 : FR 27 R (zR (uR (zR (uR (zR (uR (zR (uR (zR R 28) 27 3 28) 29) 27 4 29) 30) 27 5 30) 31) 27 6 31) 32) := hF41.z rfl
  have hK48 : RK ((27, 7, 32) :: ((27, 6, 31) :: ((27, 5, 30) :: ((27, 4, 29) :: ((27, 3, 28) :: ([])))))) (uR (zR (uR (zR (uR (zR (uR (zR (uR (zR R 28) 27 3 28) 29) 27 4 29) 30) 27 5 30) 31) 27 6 31) 32) 27 7 32) := hK46.u rfl
  have hF49 : FR 27 R (uR (zR (uR (zR (uR (zR (uR (zR (uR (zR R 28) 27 3 28) 29) 27 4 29) 30) 27 5 30) 31) 27 6 31) 32) 27 7 32) := hF47.u rfl
  exact ⟨rfl, fun z => absurd z (by decide), hQ _ _ _ hB42 hF49 hK48 hI44 hZ43 hJ45 trivial⟩
noncomputable def zk_X7_init_35 : List (Nat × Nat × Int32) := []
noncomputable def lk_X7_init_35 : List (Nat × Nat × Nat) := (35, 7, 38) :: ((35, 4, 37) :: ((35, 3, 36) :: ([])))
set_option maxHeartbeats 4000000 in
set_option maxRecDepth 100000 in
theorem ct_X7_init_35 {d : Nat} {Q : Qt} {I : Im} {J : Jm} {R : Rm} (hB : BZ I) (hQ : ∀ (I2 : Im) (J2 : Jm) (R2 : Rm), BZ I2 → FR 35 R R2 → RK lk_X7_init_35 R2 → FI 35 I I2 → KI zk_X7_init_35 I2 → FJ 35 J J2 → True → Q 0 0 I2 J2 R2) : AM (d + 1) 74 35 [.ref 35] I J R Q := by
  refine amc_of (k := kX7_init) rfl rfl rfl rfl rfl rfl (Nat.le_of_ble_eq_true rfl) (fun P hc => ?_)
  refine cs_X7_init_35_0_35 hc _ _ _ ?_
  have hB1 : BZ (uI I 35 0 0) := hB.kw rfl rfl rfl
  have hZ2 : KI ([]) (uI I 35 0 0) := (KI.nil (I := I)).w rfl
  have hI3 : FI 35 I (uI I 35 0 0) := (FI.refl 35 I).w rfl
  have hB4 : BZ (uI (uI I 35 0 0) 35 1 0) := hB1.kw rfl rfl rfl
  have hZ5 : KI ([]) (uI (uI I 35 0 0) 35 1 0) := hZ2.w rfl
  have hI6 : FI 35 I (uI (uI I 35 0 0) 35 1 0) := hI3.w rfl
  have hB7 : BZ (uI (uI (uI I 35 0 0) 35 1 0) 35 2 0) := hB4.kw rfl rfl rfl
  have hZ8 : KI ([]) (uI (uI (uI I 35 0 0) 35 1 0) 35 2 0) := hZ5.w rfl
  have hI9 : FI 35 I (uI (uI (uI I 35 0 0) 35 1 0) 35 2 0) := hI6.w rfl
  refine ⟨rfl, ?_⟩
  have hB10 : BZ (zI (uI (uI (uI I 35 0 0) 35 1 0) 35 2 0) 36) := hB7.z
  have hZ11 : KI ([]) (zI (uI (uI (uI I 35 0 0) 35 1 0) 35 2 0) 36) := hZ8.z rfl
  have hI12 : FI 35 I (zI (uI (uI (uI I 35 0 0) 35 1 0) 35 2 0) 36) := hI9.z rfl
  have hJ13 : FJ 35 J (zJ J 36) := (FJ.refl 35 J).z rfl
  have hK14 : RK ([]) (zR R 36) := (RK.nil (R := R)).z rfl
  have hF15 : FR 35 R (zR R 36) := (FR.refl 35 R).z rfl
  have hK16 : RK ((35, 3, 36) :: ([])) (uR (zR R 36) 35 3 36) := hK14.u rfl
  have hF17 : FR 35 R (uR (zR R 36) 35 3 36) := hF15.u rfl
  refine ⟨rfl, ?_⟩
  have hB18 : BZ (zI (zI (uI (uI (uI I 35 0 0) 35 1 0) 35 2 0) 36) 37) := hB10.z
  have hZ19 : KI ([]) (zI (zI (uI (uI (uI I 35 0 0) 35 1 0) 35 2 0) 36) 37) := hZ11.z rfl
  have hI20 : FI 35 I (zI (zI (uI (uI (uI I 35 0 0) 35 1 0) 35 2 0) 36) 37) := hI12.z rfl
  have hJ21 : FJ 35 J (zJ (zJ J 36) 37) := hJ13.z rfl
  have hK22 : RK ((35, 3, 36) :: ([])) (zR (uR (zR R 36) 35 3 36) 37) := hK16.z rfl
  have hF23 : FR 35 R (zR (uR (zR R 36) 35 3 36) 37) := hF17.z rfl
  have hK24 : RK ((35, 4, 37) :: ((35, 3, 36) :: ([]))) (uR (zR (uR (zR R 36) 35 3 36) 37) 35 4 37) := hK22.u rfl
  have hF25 : FR 35 R (uR (zR (uR (zR R 36) 35 3 36) 37) 35 4 37) := hF23.u rfl
  have hB26 : BZ (uI (zI (zI (uI (uI (uI I 35 0 0) 35 1 0) 35 2 0) 36) 37) 35 5 0) := hB18.kw rfl rfl rfl
  have hZ27 : KI ([]) (uI (zI (zI (uI (uI (uI I 35 0 0) 35 1 0) 35 2 0) 36) 37) 35 5 0) := hZ19.w rfl
  have hI28 : FI 35 I (uI (zI (zI (uI (uI (uI I 35 0 0) 35 1 0) 35 2 0) 36) 37) 35 5 0) := hI20.w rfl
  have hB29 : BZ (uI (uI (zI (zI (uI (uI (uI I 35 0 0) 35 1 0) 35 2 0) 36) 37) 35 5 0) 35 6 0) := hB26.kw rfl rfl rfl
  have hZ30 : KI ([]) (uI (uI (zI (zI (uI (uI (uI I 35 0 0) 35 1 0) 35 2 0) 36) 37) 35 5 0) 35 6 0) := hZ27.w rfl
  have hI31 : FI 35 I (uI (uI (zI (zI (uI (uI (uI I 35 0 0) 35 1 0) 35 2 0) 36) 37) 35 5 0) 35 6 0) := hI28.w rfl
  refine ⟨rfl, ?_⟩
  have hB32 : BZ (zI (uI (uI (zI (zI (uI (uI (uI I 35 0 0) 35 1 0) 35 2 0) 36) 37) 35 5 0) 35 6 0) 38) := hB29.z
  have hZ33 : KI ([]) (zI (uI (uI (zI (zI (uI (uI (uI I 35 0 0) 35 1 0) 35 2 0) 36) 37) 35 5 0) 35 6 0) 38) := hZ30.z rfl
  have hI34 : FI 35 I (zI (uI (uI (zI (zI (uI (uI (uI I 35 0 0) 35 1 0) 35 2 0) 36) 37) 35 5 0) 35 6 0) 38) := hI31.z rfl
  have hJ35 : FJ 35 J (zJ (zJ (zJ J 36) 37) 38) := hJ21.z rfl
  have hK36 : RK ((35, 4, 37) :: ((35, 3, 36) :: ([]))) (zR (uR (zR (uR (zR R 36) 35 3 36) 37) 35 4 37) 38) := hK24.z rfl
  have hF37 : FR 35 R (zR (uR (zR (uR (zR R 36) 35 3 36) 37) 35 4 37) 38) := hF25.z rfl
  have hK38 : RK ((35, 7, 38) :: ((35, 4, 37) :: ((35, 3, 36) :: ([])))) (uR (zR (uR (zR (uR (zR R 36) 35 3 36) 37) 35 4 37) 38) 35 7 38) := hK36.u rfl
  have hF39 : FR 35 R (uR (zR (uR (zR (uR (zR R 36) 35 3 36) 37) 35 4 37) 38) 35 7 38) := hF37.u rfl
  exact ⟨rfl, fun z => absurd z (by decide), hQ _ _ _ hB32 hF39 hK38 hI34 hZ33 hJ35 trivial⟩
noncomputable def zk_X8_init_39 : List (Nat × Nat × Int32) := []
noncomputable def lk_X8_init_39 : List (Nat × Nat × Nat) := (39, 1, 41) :: ((39, 0, 40) :: ([]))
set_option maxHeartbeats 4000000 in
set_option maxRecDepth 100000 in
theorem ct_X8_init_39 {d : Nat} {Q : Qt} {I : Im} {J : Jm} {R : Rm} (hB : BZ I) (hQ : ∀ (I2 : Im) (J2 : Jm) (R2 : Rm), BZ I2 → FR 39 R R2 → RK lk_X8_init_39 R2 → FI 39 I I2 → KI zk_X8_init_39 I2 → FJ 39 J J2 → True → Q 0 0 I2 J2 R2) : AM (d + 1) 85 39 [.ref 39] I J R Q := by
  refine amc_of (k := kX8_init) rfl rfl rfl rfl rfl rfl (Nat.le_of_ble_eq_true rfl) (fun P hc => ?_)
  refine cs_X8_init_39_0_39 hc _ _ _ ?_
  refine ⟨rfl, ?_⟩
  have hB1 : BZ (zI I 40) := hB.z
  have hZ2 : KI ([]) (zI I 40) := (KI.nil (I := I)).z rfl
  have hI3 : FI 39 I (zI I 40) := (FI.refl 39 I).z rfl
  have hJ4 : FJ 39 J (zJ J 40) := (FJ.refl 39 J).z rfl
  have hK5 : RK ([]) (zR R 40) := (RK.nil (R := R)).z rfl
  have hF6 : FR 39 R (zR R 40) := (FR.refl 39 R).z rfl
  have hK7 : RK ((39, 0, 40) :: ([])) (uR (zR R 40) 39 0 40) := hK5.u rfl
  have hF8 : FR 39 R (uR (zR R 40) 39 0 40) := hF6.u rfl
  refine ⟨rfl, ?_⟩
  have hB9 : BZ (zI (zI I 40) 41) := hB1.z
  have hZ10 : KI ([]) (zI (zI I 40) 41) := hZ2.z rfl
  have hI11 : FI 39 I (zI (zI I 40) 41) := hI3.z rfl
  have hJ12 : FJ 39 J (zJ (zJ J 40) 41) := hJ4.z rfl
  have hK13 : RK ((39, 0, 40) :: ([])) (zR (uR (zR R 40) 39 0 40) 41) := hK7.z rfl
  have hF14 : FR 39 R (zR (uR (zR R 40) 39 0 40) 41) := hF8.z rfl
  have hK15 : RK ((39, 1, 41) :: ((39, 0, 40) :: ([]))) (uR (zR (uR (zR R 40) 39 0 40) 41) 39 1 41) := hK13.u rfl
  have hF16 : FR 39 R (uR (zR (uR (zR R 40) 39 0 40) 41) 39 1 41) := hF14.u rfl
  have hB17 : BZ (uI (zI (zI I 40) 41) 39 2 0) := hB9.kw rfl rfl rfl
  have hZ18 : KI ([]) (uI (zI (zI I 40) 41) 39 2 0) := hZ10.w rfl
  have hI19 : FI 39 I (uI (zI (zI I 40) 41) 39 2 0) := hI11.w rfl
  exact ⟨rfl, fun z => absurd z (by decide), hQ _ _ _ hB17 hF16 hK15 hI19 hZ18 hJ12 trivial⟩
noncomputable def zk_X5_init_42 : List (Nat × Nat × Int32) := []
noncomputable def lk_X5_init_42 : List (Nat × Nat × Nat) := (42, 1, 44) :: ((42, 0, 43) :: ([]))
set_option maxHeartbeats 4000000 in
set_option maxRecDepth 100000 in
theorem ct_X5_init_42 {d : Nat} {Q : Qt} {I : Im} {J : Jm} {R : Rm} (hB : BZ I) (hQ : ∀ (I2 : Im) (J2 : Jm) (R2 : Rm), BZ I2 → FR 42 R R2 → RK lk_X5_init_42 R2 → FI 42 I I2 → KI zk_X5_init_42 I2 → FJ 42 J J2 → True → Q 0 0 I2 J2 R2) : AM (d + 1) 53 42 [.ref 42] I J R Q := by
  refine amc_of (k := kX5_init) rfl rfl rfl rfl rfl rfl (Nat.le_of_ble_eq_true rfl) (fun P hc => ?_)
  refine cs_X5_init_42_0_42 hc _ _ _ ?_
  refine ⟨rfl, ?_⟩
  have hB1 : BZ (zI I 43) := hB.z
  have hZ2 : KI ([]) (zI I 43) := (KI.nil (I := I)).z rfl
  have hI3 : FI 42 I (zI I 43) := (FI.refl 42 I).z rfl
  have hJ4 : FJ 42 J (zJ J 43) := (FJ.refl 42 J).z rfl
  have hK5 : RK ([]) (zR R 43) := (RK.nil (R := R)).z rfl
  have hF6 : FR 42 R (zR R 43) := (FR.refl 42 R).z rfl
  have hK7 : RK ((42, 0, 43) :: ([])) (uR (zR R 43) 42 0 43) := hK5.u rfl
  have hF8 : FR 42 R (uR (zR R 43) 42 0 43) := hF6.u rfl
  refine ⟨rfl, ?_⟩
  have hB9 : BZ (zI (zI I 43) 44) := hB1.z
  have hZ10 : KI ([]) (zI (zI I 43) 44) := hZ2.z rfl
  have hI11 : FI 42 I (zI (zI I 43) 44) := hI3.z rfl
  have hJ12 : FJ 42 J (zJ (zJ J 43) 44) := hJ4.z rfl
  have hK13 : RK ((42, 0, 43) :: ([])) (zR (uR (zR R 43) 42 0 43) 44) := hK7.z rfl
  have hF14 : FR 42 R (zR (uR (zR R 43) 42 0 43) 44) := hF8.z rfl
  have hK15 : RK ((42, 1, 44) :: ((42, 0, 43) :: ([]))) (uR (zR (uR (zR R 43) 42 0 43) 44) 42 1 44) := hK13.u rfl
  have hF16 : FR 42 R (uR (zR (uR (zR R 43) 42 0 43) 44) 42 1 44) := hF14.u rfl
  have hB17 : BZ (uI (zI (zI I 43) 44) 42 2 0) := hB9.kw rfl rfl rfl
  have hZ18 : KI ([]) (uI (zI (zI I 43) 44) 42 2 0) := hZ10.w rfl
  have hI19 : FI 42 I (uI (zI (zI I 43) 44) 42 2 0) := hI11.w rfl
  exact ⟨rfl, fun z => absurd z (by decide), hQ _ _ _ hB17 hF16 hK15 hI19 hZ18 hJ12 trivial⟩
noncomputable def zk_X9_init_45 : List (Nat × Nat × Int32) := []
noncomputable def lk_X9_init_45 : List (Nat × Nat × Nat) := (45, 3, 48) :: ((45, 2, 47) :: ((45, 0, 46) :: ([])))
set_option maxHeartbeats 4000000 in
set_option maxRecDepth 100000 in
theorem ct_X9_init_45 {d : Nat} {Q : Qt} {I : Im} {J : Jm} {R : Rm} (hB : BZ I) (hQ : ∀ (I2 : Im) (J2 : Jm) (R2 : Rm), BZ I2 → FR 45 R R2 → RK lk_X9_init_45 R2 → FI 45 I I2 → KI zk_X9_init_45 I2 → FJ 45 J J2 → J2 47 0 = 0 → Q 0 0 I2 J2 R2) : AM (d + 1) 88 45 [.ref 45] I J R Q := by
  refine amc_of (k := kX9_init) rfl rfl rfl rfl rfl rfl (Nat.le_of_ble_eq_true rfl) (fun P hc => ?_)
  refine cs_X9_init_45_0_45 hc _ _ _ ?_
  refine ⟨rfl, ?_⟩
  have hB1 : BZ (zI I 46) := hB.z
  have hZ2 : KI ([]) (zI I 46) := (KI.nil (I := I)).z rfl
  have hI3 : FI 45 I (zI I 46) := (FI.refl 45 I).z rfl
  have hJ4 : FJ 45 J (zJ J 46) := (FJ.refl 45 J).z rfl
  have hK5 : RK ([]) (zR R 46) := (RK.nil (R := R)).z rfl
  have hF6 : FR 45 R (zR R 46) := (FR.refl 45 R).z rfl
  have hK7 : RK ((45, 0, 46) :: ([])) (uR (zR R 46) 45 0 46) := hK5.u rfl
  have hF8 : FR 45 R (uR (zR R 46) 45 0 46) := hF6.u rfl
  have hB9 : BZ (uI (zI I 46) 45 1 0) := hB1.kw rfl rfl rfl
  have hZ10 : KI ([]) (uI (zI I 46) 45 1 0) := hZ2.w rfl
  have hI11 : FI 45 I (uI (zI I 46) 45 1 0) := hI3.w rfl
  refine ⟨rfl, ?_⟩
  have hB12 : BZ (zI (uI (zI I 46) 45 1 0) 47) := hB9.z
  have hZ13 : KI ([]) (zI (uI (zI I 46) 45 1 0) 47) := hZ10.z rfl
  have hI14 : FI 45 I (zI (uI (zI I 46) 45 1 0) 47) := hI11.z rfl
  have hJ15 : FJ 45 J (zJ (zJ J 46) 47) := hJ4.z rfl
  have jz16 : (zJ (zJ J 46) 47) 47 0 = 0 := rfl
  have hK17 : RK ((45, 0, 46) :: ([])) (zR (uR (zR R 46) 45 0 46) 47) := hK7.z rfl
  have hF18 : FR 45 R (zR (uR (zR R 46) 45 0 46) 47) := hF8.z rfl
  have hK19 : RK ((45, 2, 47) :: ((45, 0, 46) :: ([]))) (uR (zR (uR (zR R 46) 45 0 46) 47) 45 2 47) := hK17.u rfl
  have hF20 : FR 45 R (uR (zR (uR (zR R 46) 45 0 46) 47) 45 2 47) := hF18.u rfl
  refine ⟨rfl, ?_⟩
  have hB21 : BZ (zI (zI (uI (zI I 46) 45 1 0) 47) 48) := hB12.z
  have hZ22 : KI ([]) (zI (zI (uI (zI I 46) 45 1 0) 47) 48) := hZ13.z rfl
  have hI23 : FI 45 I (zI (zI (uI (zI I 46) 45 1 0) 47) 48) := hI14.z rfl
  have hJ24 : FJ 45 J (zJ (zJ (zJ J 46) 47) 48) := hJ15.z rfl
  have jz25 : (zJ (zJ (zJ J 46) 47) 48) 47 0 = 0 := JZ.z jz16 rfl
  have hK26 : RK ((45, 2, 47) :: ((45, 0, 46) :: ([]))) (zR (uR (zR (uR (zR R 46) 45 0 46) 47) 45 2 47) 48) := hK19.z rfl
  have hF27 : FR 45 R (zR (uR (zR (uR (zR R 46) 45 0 46) 47) 45 2 47) 48) := hF20.z rfl
  have hK28 : RK ((45, 3, 48) :: ((45, 2, 47) :: ((45, 0, 46) :: ([])))) (uR (zR (uR (zR (uR (zR R 46) 45 0 46) 47) 45 2 47) 48) 45 3 48) := hK26.u rfl
  have hF29 : FR 45 R (uR (zR (uR (zR (uR (zR R 46) 45 0 46) 47) 45 2 47) 48) 45 3 48) := hF27.u rfl
  exact ⟨rfl, fun z => absurd z (by decide), hQ _ _ _ hB21 hF29 hK28 hI23 hZ22 hJ24 jz25⟩
noncomputable def zk_X4_init_49 : List (Nat × Nat × Int32) := []
noncomputable def lk_X4_init_49 : List (Nat × Nat × Nat) := (49, 8, 50) :: ([])
set_option maxHeartbeats 4000000 in
set_option maxRecDepth 100000 in
theorem ct_X4_init_49 {d : Nat} {Q : Qt} {I : Im} {J : Jm} {R : Rm} (hB : BZ I) (hQ : ∀ (I2 : Im) (J2 : Jm) (R2 : Rm), BZ I2 → FR 49 R R2 → RK lk_X4_init_49 R2 → FI 49 I I2 → KI zk_X4_init_49 I2 → FJ 49 J J2 → True → Q 0 0 I2 J2 R2) : AM (d + 1) 40 49 [.ref 49] I J R Q := by
  refine amc_of (k := kX4_init) rfl rfl rfl rfl rfl rfl (Nat.le_of_ble_eq_true rfl) (fun P hc => ?_)
  refine cs_X4_init_49_0_49 hc _ _ _ ?_
  refine ⟨Or.inl rfl, ?_⟩
  have hB1 : BZ (uI I 49 0 0) := hB.kw rfl rfl rfl
  have hZ2 : KI ([]) (uI I 49 0 0) := (KI.nil (I := I)).w rfl
  have hI3 : FI 49 I (uI I 49 0 0) := (FI.refl 49 I).w rfl
  have hB4 : BZ (uI (uI I 49 0 0) 49 1 0) := hB1.kw rfl rfl rfl
  have hZ5 : KI ([]) (uI (uI I 49 0 0) 49 1 0) := hZ2.w rfl
  have hI6 : FI 49 I (uI (uI I 49 0 0) 49 1 0) := hI3.w rfl
  have hB7 : BZ (uI (uI (uI I 49 0 0) 49 1 0) 49 2 0) := hB4.kw rfl rfl rfl
  have hZ8 : KI ([]) (uI (uI (uI I 49 0 0) 49 1 0) 49 2 0) := hZ5.w rfl
  have hI9 : FI 49 I (uI (uI (uI I 49 0 0) 49 1 0) 49 2 0) := hI6.w rfl
  have hB10 : BZ (uI (uI (uI (uI I 49 0 0) 49 1 0) 49 2 0) 49 3 0) := hB7.kw rfl rfl rfl
  have hZ11 : KI ([]) (uI (uI (uI (uI I 49 0 0) 49 1 0) 49 2 0) 49 3 0) := hZ8.w rfl
  have hI12 : FI 49 I (uI (uI (uI (uI I 49 0 0) 49 1 0) 49 2 0) 49 3 0) := hI9.w rfl
  have hB13 : BZ (uI (uI (uI (uI (uI I 49 0 0) 49 1 0) 49 2 0) 49 3 0) 49 4 0) := hB10.kw rfl rfl rfl
  have hZ14 : KI ([]) (uI (uI (uI (uI (uI I 49 0 0) 49 1 0) 49 2 0) 49 3 0) 49 4 0) := hZ11.w rfl
  have hI15 : FI 49 I (uI (uI (uI (uI (uI I 49 0 0) 49 1 0) 49 2 0) 49 3 0) 49 4 0) := hI12.w rfl
  have hB16 : BZ (uI (uI (uI (uI (uI (uI I 49 0 0) 49 1 0) 49 2 0) 49 3 0) 49 4 0) 49 5 0) := hB13.kw rfl rfl rfl
  have hZ17 : KI ([]) (uI (uI (uI (uI (uI (uI I 49 0 0) 49 1 0) 49 2 0) 49 3 0) 49 4 0) 49 5 0) := hZ14.w rfl
  have hI18 : FI 49 I (uI (uI (uI (uI (uI (uI I 49 0 0) 49 1 0) 49 2 0) 49 3 0) 49 4 0) 49 5 0) := hI15.w rfl
  have hB19 : BZ (uI (uI (uI (uI (uI (uI (uI I 49 0 0) 49 1 0) 49 2 0) 49 3 0) 49 4 0) 49 5 0) 49 6 0) := hB16.kw rfl rfl rfl
  have hZ20 : KI ([]) (uI (uI (uI (uI (uI (uI (uI I 49 0 0) 49 1 0) 49 2 0) 49 3 0) 49 4 0) 49 5 0) 49 6 0) := hZ17.w rfl
  have hI21 : FI 49 I (uI (uI (uI (uI (uI (uI (uI I 49 0 0) 49 1 0) 49 2 0) 49 3 0) 49 4 0) 49 5 0) 49 6 0) := hI18.w rfl
  have hB22 : BZ (uI (uI (uI (uI (uI (uI (uI (uI I 49 0 0) 49 1 0) 49 2 0) 49 3 0) 49 4 0) 49 5 0) 49 6 0) 49 7 0) := hB19.kw rfl rfl rfl
  have hZ23 : KI ([]) (uI (uI (uI (uI (uI (uI (uI (uI I 49 0 0) 49 1 0) 49 2 0) 49 3 0) 49 4 0) 49 5 0) 49 6 0) 49 7 0) := hZ20.w rfl
  have hI24 : FI 49 I (uI (uI (uI (uI (uI (uI (uI (uI I 49 0 0) 49 1 0) 49 2 0) 49 3 0) 49 4 0) 49 5 0) 49 6 0) 49 7 0) := hI21.w rfl
  refine ⟨rfl, ?_⟩
  have hB25 : BZ (zI (uI (uI (uI (uI (uI (uI (uI (uI I 49 0 0) 49 1 0) 49 2 0) 49 3 0) 49 4 0) 49 5 0) 49 6 0) 49 7 0) 50) := hB22.z
  have hZ26 : KI ([]) (zI (uI (uI (uI (uI (uI (uI (uI (uI I 49 0 0) 49 1 0) 49 2 0) 49 3 0) 49 4 0) 49 5 0) 49 6 0) 49 7 0) 50) := hZ23.z rfl
  have hI27 : FI 49 I (zI (uI (uI (uI (uI (uI (uI (uI (uI I 49 0 0) 49 1 0) 49 2 0) 49 3 0) 49 4 0) 49 5 0) 49 6 0) 49 7 0) 50) := hI24.z rfl
  have hJ28 : FJ 49 J (zJ J 50) := (FJ.refl 49 J).z rfl
  have hK29 : RK ([]) (zR R 50) := (RK.nil (R := R)).z rfl
  have hF30 : FR 49 R (zR R 50) := (FR.refl 49 R).z rfl
  have hK31 : RK ((49, 8, 50) :: ([])) (uR (zR R 50) 49 8 50) := hK29.u rfl
  have hF32 : FR 49 R (uR (zR R 50) 49 8 50) := hF30.u rfl
  exact ⟨rfl, fun z => absurd z (by decide), hQ _ _ _ hB25 hF32 hK31 hI27 hZ26 hJ28 trivial⟩
noncomputable def zk_X4_init_51 : List (Nat × Nat × Int32) := []
noncomputable def lk_X4_init_51 : List (Nat × Nat × Nat) := (51, 8, 52) :: ([])
set_option maxHeartbeats 4000000 in
set_option maxRecDepth 100000 in
theorem ct_X4_init_51 {d : Nat} {Q : Qt} {I : Im} {J : Jm} {R : Rm} (hB : BZ I) (hQ : ∀ (I2 : Im) (J2 : Jm) (R2 : Rm), BZ I2 → FR 51 R R2 → RK lk_X4_init_51 R2 → FI 51 I I2 → KI zk_X4_init_51 I2 → FJ 51 J J2 → True → Q 0 0 I2 J2 R2) : AM (d + 1) 40 51 [.ref 51] I J R Q := by
  refine amc_of (k := kX4_init) rfl rfl rfl rfl rfl rfl (Nat.le_of_ble_eq_true rfl) (fun P hc => ?_)
  refine cs_X4_init_51_0_51 hc _ _ _ ?_
  refine ⟨Or.inl rfl, ?_⟩
  have hB1 : BZ (uI I 51 0 0) := hB.kw rfl rfl rfl
  have hZ2 : KI ([]) (uI I 51 0 0) := (KI.nil (I := I)).w rfl
  have hI3 : FI 51 I (uI I 51 0 0) := (FI.refl 51 I).w rfl
  have hB4 : BZ (uI (uI I 51 0 0) 51 1 0) := hB1.kw rfl rfl rfl
  have hZ5 : KI ([]) (uI (uI I 51 0 0) 51 1 0) := hZ2.w rfl
  have hI6 : FI 51 I (uI (uI I 51 0 0) 51 1 0) := hI3.w rfl
  have hB7 : BZ (uI (uI (uI I 51 0 0) 51 1 0) 51 2 0) := hB4.kw rfl rfl rfl
  have hZ8 : KI ([]) (uI (uI (uI I 51 0 0) 51 1 0) 51 2 0) := hZ5.w rfl
  have hI9 : FI 51 I (uI (uI (uI I 51 0 0) 51 1 0) 51 2 0) := hI6.w rfl
  have hB10 : BZ (uI (uI (uI (uI I 51 0 0) 51 1 0) 51 2 0) 51 3 0) := hB7.kw rfl rfl rfl
  have hZ11 : KI ([]) (uI (uI (uI (uI I 51 0 0) 51 1 0) 51 2 0) 51 3 0) := hZ8.w rfl
  have hI12 : FI 51 I (uI (uI (uI (uI I 51 0 0) 51 1 0) 51 2 0) 51 3 0) := hI9.w rfl
  have hB13 : BZ (uI (uI (uI (uI (uI I 51 0 0) 51 1 0) 51 2 0) 51 3 0) 51 4 0) := hB10.kw rfl rfl rfl
  have hZ14 : KI ([]) (uI (uI (uI (uI (uI I 51 0 0) 51 1 0) 51 2 0) 51 3 0) 51 4 0) := hZ11.w rfl
  have hI15 : FI 51 I (uI (uI (uI (uI (uI I 51 0 0) 51 1 0) 51 2 0) 51 3 0) 51 4 0) := hI12.w rfl
  have hB16 : BZ (uI (uI (uI (uI (uI (uI I 51 0 0) 51 1 0) 51 2 0) 51 3 0) 51 4 0) 51 5 0) := hB13.kw rfl rfl rfl
  have hZ17 : KI ([]) (uI (uI (uI (uI (uI (uI I 51 0 0) 51 1 0) 51 2 0) 51 3 0) 51 4 0) 51 5 0) := hZ14.w rfl
  have hI18 : FI 51 I (uI (uI (uI (uI (uI (uI I 51 0 0) 51 1 0) 51 2 0) 51 3 0) 51 4 0) 51 5 0) := hI15.w rfl
  have hB19 : BZ (uI (uI (uI (uI (uI (uI (uI I 51 0 0) 51 1 0) 51 2 0) 51 3 0) 51 4 0) 51 5 0) 51 6 0) := hB16.kw rfl rfl rfl
  have hZ20 : KI ([]) (uI (uI (uI (uI (uI (uI (uI I 51 0 0) 51 1 0) 51 2 0) 51 3 0) 51 4 0) 51 5 0) 51 6 0) := hZ17.w rfl
  have hI21 : FI 51 I (uI (uI (uI (uI (uI (uI (uI I 51 0 0) 51 1 0) 51 2 0) 51 3 0) 51 4 0) 51 5 0) 51 6 0) := hI18.w rfl
  have hB22 : BZ (uI (uI (uI (uI (uI (uI (uI (uI I 51 0 0) 51 1 0) 51 2 0) 51 3 0) 51 4 0) 51 5 0) 51 6 0) 51 7 0) := hB19.kw rfl rfl rfl
  have hZ23 : KI ([]) (uI (uI (uI (uI (uI (uI (uI (uI I 51 0 0) 51 1 0) 51 2 0) 51 3 0) 51 4 0) 51 5 0) 51 6 0) 51 7 0) := hZ20.w rfl
  have hI24 : FI 51 I (uI (uI (uI (uI (uI (uI (uI (uI I 51 0 0) 51 1 0) 51 2 0) 51 3 0) 51 4 0) 51 5 0) 51 6 0) 51 7 0) := hI21.w rfl
  refine ⟨rfl, ?_⟩
  have hB25 : BZ (zI (uI (uI (uI (uI (uI (uI (uI (uI I 51 0 0) 51 1 0) 51 2 0) 51 3 0) 51 4 0) 51 5 0) 51 6 0) 51 7 0) 52) := hB22.z
  have hZ26 : KI ([]) (zI (uI (uI (uI (uI (uI (uI (uI (uI I 51 0 0) 51 1 0) 51 2 0) 51 3 0) 51 4 0) 51 5 0) 51 6 0) 51 7 0) 52) := hZ23.z rfl
  have hI27 : FI 51 I (zI (uI (uI (uI (uI (uI (uI (uI (uI I 51 0 0) 51 1 0) 51 2 0) 51 3 0) 51 4 0) 51 5 0) 51 6 0) 51 7 0) 52) := hI24.z rfl
  have hJ28 : FJ 51 J (zJ J 52) := (FJ.refl 51 J).z rfl
  have hK29 : RK ([]) (zR R 52) := (RK.nil (R := R)).z rfl
  have hF30 : FR 51 R (zR R 52) := (FR.refl 51 R).z rfl
  have hK31 : RK ((51, 8, 52) :: ([])) (uR (zR R 52) 51 8 52) := hK29.u rfl
  have hF32 : FR 51 R (uR (zR R 52) 51 8 52) := hF30.u rfl
  exact ⟨rfl, fun z => absurd z (by decide), hQ _ _ _ hB25 hF32 hK31 hI27 hZ26 hJ28 trivial⟩
noncomputable def zk_X10_init_53 : List (Nat × Nat × Int32) := (53, 1, -1) :: ([])
noncomputable def lk_X10_init_53 : List (Nat × Nat × Nat) := (53, 2, 54) :: ([])
set_option maxHeartbeats 4000000 in
set_option maxRecDepth 100000 in
theorem ct_X10_init_53 {d : Nat} {Q : Qt} {I : Im} {J : Jm} {R : Rm} (hB : BZ I) (hQ : ∀ (I2 : Im) (J2 : Jm) (R2 : Rm), BZ I2 → FR 53 R R2 → RK lk_X10_init_53 R2 → FI 53 I I2 → KI zk_X10_init_53 I2 → FJ 53 J J2 → True → Q 0 0 I2 J2 R2) : AM (d + 1) 94 53 [.ref 53] I J R Q := by
  refine amc_of (k := kX10_init) rfl rfl rfl rfl rfl rfl (Nat.le_of_ble_eq_true rfl) (fun P hc => ?_)
  refine cs_X10_init_53_0_53 hc _ _ _ ?_
  have hB1 : BZ (uI I 53 0 0) := hB.kw rfl rfl rfl
  have hZ2 : KI ([]) (uI I 53 0 0) := (KI.nil (I := I)).w rfl
  have hI3 : FI 53 I (uI I 53 0 0) := (FI.refl 53 I).w rfl
  have hB4 : BZ (uI (uI I 53 0 0) 53 1 (-1)) := hB1.kw rfl rfl rfl
  have hZ5 : KI ((53, 1, -1) :: ([])) (uI (uI I 53 0 0) 53 1 (-1)) := hZ2.u rfl
  have hI6 : FI 53 I (uI (uI I 53 0 0) 53 1 (-1)) := hI3.w rfl
  refine ⟨rfl, ?_⟩
  have hB7 : BZ (zI (uI (uI I 53 0 0) 53 1 (-1)) 54) := hB4.z
  have hZ8 : KI ((53, 1, -1) :: ([])) (zI (uI (uI I 53 0 0) 53 1 (-1)) 54) := hZ5.z rfl
  have hI9 : FI 53 I (zI (uI (uI I 53 0 0) 53 1 (-1)) 54) := hI6.z rfl
  have hJ10 : FJ 53 J (zJ J 54) := (FJ.refl 53 J).z rfl
  have hK11 : RK ([]) (zR R 54) := (RK.nil (R := R)).z rfl
  have hF12 : FR 53 R (zR R 54) := (FR.refl 53 R).z rfl
  have hK13 : RK ((53, 2, 54) :: ([])) (uR (zR R 54) 53 2 54) := hK11.u rfl
  have hF14 : FR 53 R (uR (zR R 54) 53 2 54) := hF12.u rfl
  exact ⟨rfl, fun z => absurd z (by decide), hQ _ _ _ hB7 hF14 hK13 hI9 hZ8 hJ10 trivial⟩
noncomputable def zk_X10_init_55 : List (Nat × Nat × Int32) := (55, 1, -1) :: ([])
noncomputable def lk_X10_init_55 : List (Nat × Nat × Nat) := (55, 2, 56) :: ([])
set_option maxHeartbeats 4000000 in
set_option maxRecDepth 100000 in
theorem ct_X10_init_55 {d : Nat} {Q : Qt} {I : Im} {J : Jm} {R : Rm} (hB : BZ I) (hQ : ∀ (I2 : Im) (J2 : Jm) (R2 : Rm), BZ I2 → FR 55 R R2 → RK lk_X10_init_55 R2 → FI 55 I I2 → KI zk_X10_init_55 I2 → FJ 55 J J2 → True → Q 0 0 I2 J2 R2) : AM (d + 1) 94 55 [.ref 55] I J R Q := by
  refine amc_of (k := kX10_init) rfl rfl rfl rfl rfl rfl (Nat.le_of_ble_eq_true rfl) (fun P hc => ?_)
  refine cs_X10_init_55_0_55 hc _ _ _ ?_
  have hB1 : BZ (uI I 55 0 0) := hB.kw rfl rfl rfl
  have hZ2 : KI ([]) (uI I 55 0 0) := (KI.nil (I := I)).w rfl
  have hI3 : FI 55 I (uI I 55 0 0) := (FI.refl 55 I).w rfl
  have hB4 : BZ (uI (uI I 55 0 0) 55 1 (-1)) := hB1.kw rfl rfl rfl
  have hZ5 : KI ((55, 1, -1) :: ([])) (uI (uI I 55 0 0) 55 1 (-1)) := hZ2.u rfl
  have hI6 : FI 55 I (uI (uI I 55 0 0) 55 1 (-1)) := hI3.w rfl
  refine ⟨rfl, ?_⟩
  have hB7 : BZ (zI (uI (uI I 55 0 0) 55 1 (-1)) 56) := hB4.z
  have hZ8 : KI ((55, 1, -1) :: ([])) (zI (uI (uI I 55 0 0) 55 1 (-1)) 56) := hZ5.z rfl
  have hI9 : FI 55 I (zI (uI (uI I 55 0 0) 55 1 (-1)) 56) := hI6.z rfl
  have hJ10 : FJ 55 J (zJ J 56) := (FJ.refl 55 J).z rfl
  have hK11 : RK ([]) (zR R 56) := (RK.nil (R := R)).z rfl
  have hF12 : FR 55 R (zR R 56) := (FR.refl 55 R).z rfl
  have hK13 : RK ((55, 2, 56) :: ([])) (uR (zR R 56) 55 2 56) := hK11.u rfl
  have hF14 : FR 55 R (uR (zR R 56) 55 2 56) := hF12.u rfl
  exact ⟨rfl, fun z => absurd z (by decide), hQ _ _ _ hB7 hF14 hK13 hI9 hZ8 hJ10 trivial⟩
noncomputable def zk_X10_init_57 : List (Nat × Nat × Int32) := (57, 1, -1) :: ([])
noncomputable def lk_X10_init_57 : List (Nat × Nat × Nat) := (57, 2, 58) :: ([])
set_option maxHeartbeats 4000000 in
set_option maxRecDepth 100000 in
theorem ct_X10_init_57 {d : Nat} {Q : Qt} {I : Im} {J : Jm} {R : Rm} (hB : BZ I) (hQ : ∀ (I2 : Im) (J2 : Jm) (R2 : Rm), BZ I2 → FR 57 R R2 → RK lk_X10_init_57 R2 → FI 57 I I2 → KI zk_X10_init_57 I2 → FJ 57 J J2 → True → Q 0 0 I2 J2 R2) : AM (d + 1) 94 57 [.ref 57] I J R Q := by
  refine amc_of (k := kX10_init) rfl rfl rfl rfl rfl rfl (Nat.le_of_ble_eq_true rfl) (fun P hc => ?_)
  refine cs_X10_init_57_0_57 hc _ _ _ ?_
  have hB1 : BZ (uI I 57 0 0) := hB.kw rfl rfl rfl
  have hZ2 : KI ([]) (uI I 57 0 0) := (KI.nil (I := I)).w rfl
  have hI3 : FI 57 I (uI I 57 0 0) := (FI.refl 57 I).w rfl
  have hB4 : BZ (uI (uI I 57 0 0) 57 1 (-1)) := hB1.kw rfl rfl rfl
  have hZ5 : KI ((57, 1, -1) :: ([])) (uI (uI I 57 0 0) 57 1 (-1)) := hZ2.u rfl
  have hI6 : FI 57 I (uI (uI I 57 0 0) 57 1 (-1)) := hI3.w rfl
  refine ⟨rfl, ?_⟩
  have hB7 : BZ (zI (uI (uI I 57 0 0) 57 1 (-1)) 58) := hB4.z
  have hZ8 : KI ((57, 1, -1) :: ([])) (zI (uI (uI I 57 0 0) 57 1 (-1)) 58) := hZ5.z rfl
  have hI9 : FI 57 I (zI (uI (uI I 57 0 0) 57 1 (-1)) 58) := hI6.z rfl
  have hJ10 : FJ 57 J (zJ J 58) := (FJ.refl 57 J).z rfl
  have hK11 : RK ([]) (zR R 58) := (RK.nil (R := R)).z rfl
  have hF12 : FR 57 R (zR R 58) := (FR.refl 57 R).z rfl
  have hK13 : RK ((57, 2, 58) :: ([])) (uR (zR R 58) 57 2 58) := hK11.u rfl
  have hF14 : FR 57 R (uR (zR R 58) 57 2 58) := hF12.u rfl
  exact ⟨rfl, fun z => absurd z (by decide), hQ _ _ _ hB7 hF14 hK13 hI9 hZ8 hJ10 trivial⟩
noncomputable def zk_X10_init_59 : List (Nat × Nat × Int32) := (59, 1, -1) :: ([])
noncomputable def lk_X10_init_59 : List (Nat × Nat × Nat) := (59, 2, 60) :: ([])
set_option maxHeartbeats 4000000 in
set_option maxRecDepth 100000 in
theorem ct_X10_init_59 {d : Nat} {Q : Qt} {I : Im} {J : Jm} {R : Rm} (hB : BZ I) (hQ : ∀ (I2 : Im) (J2 : Jm) (R2 : Rm), BZ I2 → FR 59 R R2 → RK lk_X10_init_59 R2 → FI 59 I I2 → KI zk_X10_init_59 I2 → FJ 59 J J2 → True → Q 0 0 I2 J2 R2) : AM (d + 1) 94 59 [.ref 59] I J R Q := by
  refine amc_of (k := kX10_init) rfl rfl rfl rfl rfl rfl (Nat.le_of_ble_eq_true rfl) (fun P hc => ?_)
  refine cs_X10_init_59_0_59 hc _ _ _ ?_
  have hB1 : BZ (uI I 59 0 0) := hB.kw rfl rfl rfl
  have hZ2 : KI ([]) (uI I 59 0 0) := (KI.nil (I := I)).w rfl
  have hI3 : FI 59 I (uI I 59 0 0) := (FI.refl 59 I).w rfl
  have hB4 : BZ (uI (uI I 59 0 0) 59 1 (-1)) := hB1.kw rfl rfl rfl
  have hZ5 : KI ((59, 1, -1) :: ([])) (uI (uI I 59 0 0) 59 1 (-1)) := hZ2.u rfl
  have hI6 : FI 59 I (uI (uI I 59 0 0) 59 1 (-1)) := hI3.w rfl
  refine ⟨rfl, ?_⟩
  have hB7 : BZ (zI (uI (uI I 59 0 0) 59 1 (-1)) 60) := hB4.z
  have hZ8 : KI ((59, 1, -1) :: ([])) (zI (uI (uI I 59 0 0) 59 1 (-1)) 60) := hZ5.z rfl
  have hI9 : FI 59 I (zI (uI (uI I 59 0 0) 59 1 (-1)) 60) := hI6.z rfl
  have hJ10 : FJ 59 J (zJ J 60) := (FJ.refl 59 J).z rfl
  have hK11 : RK ([]) (zR R 60) := (RK.nil (R := R)).z rfl
  have hF12 : FR 59 R (zR R 60) := (FR.refl 59 R).z rfl
  have hK13 : RK ((59, 2, 60) :: ([])) (uR (zR R 60) 59 2 60) := hK11.u rfl
  have hF14 : FR 59 R (uR (zR R 60) 59 2 60) := hF12.u rfl
  exact ⟨rfl, fun z => absurd z (by decide), hQ _ _ _ hB7 hF14 hK13 hI9 hZ8 hJ10 trivial⟩
noncomputable def zk_X0_init_61 : List (Nat × Nat × Int32) := []
noncomputable def lk_X0_init_61 : List (Nat × Nat × Nat) := (61, 8, 66) :: ((61, 7, 65) :: ((61, 6, 64) :: ((61, 5, 63) :: ((61, 0, 62) :: ([])))))
set_option maxHeartbeats 4000000 in
set_option maxRecDepth 100000 in
theorem ct_X0_init_61 {d : Nat} {Q : Qt} {I : Im} {J : Jm} {R : Rm} (hB : BZ I) (hQ : ∀ (I2 : Im) (J2 : Jm) (R2 : Rm), BZ I2 → FR 61 R R2 → RK lk_X0_init_61 R2 → FI 61 I I2 → KI zk_X0_init_61 I2 → FJ 61 J J2 → True → Q 0 0 I2 J2 R2) : AM (d + 1) 0 61 [.ref 61] I J R Q := by
  refine amc_of (k := kX0_init) rfl rfl rfl rfl rfl rfl (Nat.le_of_ble_eq_true rfl) (fun P hc => ?_)
  refine cs_X0_init_61_0_61 hc _ _ _ ?_
  refine ⟨rfl, ?_⟩
  have hB1 : BZ (zI I 62) := hB.z
  have hZ2 : KI ([]) (zI I 62) := (KI.nil (I := I)).z rfl
  have hI3 : FI 61 I (zI I 62) := (FI.refl 61 I).z rfl
  have hJ4 : FJ 61 J (zJ J 62) := (FJ.refl 61 J).z rfl
  have hK5 : RK ([]) (zR R 62) := (RK.nil (R := R)).z rfl
  have hF6 : FR 61 R (zR R 62) := (FR.refl 61 R).z rfl
  have hK7 : RK ((61, 0, 62) :: ([])) (uR (zR R 62) 61 0 62) := hK5.u rfl
  have hF8 : FR 61 R (uR (zR R 62) 61 0 62) := hF6.u rfl
  have hB9 : BZ (uI (zI I 62) 61 1 4) := hB1.kw rfl rfl rfl
  have hZ10 : KI ([]) (uI (zI I 62) 61 1 4) := hZ2.w rfl
  have hI11 : FI 61 I (uI (zI I 62) 61 1 4) := hI3.w rfl
  have hB12 : BZ (uI (uI (zI I 62) 61 1 4) 61 2 1073741823) := hB9.kw rfl rfl rfl
  have hZ13 : KI ([]) (uI (uI (zI I 62) 61 1 4) 61 2 1073741823) := hZ10.w rfl
  have hI14 : FI 61 I (uI (uI (zI I 62) 61 1 4) 61 2 1073741823) := hI11.w rfl
  have hB15 : BZ (uI (uI (uI (zI I 62) 61 1 4) 61 2 1073741823) 61 3 0) := hB12.kw rfl rfl rfl
  have hZ16 : KI ([]) (uI (uI (uI (zI I 62) 61 1 4) 61 2 1073741823) 61 3 0) := hZ13.w rfl
  have hI17 : FI 61 I (uI (uI (uI (zI I 62) 61 1 4) 61 2 1073741823) 61 3 0) := hI14.w rfl
  have hB18 : BZ (uI (uI (uI (uI (zI I 62) 61 1 4) 61 2 1073741823) 61 3 0) 61 4 0) := hB15.kw rfl rfl rfl
  have hZ19 : KI ([]) (uI (uI (uI (uI (zI I 62) 61 1 4) 61 2 1073741823) 61 3 0) 61 4 0) := hZ16.w rfl
  have hI20 : FI 61 I (uI (uI (uI (uI (zI I 62) 61 1 4) 61 2 1073741823) 61 3 0) 61 4 0) := hI17.w rfl
  refine ⟨rfl, ?_⟩
  have hB21 : BZ (zI (uI (uI (uI (uI (zI I 62) 61 1 4) 61 2 1073741823) 61 3 0) 61 4 0) 63) := hB18.z
  have hZ22 : KI ([]) (zI (uI (uI (uI (uI (zI I 62) 61 1 4) 61 2 1073741823) 61 3 0) 61 4 0) 63) := hZ19.z rfl
  have hI23 : FI 61 I (zI (uI (uI (uI (uI (zI I 62) 61 1 4) 61 2 1073741823) 61 3 0) 61 4 0) 63) := hI20.z rfl
  have hJ24 : FJ 61 J (zJ (zJ J 62) 63) := hJ4.z rfl
  have hK25 : RK ((61, 0, 62) :: ([])) (zR (uR (zR R 62) 61 0 62) 63) := hK7.z rfl
  have hF26 : FR 61 R (zR (uR (zR R 62) 61 0 62) 63) := hF8.z rfl
  have hK27 : RK ((61, 5, 63) :: ((61, 0, 62) :: ([]))) (uR (zR (uR (zR R 62) 61 0 62) 63) 61 5 63) := hK25.u rfl
  have hF28 : FR 61 R (uR (zR (uR (zR R 62) 61 0 62) 63) 61 5 63) := hF26.u rfl
  refine ⟨rfl, ?_⟩
  have hB29 : BZ (zI (zI (uI (uI (uI (uI (zI I 62) 61 1 4) 61 2 1073741823) 61 3 0) 61 4 0) 63) 64) := hB21.z
  have hZ30 : KI ([]) (zI (zI (uI (uI (uI (uI (zI I 62) 61 1 4) 61 2 1073741823) 61 3 0) 61 4 0) 63) 64) := hZ22.z rfl
  have hI31 : FI 61 I (zI (zI (uI (uI (uI (uI (zI I 62) 61 1 4) 61 2 1073741823) 61 3 0) 61 4 0) 63) 64) := hI23.z rfl
  have hJ32 : FJ 61 J (zJ (zJ (zJ J 62) 63) 64) := hJ24.z rfl
  have hK33 : RK ((61, 5, 63) :: ((61, 0, 62) :: ([]))) (zR (uR (zR (uR (zR R 62) 61 0 62) 63) 61 5 63) 64) := hK27.z rfl
  have hF34 : FR 61 R (zR (uR (zR (uR (zR R 62) 61 0 62) 63) 61 5 63) 64) := hF28.z rfl
  have hK35 : RK ((61, 6, 64) :: ((61, 5, 63) :: ((61, 0, 62) :: ([])))) (uR (zR (uR (zR (uR (zR R 62) 61 0 62) 63) 61 5 63) 64) 61 6 64) := hK33.u rfl
  have hF36 : FR 61 R (uR (zR (uR (zR (uR (zR R 62) 61 0 62) 63) 61 5 63) 64) 61 6 64) := hF34.u rfl
  refine ⟨rfl, ?_⟩
  have hB37 : BZ (zI (zI (zI (uI (uI (uI (uI (zI I 62) 61 1 4) 61 2 1073741823) 61 3 0) 61 4 0) 63) 64) 65) := hB29.z
  have hZ38 : KI ([]) (zI (zI (zI (uI (uI (uI (uI (zI I 62) 61 1 4) 61 2 1073741823) 61 3 0) 61 4 0) 63) 64) 65) := hZ30.z rfl
  have hI39 : FI 61 I (zI (zI (zI (uI (uI (uI (uI (zI I 62) 61 1 4) 61 2 1073741823) 61 3 0) 61 4 0) 63) 64) 65) := hI31.z rfl
  have hJ40 : FJ 61 J (zJ (zJ (zJ (zJ J 62) 63) 64) 65) := hJ32.z rfl
  have hK41 : RK ((61, 6, 64) :: ((61, 5, 63) :: ((61, 0, 62) :: ([])))) (zR (uR (zR (uR (zR (uR (zR R 62) 61 0 62) 63) 61 5 63) 64) 61 6 64) 65) := hK35.z rfl
  have hF42 : FR 61 R (zR (uR (zR (uR (zR (uR (zR R 62) 61 0 62) 63) 61 5 63) 64) 61 6 64) 65) := hF36.z rfl
  have hK43 : RK ((61, 7, 65) :: ((61, 6, 64) :: ((61, 5, 63) :: ((61, 0, 62) :: ([]))))) (uR (zR (uR (zR (uR (zR (uR (zR R 62) 61 0 62) 63) 61 5 63) 64) 61 6 64) 65) 61 7 65) := hK41.u rfl
  have hF44 : FR 61 R (uR (zR (uR (zR (uR (zR (uR (zR R 62) 61 0 62) 63) 61 5 63) 64) 61 6 64) 65) 61 7 65) := hF42.u rfl
  refine ⟨rfl, ?_⟩
  have hB45 : BZ (zI (zI (zI (zI (uI (uI (uI (uI (zI I 62) 61 1 4) 61 2 1073741823) 61 3 0) 61 4 0) 63) 64) 65) 66) := hB37.z
  have hZ46 : KI ([]) (zI (zI (zI (zI (uI (uI (uI (uI (zI I 62) 61 1 4) 61 2 1073741823) 61 3 0) 61 4 0) 63) 64) 65) 66) := hZ38.z rfl
  have hI47 : FI 61 I (zI (zI (zI (zI (uI (uI (uI (uI (zI I 62) 61 1 4) 61 2 1073741823) 61 3 0) 61 4 0) 63) 64) 65) 66) := hI39.z rfl
  have hJ48 : FJ 61 J (zJ (zJ (zJ (zJ (zJ J 62) 63) 64) 65) 66) := hJ40.z rfl
  have hK49 : RK ((61, 7, 65) :: ((61, 6, 64) :: ((61, 5, 63) :: ((61, 0, 62) :: ([]))))) (zR (uR (zR (uR (zR (uR (zR (uR (zR R 62) 61 0 62) 63) 61 5 63) 64) 61 6 64) 65) 61 7 65) 66) := hK43.z rfl
  have hF50 : FR 61 R (zR (uR (zR (uR (zR (uR (zR (uR (zR R 62) 61 0 62) 63) 61 5 63) 64) 61 6 64) 65) 61 7 65) 66) := hF44.z rfl
  have hK51 : RK ((61, 8, 66) :: ((61, 7, 65) :: ((61, 6, 64) :: ((61, 5, 63) :: ((61, 0, 62) :: ([])))))) (uR (zR (uR (zR (uR (zR (uR (zR (uR (zR R 62) 61 0 62) 63) 61 5 63) 64) 61 6 64) 65) 61 7 65) 66) 61 8 66) := hK49.u rfl
  have hF52 : FR 61 R (uR (zR (uR (zR (uR (zR (uR (zR (uR (zR R 62) 61 0 62) 63) 61 5 63) 64) 61 6 64) 65) 61 7 65) 66) 61 8 66) := hF50.u rfl
  exact ⟨rfl, fun z => absurd z (by decide), hQ _ _ _ hB45 hF52 hK51 hI47 hZ46 hJ48 trivial⟩
noncomputable def zk_X2_init_67 : List (Nat × Nat × Int32) := []
noncomputable def lk_X2_init_67 : List (Nat × Nat × Nat) := (67, 7, 72) :: ((67, 6, 71) :: ((67, 5, 70) :: ((67, 4, 69) :: ((67, 3, 68) :: ([])))))
set_option maxHeartbeats 4000000 in
set_option maxRecDepth 100000 in
theorem ct_X2_init_67 {d : Nat} {Q : Qt} {I : Im} {J : Jm} {R : Rm} (hB : BZ I) (hQ : ∀ (I2 : Im) (J2 : Jm) (R2 : Rm), BZ I2 → FR 67 R R2 → RK lk_X2_init_67 R2 → FI 67 I I2 → KI zk_X2_init_67 I2 → FJ 67 J J2 → True → Q 0 0 I2 J2 R2) : AM (d + 1) 27 67 [.ref 67] I J R Q := by
  refine amc_of (k := kX2_init) rfl rfl rfl rfl rfl rfl (Nat.le_of_ble_eq_true rfl) (fun P hc => ?_)
  refine cs_X2_init_67_0_67 hc _ _ _ ?_
  refine ⟨Or.inl rfl, ?_⟩
  have hB1 : BZ (uI I 67 0 0) := hB.kw rfl rfl rfl
  have hZ2 : KI ([]) (uI I 67 0 0) := (KI.nil (I := I)).w rfl
  have hI3 : FI 67 I (uI I 67 0 0) := (FI.refl 67 I).w rfl
  have hB4 : BZ (uI (uI I 67 0 0) 67 1 0) := hB1.kw rfl rfl rfl
  have hZ5 : KI ([]) (uI (uI I 67 0 0) 67 1 0) := hZ2.w rfl
  have hI6 : FI 67 I (uI (uI I 67 0 0) 67 1 0) := hI3.w rfl
  have hB7 : BZ (uI (uI (uI I 67 0 0) 67 1 0) 67 2 0) := hB4.kw rfl rfl rfl
  have hZ8 : KI ([]) (uI (uI (uI I 67 0 0) 67 1 0) 67 2 0) := hZ5.w rfl
  have hI9 : FI 67 I (uI (uI (uI I 67 0 0) 67 1 0) 67 2 0) := hI6.w rfl
  refine ⟨rfl, ?_⟩
  have hB10 : BZ (zI (uI (uI (uI I 67 0 0) 67 1 0) 67 2 0) 68) := hB7.z
  have hZ11 : KI ([]) (zI (uI (uI (uI I 67 0 0) 67 1 0) 67 2 0) 68) := hZ8.z rfl
  have hI12 : FI 67 I (zI (uI (uI (uI I 67 0 0) 67 1 0) 67 2 0) 68) := hI9.z rfl
  have hJ13 : FJ 67 J (zJ J 68) := (FJ.refl 67 J).z rfl
  have hK14 : RK ([]) (zR R 68) := (RK.nil (R := R)).z rfl
  have hF15 : FR 67 R (zR R 68) := (FR.refl 67 R).z rfl
  have hK16 : RK ((67, 3, 68) :: ([])) (uR (zR R 68) 67 3 68) := hK14.u rfl
  have hF17 : FR 67 R (uR (zR R 68) 67 3 68) := hF15.u rfl
  refine ⟨rfl, ?_⟩
  have hB18 : BZ (zI (zI (uI (uI (uI I 67 0 0) 67 1 0) 67 2 0) 68) 69) := hB10.z
  have hZ19 : KI ([]) (zI (zI (uI (uI (uI I 67 0 0) 67 1 0) 67 2 0) 68) 69) := hZ11.z rfl
  have hI20 : FI 67 I (zI (zI (uI (uI (uI I 67 0 0) 67 1 0) 67 2 0) 68) 69) := hI12.z rfl
  have hJ21 : FJ 67 J (zJ (zJ J 68) 69) := hJ13.z rfl
  have hK22 : RK ((67, 3, 68) :: ([])) (zR (uR (zR R 68) 67 3 68) 69) := hK16.z rfl
  have hF23 : FR 67 R (zR (uR (zR R 68) 67 3 68) 69) := hF17.z rfl
  have hK24 : RK ((67, 4, 69) :: ((67, 3, 68) :: ([]))) (uR (zR (uR (zR R 68) 67 3 68) 69) 67 4 69) := hK22.u rfl
  have hF25 : FR 67 R (uR (zR (uR (zR R 68) 67 3 68) 69) 67 4 69) := hF23.u rfl
  refine ⟨rfl, ?_⟩
  have hB26 : BZ (zI (zI (zI (uI (uI (uI I 67 0 0) 67 1 0) 67 2 0) 68) 69) 70) := hB18.z
  have hZ27 : KI ([]) (zI (zI (zI (uI (uI (uI I 67 0 0) 67 1 0) 67 2 0) 68) 69) 70) := hZ19.z rfl
  have hI28 : FI 67 I (zI (zI (zI (uI (uI (uI I 67 0 0) 67 1 0) 67 2 0) 68) 69) 70) := hI20.z rfl
  have hJ29 : FJ 67 J (zJ (zJ (zJ J 68) 69) 70) := hJ21.z rfl
  have hK30 : RK ((67, 4, 69) :: ((67, 3, 68) :: ([]))) (zR (uR (zR (uR (zR R 68) 67 3 68) 69) 67 4 69) 70) := hK24.z rfl
  have hF31 : FR 67 R (zR (uR (zR (uR (zR R 68) 67 3 68) 69) 67 4 69) 70) := hF25.z rfl
  have hK32 : RK ((67, 5, 70) :: ((67, 4, 69) :: ((67, 3, 68) :: ([])))) (uR (zR (uR (zR (uR (zR R 68) 67 3 68) 69) 67 4 69) 70) 67 5 70) := hK30.u rfl
  have hF33 : FR 67 R (uR (zR (uR (zR (uR (zR R 68) 67 3 68) 69) 67 4 69) 70) 67 5 70) := hF31.u rfl
  refine ⟨rfl, ?_⟩
  have hB34 : BZ (zI (zI (zI (zI (uI (uI (uI I 67 0 0) 67 1 0) 67 2 0) 68) 69) 70) 71) := hB26.z
  have hZ35 : KI ([]) (zI (zI (zI (zI (uI (uI (uI I 67 0 0) 67 1 0) 67 2 0) 68) 69) 70) 71) := hZ27.z rfl
  have hI36 : FI 67 I (zI (zI (zI (zI (uI (uI (uI I 67 0 0) 67 1 0) 67 2 0) 68) 69) 70) 71) := hI28.z rfl
  have hJ37 : FJ 67 J (zJ (zJ (zJ (zJ J 68) 69) 70) 71) := hJ29.z rfl
  have hK38 : RK ((67, 5, 70) :: ((67, 4, 69) :: ((67, 3, 68) :: ([])))) (zR (uR (zR (uR (zR (uR (zR R 68) 67 3 68) 69) 67 4 69) 70) 67 5 70) 71) := hK32.z rfl
  have hF39 : FR 67 R (zR (uR (zR (uR (zR (uR (zR R 68) 67 3 68) 69) 67 4 69) 70) 67 5 70) 71) := hF33.z rfl
  have hK40 : RK ((67, 6, 71) :: ((67, 5, 70) :: ((67, 4, 69) :: ((67, 3, 68) :: ([]))))) (uR (zR (uR (zR (uR (zR (uR (zR R 68) 67 3 68) 69) 67 4 69) 70) 67 5 70) 71) 67 6 71) := hK38.u rfl
  have hF41 : FR 67 R (uR (zR (uR (zR (uR (zR (uR (zR R 68) 67 3 68) 69) 67 4 69) 70) 67 5 70) 71) 67 6 71) := hF39.u rfl
  refine ⟨rfl, ?_⟩
  have hB42 : BZ (zI (zI (zI (zI (zI (uI (uI (uI I 67 0 0) 67 1 0) 67 2 0) 68) 69) 70) 71) 72) := hB34.z
  have hZ43 : KI ([]) (zI (zI (zI (zI (zI (uI (uI (uI I 67 0 0) 67 1 0) 67 2 0) 68) 69) 70) 71) 72) := hZ35.z rfl
  have hI44 : FI 67 I (zI (zI (zI (zI (zI (uI (uI (uI I 67 0 0) 67 1 0) 67 2 0) 68) 69) 70) 71) 72) := hI36.z rfl
  have hJ45 : FJ 67 J (zJ (zJ (zJ (zJ (zJ J 68) 69) 70) 71) 72) := hJ37.z rfl
  have hK46 : RK ((67, 6, 71) :: ((67, 5, 70) :: ((67, 4, 69) :: ((67, 3, 68) :: ([]))))) (zR (uR (zR (uR (zR (uR (zR (uR (zR R 68) 67 3 68) 69) 67 4 69) 70) 67 5 70) 71) 67 6 71) 72) := hK40.z rfl
  have hF47 : FR 67 R (zR (uR (zR (uR (zR (uR (zR (uR (zR R 68) 67 3 68) 69) 67 4 69) 70) 67 5 70) 71) 67 6 71) 72) := hF41.z rfl
  have hK48 : RK ((67, 7, 72) :: ((67, 6, 71) :: ((67, 5, 70) :: ((67, 4, 69) :: ((67, 3, 68) :: ([])))))) (uR (zR (uR (zR (uR (zR (uR (zR (uR (zR R 68) 67 3 68) 69) 67 4 69) 70) 67 5 70) 71) 67 6 71) 72) 67 7 72) := hK46.u rfl
  have hF49 : FR 67 R (uR (zR (uR (zR (uR (zR (uR (zR (uR (zR R 68) 67 3 68) 69) 67 4 69) 70) 67 5 70) 71) 67 6 71) 72) 67 7 72) := hF47.u rfl
  exact ⟨rfl, fun z => absurd z (by decide), hQ _ _ _ hB42 hF49 hK48 hI44 hZ43 hJ45 trivial⟩
noncomputable def zk_X0_init_73 : List (Nat × Nat × Int32) := []
noncomputable def lk_X0_init_73 : List (Nat × Nat × Nat) := (73, 8, 78) :: ((73, 7, 77) :: ((73, 6, 76) :: ((73, 5, 75) :: ((73, 0, 74) :: ([])))))
set_option maxHeartbeats 4000000 in
set_option maxRecDepth 100000 in
theorem ct_X0_init_73 {d : Nat} {Q : Qt} {I : Im} {J : Jm} {R : Rm} (hB : BZ I) (hQ : ∀ (I2 : Im) (J2 : Jm) (R2 : Rm), BZ I2 → FR 73 R R2 → RK lk_X0_init_73 R2 → FI 73 I I2 → KI zk_X0_init_73 I2 → FJ 73 J J2 → True → Q 0 0 I2 J2 R2) : AM (d + 1) 0 73 [.ref 73] I J R Q := by
  refine amc_of (k := kX0_init) rfl rfl rfl rfl rfl rfl (Nat.le_of_ble_eq_true rfl) (fun P hc => ?_)
  refine cs_X0_init_73_0_73 hc _ _ _ ?_
  refine ⟨rfl, ?_⟩
  have hB1 : BZ (zI I 74) := hB.z
  have hZ2 : KI ([]) (zI I 74) := (KI.nil (I := I)).z rfl
  have hI3 : FI 73 I (zI I 74) := (FI.refl 73 I).z rfl
  have hJ4 : FJ 73 J (zJ J 74) := (FJ.refl 73 J).z rfl
  have hK5 : RK ([]) (zR R 74) := (RK.nil (R := R)).z rfl
  have hF6 : FR 73 R (zR R 74) := (FR.refl 73 R).z rfl
  have hK7 : RK ((73, 0, 74) :: ([])) (uR (zR R 74) 73 0 74) := hK5.u rfl
  have hF8 : FR 73 R (uR (zR R 74) 73 0 74) := hF6.u rfl
  have hB9 : BZ (uI (zI I 74) 73 1 4) := hB1.kw rfl rfl rfl
  have hZ10 : KI ([]) (uI (zI I 74) 73 1 4) := hZ2.w rfl
  have hI11 : FI 73 I (uI (zI I 74) 73 1 4) := hI3.w rfl
  have hB12 : BZ (uI (uI (zI I 74) 73 1 4) 73 2 1073741823) := hB9.kw rfl rfl rfl
  have hZ13 : KI ([]) (uI (uI (zI I 74) 73 1 4) 73 2 1073741823) := hZ10.w rfl
  have hI14 : FI 73 I (uI (uI (zI I 74) 73 1 4) 73 2 1073741823) := hI11.w rfl
  have hB15 : BZ (uI (uI (uI (zI I 74) 73 1 4) 73 2 1073741823) 73 3 0) := hB12.kw rfl rfl rfl
  have hZ16 : KI ([]) (uI (uI (uI (zI I 74) 73 1 4) 73 2 1073741823) 73 3 0) := hZ13.w rfl
  have hI17 : FI 73 I (uI (uI (uI (zI I 74) 73 1 4) 73 2 1073741823) 73 3 0) := hI14.w rfl
  have hB18 : BZ (uI (uI (uI (uI (zI I 74) 73 1 4) 73 2 1073741823) 73 3 0) 73 4 0) := hB15.kw rfl rfl rfl
  have hZ19 : KI ([]) (uI (uI (uI (uI (zI I 74) 73 1 4) 73 2 1073741823) 73 3 0) 73 4 0) := hZ16.w rfl
  have hI20 : FI 73 I (uI (uI (uI (uI (zI I 74) 73 1 4) 73 2 1073741823) 73 3 0) 73 4 0) := hI17.w rfl
  refine ⟨rfl, ?_⟩
  have hB21 : BZ (zI (uI (uI (uI (uI (zI I 74) 73 1 4) 73 2 1073741823) 73 3 0) 73 4 0) 75) := hB18.z
  have hZ22 : KI ([]) (zI (uI (uI (uI (uI (zI I 74) 73 1 4) 73 2 1073741823) 73 3 0) 73 4 0) 75) := hZ19.z rfl
  have hI23 : FI 73 I (zI (uI (uI (uI (uI (zI I 74) 73 1 4) 73 2 1073741823) 73 3 0) 73 4 0) 75) := hI20.z rfl
  have hJ24 : FJ 73 J (zJ (zJ J 74) 75) := hJ4.z rfl
  have hK25 : RK ((73, 0, 74) :: ([])) (zR (uR (zR R 74) 73 0 74) 75) := hK7.z rfl
  have hF26 : FR 73 R (zR (uR (zR R 74) 73 0 74) 75) := hF8.z rfl
  have hK27 : RK ((73, 5, 75) :: ((73, 0, 74) :: ([]))) (uR (zR (uR (zR R 74) 73 0 74) 75) 73 5 75) := hK25.u rfl
  have hF28 : FR 73 R (uR (zR (uR (zR R 74) 73 0 74) 75) 73 5 75) := hF26.u rfl
  refine ⟨rfl, ?_⟩
  have hB29 : BZ (zI (zI (uI (uI (uI (uI (zI I 74) 73 1 4) 73 2 1073741823) 73 3 0) 73 4 0) 75) 76) := hB21.z
  have hZ30 : KI ([]) (zI (zI (uI (uI (uI (uI (zI I 74) 73 1 4) 73 2 1073741823) 73 3 0) 73 4 0) 75) 76) := hZ22.z rfl
  have hI31 : FI 73 I (zI (zI (uI (uI (uI (uI (zI I 74) 73 1 4) 73 2 1073741823) 73 3 0) 73 4 0) 75) 76) := hI23.z rfl
  have hJ32 : FJ 73 J (zJ (zJ (zJ J 74) 75) 76) := hJ24.z rfl
  have hK33 : RK ((73, 5, 75) :: ((73, 0, 74) :: ([]))) (zR (uR (zR (uR (zR R 74) 73 0 74) 75) 73 5 75) 76) := hK27.z rfl
  have hF34 : FR 73 R (zR (uR (zR (uR (zR R 74) 73 0 74) 75) 73 5 75) 76) := hF28.z rfl
  have hK35 : RK ((73, 6, 76) :: ((73, 5, 75) :: ((73, 0, 74) :: ([])))) (uR (zR (uR (zR (uR (zR R 74) 73 0 74) 75) 73 5 75) 76) 73 6 76) := hK33.u rfl
  have hF36 : FR 73 R (uR (zR (uR (zR (uR (zR R 74) 73 0 74) 75) 73 5 75) 76) 73 6 76) := hF34.u rfl
  refine ⟨rfl, ?_⟩
  have hB37 : BZ (zI (zI (zI (uI (uI (uI (uI (zI I 74) 73 1 4) 73 2 1073741823) 73 3 0) 73 4 0) 75) 76) 77) := hB29.z
  have hZ38 : KI ([]) (zI (zI (zI (uI (uI (uI (uI (zI I 74) 73 1 4) 73 2 1073741823) 73 3 0) 73 4 0) 75) 76) 77) := hZ30.z rfl
  have hI39 : FI 73 I (zI (zI (zI (uI (uI (uI (uI (zI I 74) 73 1 4) 73 2 1073741823) 73 3 0) 73 4 0) 75) 76) 77) := hI31.z rfl
  have hJ40 : FJ 73 J (zJ (zJ (zJ (zJ J 74) 75) 76) 77) := hJ32.z rfl
  have hK41 : RK ((73, 6, 76) :: ((73, 5, 75) :: ((73, 0, 74) :: ([])))) (zR (uR (zR (uR (zR (uR (zR R 74) 73 0 74) 75) 73 5 75) 76) 73 6 76) 77) := hK35.z rfl
  have hF42 : FR 73 R (zR (uR (zR (uR (zR (uR (zR R 74) 73 0 74) 75) 73 5 75) 76) 73 6 76) 77) := hF36.z rfl
  have hK43 : RK ((73, 7, 77) :: ((73, 6, 76) :: ((73, 5, 75) :: ((73, 0, 74) :: ([]))))) (uR (zR (uR (zR (uR (zR (uR (zR R 74) 73 0 74) 75) 73 5 75) 76) 73 6 76) 77) 73 7 77) := hK41.u rfl
  have hF44 : FR 73 R (uR (zR (uR (zR (uR (zR (uR (zR R 74) 73 0 74) 75) 73 5 75) 76) 73 6 76) 77) 73 7 77) := hF42.u rfl
  refine ⟨rfl, ?_⟩
  have hB45 : BZ (zI (zI (zI (zI (uI (uI (uI (uI (zI I 74) 73 1 4) 73 2 1073741823) 73 3 0) 73 4 0) 75) 76) 77) 78) := hB37.z
  have hZ46 : KI ([]) (zI (zI (zI (zI (uI (uI (uI (uI (zI I 74) 73 1 4) 73 2 1073741823) 73 3 0) 73 4 0) 75) 76) 77) 78) := hZ38.z rfl
  have hI47 : FI 73 I (zI (zI (zI (zI (uI (uI (uI (uI (zI I 74) 73 1 4) 73 2 1073741823) 73 3 0) 73 4 0) 75) 76) 77) 78) := hI39.z rfl
  have hJ48 : FJ 73 J (zJ (zJ (zJ (zJ (zJ J 74) 75) 76) 77) 78) := hJ40.z rfl
  have hK49 : RK ((73, 7, 77) :: ((73, 6, 76) :: ((73, 5, 75) :: ((73, 0, 74) :: ([]))))) (zR (uR (zR (uR (zR (uR (zR (uR (zR R 74) 73 0 74) 75) 73 5 75) 76) 73 6 76) 77) 73 7 77) 78) := hK43.z rfl
  have hF50 : FR 73 R (zR (uR (zR (uR (zR (uR (zR (uR (zR R 74) 73 0 74) 75) 73 5 75) 76) 73 6 76) 77) 73 7 77) 78) := hF44.z rfl
  have hK51 : RK ((73, 8, 78) :: ((73, 7, 77) :: ((73, 6, 76) :: ((73, 5, 75) :: ((73, 0, 74) :: ([])))))) (uR (zR (uR (zR (uR (zR (uR (zR (uR (zR R 74) 73 0 74) 75) 73 5 75) 76) 73 6 76) 77) 73 7 77) 78) 73 8 78) := hK49.u rfl
  have hF52 : FR 73 R (uR (zR (uR (zR (uR (zR (uR (zR (uR (zR R 74) 73 0 74) 75) 73 5 75) 76) 73 6 76) 77) 73 7 77) 78) 73 8 78) := hF50.u rfl
  exact ⟨rfl, fun z => absurd z (by decide), hQ _ _ _ hB45 hF52 hK51 hI47 hZ46 hJ48 trivial⟩
noncomputable def zk_X2_init_79 : List (Nat × Nat × Int32) := []
noncomputable def lk_X2_init_79 : List (Nat × Nat × Nat) := (79, 7, 84) :: ((79, 6, 83) :: ((79, 5, 82) :: ((79, 4, 81) :: ((79, 3, 80) :: ([])))))
set_option maxHeartbeats 4000000 in
set_option maxRecDepth 100000 in
theorem ct_X2_init_79 {d : Nat} {Q : Qt} {I : Im} {J : Jm} {R : Rm} (hB : BZ I) (hQ : ∀ (I2 : Im) (J2 : Jm) (R2 : Rm), BZ I2 → FR 79 R R2 → RK lk_X2_init_79 R2 → FI 79 I I2 → KI zk_X2_init_79 I2 → FJ 79 J J2 → True → Q 0 0 I2 J2 R2) : AM (d + 1) 27 79 [.ref 79] I J R Q := by
  refine amc_of (k := kX2_init) rfl rfl rfl rfl rfl rfl (Nat.le_of_ble_eq_true rfl) (fun P hc => ?_)
  refine cs_X2_init_79_0_79 hc _ _ _ ?_
  refine ⟨Or.inl rfl, ?_⟩
  have hB1 : BZ (uI I 79 0 0) := hB.kw rfl rfl rfl
  have hZ2 : KI ([]) (uI I 79 0 0) := (KI.nil (I := I)).w rfl
  have hI3 : FI 79 I (uI I 79 0 0) := (FI.refl 79 I).w rfl
  have hB4 : BZ (uI (uI I 79 0 0) 79 1 0) := hB1.kw rfl rfl rfl
  have hZ5 : KI ([]) (uI (uI I 79 0 0) 79 1 0) := hZ2.w rfl
  have hI6 : FI 79 I (uI (uI I 79 0 0) 79 1 0) := hI3.w rfl
  have hB7 : BZ (uI (uI (uI I 79 0 0) 79 1 0) 79 2 0) := hB4.kw rfl rfl rfl
  have hZ8 : KI ([]) (uI (uI (uI I 79 0 0) 79 1 0) 79 2 0) := hZ5.w rfl
  have hI9 : FI 79 I (uI (uI (uI I 79 0 0) 79 1 0) 79 2 0) := hI6.w rfl
  refine ⟨rfl, ?_⟩
  have hB10 : BZ (zI (uI (uI (uI I 79 0 0) 79 1 0) 79 2 0) 80) := hB7.z
  have hZ11 : KI ([]) (zI (uI (uI (uI I 79 0 0) 79 1 0) 79 2 0) 80) := hZ8.z rfl
  have hI12 : FI 79 I (zI (uI (uI (uI I 79 0 0) 79 1 0) 79 2 0) 80) := hI9.z rfl
  have hJ13 : FJ 79 J (zJ J 80) := (FJ.refl 79 J).z rfl
  have hK14 : RK ([]) (zR R 80) := (RK.nil (R := R)).z rfl
  have hF15 : FR 79 R (zR R 80) := (FR.refl 79 R).z rfl
  have hK16 : RK ((79, 3, 80) :: ([])) (uR (zR R 80) 79 3 80) := hK14.u rfl
  have hF17 : FR 79 R (uR (zR R 80) 79 3 80) := hF15.u rfl
  refine ⟨rfl, ?_⟩
  have hB18 : BZ (zI (zI (uI (uI (uI I 79 0 0) 79 1 0) 79 2 0) 80) 81) := hB10.z
  have hZ19 : KI ([]) (zI (zI (uI (uI (uI I 79 0 0) 79 1 0) 79 2 0) 80) 81) := hZ11.z rfl
  have hI20 : FI 79 I (zI (zI (uI (uI (uI I 79 0 0) 79 1 0) 79 2 0) 80) 81) := hI12.z rfl
  have hJ21 : FJ 79 J (zJ (zJ J 80) 81) := hJ13.z rfl
  have hK22 : RK ((79, 3, 80) :: ([])) (zR (uR (zR R 80) 79 3 80) 81) := hK16.z rfl
  have hF23 : FR 79 R (zR (uR (zR R 80) 79 3 80) 81) := hF17.z rfl
  have hK24 : RK ((79, 4, 81) :: ((79, 3, 80) :: ([]))) (uR (zR (uR (zR R 80) 79 3 80) 81) 79 4 81) := hK22.u rfl
  have hF25 : FR 79 R (uR (zR (uR (zR R 80) 79 3 80) 81) 79 4 81) := hF23.u rfl
  refine ⟨rfl, ?_⟩
  have hB26 : BZ (zI (zI (zI (uI (uI (uI I 79 0 0) 79 1 0) 79 2 0) 80) 81) 82) := hB18.z
  have hZ27 : KI ([]) (zI (zI (zI (uI (uI (uI I 79 0 0) 79 1 0) 79 2 0) 80) 81) 82) := hZ19.z rfl
  have hI28 : FI 79 I (zI (zI (zI (uI (uI (uI I 79 0 0) 79 1 0) 79 2 0) 80) 81) 82) := hI20.z rfl
  have hJ29 : FJ 79 J (zJ (zJ (zJ J 80) 81) 82) := hJ21.z rfl
  have hK30 : RK ((79, 4, 81) :: ((79, 3, 80) :: ([]))) (zR (uR (zR (uR (zR R 80) 79 3 80) 81) 79 4 81) 82) := hK24.z rfl
  have hF31 : FR 79 R (zR (uR (zR (uR (zR R 80) 79 3 80) 81) 79 4 81) 82) := hF25.z rfl
  have hK32 : RK ((79, 5, 82) :: ((79, 4, 81) :: ((79, 3, 80) :: ([])))) (uR (zR (uR (zR (uR (zR R 80) 79 3 80) 81) 79 4 81) 82) 79 5 82) := hK30.u rfl
  have hF33 : FR 79 R (uR (zR (uR (zR (uR (zR R 80) 79 3 80) 81) 79 4 81) 82) 79 5 82) := hF31.u rfl
  refine ⟨rfl, ?_⟩
  have hB34 : BZ (zI (zI (zI (zI (uI (uI (uI I 79 0 0) 79 1 0) 79 2 0) 80) 81) 82) 83) := hB26.z
  have hZ35 : KI ([]) (zI (zI (zI (zI (uI (uI (uI I 79 0 0) 79 1 0) 79 2 0) 80) 81) 82) 83) := hZ27.z rfl
  have hI36 : FI 79 I (zI (zI (zI (zI (uI (uI (uI I 79 0 0) 79 1 0) 79 2 0) 80) 81) 82) 83) := hI28.z rfl
  have hJ37 : FJ 79 J (zJ (zJ (zJ (zJ J 80) 81) 82) 83) := hJ29.z rfl
  have hK38 : RK ((79, 5, 82) :: ((79, 4, 81) :: ((79, 3, 80) :: ([])))) (zR (uR (zR (uR (zR (uR (zR R 80) 79 3 80) 81) 79 4 81) 82) 79 5 82) 83) := hK32.z rfl
  have hF39 : FR 79 R (zR (uR (zR (uR (zR (uR (zR R 80) 79 3 80) 81) 79 4 81) 82) 79 5 82) 83) := hF33.z rfl
  have hK40 : RK ((79, 6, 83) :: ((79, 5, 82) :: ((79, 4, 81) :: ((79, 3, 80) :: ([]))))) (uR (zR (uR (zR (uR (zR (uR (zR R 80) 79 3 80) 81) 79 4 81) 82) 79 5 82) 83) 79 6 83) := hK38.u rfl
  have hF41 : FR 79 R (uR (zR (uR (zR (uR (zR (uR (zR R 80) 79 3 80) 81) 79 4 81) 82) 79 5 82) 83) 79 6 83) := hF39.u rfl
  refine ⟨rfl, ?_⟩
  have hB42 : BZ (zI (zI (zI (zI (zI (uI (uI (uI I 79 0 0) 79 1 0) 79 2 0) 80) 81) 82) 83) 84) := hB34.z
  have hZ43 : KI ([]) (zI (zI (zI (zI (zI (uI (uI (uI I 79 0 0) 79 1 0) 79 2 0) 80) 81) 82) 83) 84) := hZ35.z rfl
  have hI44 : FI 79 I (zI (zI (zI (zI (zI (uI (uI (uI I 79 0 0) 79 1 0) 79 2 0) 80) 81) 82) 83) 84) := hI36.z rfl
  have hJ45 : FJ 79 J (zJ (zJ (zJ (zJ (zJ J 80) 81) 82) 83) 84) := hJ37.z rfl
  have hK46 : RK ((79, 6, 83) :: ((79, 5, 82) :: ((79, 4, 81) :: ((79, 3, 80) :: ([]))))) (zR (uR (zR (uR (zR (uR (zR (uR (zR R 80) 79 3 80) 81) 79 4 81) 82) 79 5 82) 83) 79 6 83) 84) := hK40.z rfl
  have hF47 : FR 79 R (zR (uR (zR (uR (zR (uR (zR (uR (zR R 80) 79 3 80) 81) 79 4 81) 82) 79 5 82) 83) 79 6 83) 84) := hF41.z rfl
  have hK48 : RK ((79, 7, 84) :: ((79, 6, 83) :: ((79, 5, 82) :: ((79, 4, 81) :: ((79, 3, 80) :: ([])))))) (uR (zR (uR (zR (uR (zR (uR (zR (uR (zR R 80) 79 3 80) 81) 79 4 81) 82) 79 5 82) 83) 79 6 83) 84) 79 7 84) := hK46.u rfl
  have hF49 : FR 79 R (uR (zR (uR (zR (uR (zR (uR (zR (uR (zR R 80) 79 3 80) 81) 79 4 81) 82) 79 5 82) 83) 79 6 83) 84) 79 7 84) := hF47.u rfl
  exact ⟨rfl, fun z => absurd z (by decide), hQ _ _ _ hB42 hF49 hK48 hI44 hZ43 hJ45 trivial⟩
noncomputable def zk_X0_init_85 : List (Nat × Nat × Int32) := []
noncomputable def lk_X0_init_85 : List (Nat × Nat × Nat) := (85, 8, 90) :: ((85, 7, 89) :: ((85, 6, 88) :: ((85, 5, 87) :: ((85, 0, 86) :: ([])))))
set_option maxHeartbeats 4000000 in
set_option maxRecDepth 100000 in
theorem ct_X0_init_85 {d : Nat} {Q : Qt} {I : Im} {J : Jm} {R : Rm} (hB : BZ I) (hQ : ∀ (I2 : Im) (J2 : Jm) (R2 : Rm), BZ I2 → FR 85 R R2 → RK lk_X0_init_85 R2 → FI 85 I I2 → KI zk_X0_init_85 I2 → FJ 85 J J2 → True → Q 0 0 I2 J2 R2) : AM (d + 1) 0 85 [.ref 85] I J R Q := by
  refine amc_of (k := kX0_init) rfl rfl rfl rfl rfl rfl (Nat.le_of_ble_eq_true rfl) (fun P hc => ?_)
  refine cs_X0_init_85_0_85 hc _ _ _ ?_
  refine ⟨rfl, ?_⟩
  have hB1 : BZ (zI I 86) := hB.z
  have hZ2 : KI ([]) (zI I 86) := (KI.nil (I := I)).z rfl
  have hI3 : FI 85 I (zI I 86) := (FI.refl 85 I).z rfl
  have hJ4 : FJ 85 J (zJ J 86) := (FJ.refl 85 J).z rfl
  have hK5 : RK ([]) (zR R 86) := (RK.nil (R := R)).z rfl
  have hF6 : FR 85 R (zR R 86) := (FR.refl 85 R).z rfl
  have hK7 : RK ((85, 0, 86) :: ([])) (uR (zR R 86) 85 0 86) := hK5.u rfl
  have hF8 : FR 85 R (uR (zR R 86) 85 0 86) := hF6.u rfl
  have hB9 : BZ (uI (zI I 86) 85 1 4) := hB1.kw rfl rfl rfl
  have hZ10 : KI ([]) (uI (zI I 86) 85 1 4) := hZ2.w rfl
  have hI11 : FI 85 I (uI (zI I 86) 85 1 4) := hI3.w rfl
  have hB12 : BZ (uI (uI (zI I 86) 85 1 4) 85 2 1073741823) := hB9.kw rfl rfl rfl
  have hZ13 : KI ([]) (uI (uI (zI I 86) 85 1 4) 85 2 1073741823) := hZ10.w rfl
  have hI14 : FI 85 I (uI (uI (zI I 86) 85 1 4) 85 2 1073741823) := hI11.w rfl
  have hB15 : BZ (uI (uI (uI (zI I 86) 85 1 4) 85 2 1073741823) 85 3 0) := hB12.kw rfl rfl rfl
  have hZ16 : KI ([]) (uI (uI (uI (zI I 86) 85 1 4) 85 2 1073741823) 85 3 0) := hZ13.w rfl
  have hI17 : FI 85 I (uI (uI (uI (zI I 86) 85 1 4) 85 2 1073741823) 85 3 0) := hI14.w rfl
  have hB18 : BZ (uI (uI (uI (uI (zI I 86) 85 1 4) 85 2 1073741823) 85 3 0) 85 4 0) := hB15.kw rfl rfl rfl
  have hZ19 : KI ([]) (uI (uI (uI (uI (zI I 86) 85 1 4) 85 2 1073741823) 85 3 0) 85 4 0) := hZ16.w rfl
  have hI20 : FI 85 I (uI (uI (uI (uI (zI I 86) 85 1 4) 85 2 1073741823) 85 3 0) 85 4 0) := hI17.w rfl
  refine ⟨rfl, ?_⟩
  have hB21 : BZ (zI (uI (uI (uI (uI (zI I 86) 85 1 4) 85 2 1073741823) 85 3 0) 85 4 0) 87) := hB18.z
  have hZ22 : KI ([]) (zI (uI (uI (uI (uI (zI I 86) 85 1 4) 85 2 1073741823) 85 3 0) 85 4 0) 87) := hZ19.z rfl
  have hI23 : FI 85 I (zI (uI (uI (uI (uI (zI I 86) 85 1 4) 85 2 1073741823) 85 3 0) 85 4 0) 87) := hI20.z rfl
  have hJ24 : FJ 85 J (zJ (zJ J 86) 87) := hJ4.z rfl
  have hK25 : RK ((85, 0, 86) :: ([])) (zR (uR (zR R 86) 85 0 86) 87) := hK7.z rfl
  have hF26 : FR 85 R (zR (uR (zR R 86) 85 0 86) 87) := hF8.z rfl
  have hK27 : RK ((85, 5, 87) :: ((85, 0, 86) :: ([]))) (uR (zR (uR (zR R 86) 85 0 86) 87) 85 5 87) := hK25.u rfl
  have hF28 : FR 85 R (uR (zR (uR (zR R 86) 85 0 86) 87) 85 5 87) := hF26.u rfl
  refine ⟨rfl, ?_⟩
  have hB29 : BZ (zI (zI (uI (uI (uI (uI (zI I 86) 85 1 4) 85 2 1073741823) 85 3 0) 85 4 0) 87) 88) := hB21.z
  have hZ30 : KI ([]) (zI (zI (uI (uI (uI (uI (zI I 86) 85 1 4) 85 2 1073741823) 85 3 0) 85 4 0) 87) 88) := hZ22.z rfl
  have hI31 : FI 85 I (zI (zI (uI (uI (uI (uI (zI I 86) 85 1 4) 85 2 1073741823) 85 3 0) 85 4 0) 87) 88) := hI23.z rfl
  have hJ32 : FJ 85 J (zJ (zJ (zJ J 86) 87) 88) := hJ24.z rfl
  have hK33 : RK ((85, 5, 87) :: ((85, 0, 86) :: ([]))) (zR (uR (zR (uR (zR R 86) 85 0 86) 87) 85 5 87) 88) := hK27.z rfl
  have hF34 : FR 85 R (zR (uR (zR (uR (zR R 86) 85 0 86) 87) 85 5 87) 88) := hF28.z rfl
  have hK35 : RK ((85, 6, 88) :: ((85, 5, 87) :: ((85, 0, 86) :: ([])))) (uR (zR (uR (zR (uR (zR R 86) 85 0 86) 87) 85 5 87) 88) 85 6 88) := hK33.u rfl
  have hF36 : FR 85 R (uR (zR (uR (zR (uR (zR R 86) 85 0 86) 87) 85 5 87) 88) 85 6 88) := hF34.u rfl
  refine ⟨rfl, ?_⟩
  have hB37 : BZ (zI (zI (zI (uI (uI (uI (uI (zI I 86) 85 1 4) 85 2 1073741823) 85 3 0) 85 4 0) 87) 88) 89) := hB29.z
  have hZ38 : KI ([]) (zI (zI (zI (uI (uI (uI (uI (zI I 86) 85 1 4) 85 2 1073741823) 85 3 0) 85 4 0) 87) 88) 89) := hZ30.z rfl
  have hI39 : FI 85 I (zI (zI (zI (uI (uI (uI (uI (zI I 86) 85 1 4) 85 2 1073741823) 85 3 0) 85 4 0) 87) 88) 89) := hI31.z rfl
  have hJ40 : FJ 85 J (zJ (zJ (zJ (zJ J 86) 87) 88) 89) := hJ32.z rfl
  have hK41 : RK ((85, 6, 88) :: ((85, 5, 87) :: ((85, 0, 86) :: ([])))) (zR (uR (zR (uR (zR (uR (zR R 86) 85 0 86) 87) 85 5 87) 88) 85 6 88) 89) := hK35.z rfl
  have hF42 : FR 85 R (zR (uR (zR (uR (zR (uR (zR R 86) 85 0 86) 87) 85 5 87) 88) 85 6 88) 89) := hF36.z rfl
  have hK43 : RK ((85, 7, 89) :: ((85, 6, 88) :: ((85, 5, 87) :: ((85, 0, 86) :: ([]))))) (uR (zR (uR (zR (uR (zR (uR (zR R 86) 85 0 86) 87) 85 5 87) 88) 85 6 88) 89) 85 7 89) := hK41.u rfl
  have hF44 : FR 85 R (uR (zR (uR (zR (uR (zR (uR (zR R 86) 85 0 86) 87) 85 5 87) 88) 85 6 88) 89) 85 7 89) := hF42.u rfl
  refine ⟨rfl, ?_⟩
  have hB45 : BZ (zI (zI (zI (zI (uI (uI (uI (uI (zI I 86) 85 1 4) 85 2 1073741823) 85 3 0) 85 4 0) 87) 88) 89) 90) := hB37.z
  have hZ46 : KI ([]) (zI (zI (zI (zI (uI (uI (uI (uI (zI I 86) 85 1 4) 85 2 1073741823) 85 3 0) 85 4 0) 87) 88) 89) 90) := hZ38.z rfl
  have hI47 : FI 85 I (zI (zI (zI (zI (uI (uI (uI (uI (zI I 86) 85 1 4) 85 2 1073741823) 85 3 0) 85 4 0) 87) 88) 89) 90) := hI39.z rfl
  have hJ48 : FJ 85 J (zJ (zJ (zJ (zJ (zJ J 86) 87) 88) 89) 90) := hJ40.z rfl
  have hK49 : RK ((85, 7, 89) :: ((85, 6, 88) :: ((85, 5, 87) :: ((85, 0, 86) :: ([]))))) (zR (uR (zR (uR (zR (uR (zR (uR (zR R 86) 85 0 86) 87) 85 5 87) 88) 85 6 88) 89) 85 7 89) 90) := hK43.z rfl
  have hF50 : FR 85 R (zR (uR (zR (uR (zR (uR (zR (uR (zR R 86) 85 0 86) 87) 85 5 87) 88) 85 6 88) 89) 85 7 89) 90) := hF44.z rfl
  have hK51 : RK ((85, 8, 90) :: ((85, 7, 89) :: ((85, 6, 88) :: ((85, 5, 87) :: ((85, 0, 86) :: ([])))))) (uR (zR (uR (zR (uR (zR (uR (zR (uR (zR R 86) 85 0 86) 87) 85 5 87) 88) 85 6 88) 89) 85 7 89) 90) 85 8 90) := hK49.u rfl
  have hF52 : FR 85 R (uR (zR (uR (zR (uR (zR (uR (zR (uR (zR R 86) 85 0 86) 87) 85 5 87) 88) 85 6 88) 89) 85 7 89) 90) 85 8 90) := hF50.u rfl
  exact ⟨rfl, fun z => absurd z (by decide), hQ _ _ _ hB45 hF52 hK51 hI47 hZ46 hJ48 trivial⟩
noncomputable def zk_X2_init_91 : List (Nat × Nat × Int32) := []
noncomputable def lk_X2_init_91 : List (Nat × Nat × Nat) := (91, 7, 96) :: ((91, 6, 95) :: ((91, 5, 94) :: ((91, 4, 93) :: ((91, 3, 92) :: ([])))))
set_option maxHeartbeats 4000000 in
set_option maxRecDepth 100000 in
theorem ct_X2_init_91 {d : Nat} {Q : Qt} {I : Im} {J : Jm} {R : Rm} (hB : BZ I) (hQ : ∀ (I2 : Im) (J2 : Jm) (R2 : Rm), BZ I2 → FR 91 R R2 → RK lk_X2_init_91 R2 → FI 91 I I2 → KI zk_X2_init_91 I2 → FJ 91 J J2 → True → Q 0 0 I2 J2 R2) : AM (d + 1) 27 91 [.ref 91] I J R Q := by
  refine amc_of (k := kX2_init) rfl rfl rfl rfl rfl rfl (Nat.le_of_ble_eq_true rfl) (fun P hc => ?_)
  refine cs_X2_init_91_0_91 hc _ _ _ ?_
  refine ⟨Or.inl rfl, ?_⟩
  have hB1 : BZ (uI I 91 0 0) := hB.kw rfl rfl rfl
  have hZ2 : KI ([]) (uI I 91 0 0) := (KI.nil (I := I)).w rfl
  have hI3 : FI 91 I (uI I 91 0 0) := (FI.refl 91 I).w rfl
  have hB4 : BZ (uI (uI I 91 0 0) 91 1 0) := hB1.kw rfl rfl rfl
  have hZ5 : KI ([]) (uI (uI I 91 0 0) 91 1 0) := hZ2.w rfl
  have hI6 : FI 91 I (uI (uI I 91 0 0) 91 1 0) := hI3.w rfl
  have hB7 : BZ (uI (uI (uI I 91 0 0) 91 1 0) 91 2 0) := hB4.kw rfl rfl rfl
  have hZ8 : KI ([]) (uI (uI (uI I 91 0 0) 91 1 0) 91 2 0) := hZ5.w rfl
  have hI9 : FI 91 I (uI (uI (uI I 91 0 0) 91 1 0) 91 2 0) := hI6.w rfl
  refine ⟨rfl, ?_⟩
  have hB10 : BZ (zI (uI (uI (uI I 91 0 0) 91 1 0) 91 2 0) 92) := hB7.z
  have hZ11 : KI ([]) (zI (uI (uI (uI I 91 0 0) 91 1 0) 91 2 0) 92) := hZ8.z rfl
  have hI12 : FI 91 I (zI (uI (uI (uI I 91 0 0) 91 1 0) 91 2 0) 92) := hI9.z rfl
  have hJ13 : FJ 91 J (zJ J 92) := (FJ.refl 91 J).z rfl
  have hK14 : RK ([]) (zR R 92) := (RK.nil (R := R)).z rfl
  have hF15 : FR 91 R (zR R 92) := (FR.refl 91 R).z rfl
  have hK16 : RK ((91, 3, 92) :: ([])) (uR (zR R 92) 91 3 92) := hK14.u rfl
  have hF17 : FR 91 R (uR (zR R 92) 91 3 92) := hF15.u rfl
  refine ⟨rfl, ?_⟩
  have hB18 : BZ (zI (zI (uI (uI (uI I 91 0 0) 91 1 0) 91 2 0) 92) 93) := hB10.z
  have hZ19 : KI ([]) (zI (zI (uI (uI (uI I 91 0 0) 91 1 0) 91 2 0) 92) 93) := hZ11.z rfl
  have hI20 : FI 91 I (zI (zI (uI (uI (uI I 91 0 0) 91 1 0) 91 2 0) 92) 93) := hI12.z rfl
  have hJ21 : FJ 91 J (zJ (zJ J 92) 93) := hJ13.z rfl
  have hK22 : RK ((91, 3, 92) :: ([])) (zR (uR (zR R 92) 91 3 92) 93) := hK16.z rfl
  have hF23 : FR 91 R (zR (uR (zR R 92) 91 3 92) 93) := hF17.z rfl
  have hK24 : RK ((91, 4, 93) :: ((91, 3, 92) :: ([]))) (uR (zR (uR (zR R 92) 91 3 92) 93) 91 4 93) := hK22.u rfl
  have hF25 : FR 91 R (uR (zR (uR (zR R 92) 91 3 92) 93) 91 4 93) := hF23.u rfl
  refine ⟨rfl, ?_⟩
  have hB26 : BZ (zI (zI (zI (uI (uI (uI I 91 0 0) 91 1 0) 91 2 0) 92) 93) 94) := hB18.z
  have hZ27 : KI ([]) (zI (zI (zI (uI (uI (uI I 91 0 0) 91 1 0) 91 2 0) 92) 93) 94) := hZ19.z rfl
  have hI28 : FI 91 I (zI (zI (zI (uI (uI (uI I 91 0 0) 91 1 0) 91 2 0) 92) 93) 94) := hI20.z rfl
  have hJ29 : FJ 91 J (zJ (zJ (zJ J 92) 93) 94) := hJ21.z rfl
  have hK30 : RK ((91, 4, 93) :: ((91, 3, 92) :: ([]))) (zR (uR (zR (uR (zR R 92) 91 3 92) 93) 91 4 93) 94) := hK24.z rfl
  have hF31 : FR 91 R (zR (uR (zR (uR (zR R 92) 91 3 92) 93) 91 4 93) 94) := hF25.z rfl
  have hK32 : RK ((91, 5, 94) :: ((91, 4, 93) :: ((91, 3, 92) :: ([])))) (uR (zR (uR (zR (uR (zR R 92) 91 3 92) 93) 91 4 93) 94) 91 5 94) := hK30.u rfl
  have hF33 : FR 91 R (uR (zR (uR (zR (uR (zR R 92) 91 3 92) 93) 91 4 93) 94) 91 5 94) := hF31.u rfl
  refine ⟨rfl, ?_⟩
  have hB34 : BZ (zI (zI (zI (zI (uI (uI (uI I 91 0 0) 91 1 0) 91 2 0) 92) 93) 94) 95) := hB26.z
  have hZ35 : KI ([]) (zI (zI (zI (zI (uI (uI (uI I 91 0 0) 91 1 0) 91 2 0) 92) 93) 94) 95) := hZ27.z rfl
  have hI36 : FI 91 I (zI (zI (zI (zI (uI (uI (uI I 91 0 0) 91 1 0) 91 2 0) 92) 93) 94) 95) := hI28.z rfl
  have hJ37 : FJ 91 J (zJ (zJ (zJ (zJ J 92) 93) 94) 95) := hJ29.z rfl
  have hK38 : RK ((91, 5, 94) :: ((91, 4, 93) :: ((91, 3, 92) :: ([])))) (zR (uR (zR (uR (zR (uR (zR R 92) 91 3 92) 93) 91 4 93) 94) 91 5 94) 95) := hK32.z rfl
  have hF39 : FR 91 R (zR (uR (zR (uR (zR (uR (zR R 92) 91 3 92) 93) 91 4 93) 94) 91 5 94) 95) := hF33.z rfl
  have hK40 : RK ((91, 6, 95) :: ((91, 5, 94) :: ((91, 4, 93) :: ((91, 3, 92) :: ([]))))) (uR (zR (uR (zR (uR (zR (uR (zR R 92) 91 3 92) 93) 91 4 93) 94) 91 5 94) 95) 91 6 95) := hK38.u rfl
  have hF41 : FR 91 R (uR (zR (uR (zR (uR (zR (uR (zR R 92) 91 3 92) 93) 91 4 93) 94) 91 5 94) 95) 91 6 95) := hF39.u rfl
  refine ⟨rfl, ?_⟩
  have hB42 : BZ (zI (zI (zI (zI (zI (uI (uI (uI I 91 0 0) 91 1 0) 91 2 0) 92) 93) 94) 95) 96) := hB34.z
  have hZ43 : KI ([]) (zI (zI (zI (zI (zI (uI (uI (uI I 91 0 0) 91 1 0) 91 2 0) 92) 93) 94) 95) 96) := hZ35.z rfl
  have hI44 : FI 91 I (zI (zI (zI (zI (zI (uI (uI (uI I 91 0 0) 91 1 0) 91 2 0) 92) 93) 94) 95) 96) := hI36.z rfl
  have hJ45 : FJ 91 J (zJ (zJ (zJ (zJ (zJ J 92) 93) 94) 95) 96) := hJ37.z rfl
  have hK46 : RK ((91, 6, 95) :: ((91, 5, 94) :: ((91, 4, 93) :: ((91, 3, 92) :: ([]))))) (zR (uR (zR (uR (zR (uR (zR (uR (zR R 92) 91 3 92) 93) 91 4 93) 94) 91 5 94) 95) 91 6 95) 96) := hK40.z rfl
  have hF47 : FR 91 R (zR (uR (zR (uR (zR (uR (zR (uR (zR R 92) 91 3 92) 93) 91 4 93) 94) 91 5 94) 95) 91 6 95) 96) := hF41.z rfl
  have hK48 : RK ((91, 7, 96) :: ((91, 6, 95) :: ((91, 5, 94) :: ((91, 4, 93) :: ((91, 3, 92) :: ([])))))) (uR (zR (uR (zR (uR (zR (uR (zR (uR (zR R 92) 91 3 92) 93) 91 4 93) 94) 91 5 94) 95) 91 6 95) 96) 91 7 96) := hK46.u rfl
  have hF49 : FR 91 R (uR (zR (uR (zR (uR (zR (uR (zR (uR (zR R 92) 91 3 92) 93) 91 4 93) 94) 91 5 94) 95) 91 6 95) 96) 91 7 96) := hF47.u rfl
  exact ⟨rfl, fun z => absurd z (by decide), hQ _ _ _ hB42 hF49 hK48 hI44 hZ43 hJ45 trivial⟩
noncomputable def zk_X11_init_1 : List (Nat × Nat × Int32) := zk_X2_init_91 ++ (zk_X0_init_85 ++ (zk_X2_init_79 ++ (zk_X0_init_73 ++ (zk_X2_init_67 ++ (zk_X0_init_61 ++ (zk_X10_init_59 ++ (zk_X10_init_57 ++ (zk_X10_init_55 ++ (zk_X10_init_53 ++ (zk_X4_init_51 ++ (zk_X4_init_49 ++ (zk_X9_init_45 ++ (zk_X5_init_42 ++ (zk_X8_init_39 ++ (zk_X7_init_35 ++ (zk_X2_init_27 ++ (zk_X2_init_21 ++ (zk_X0_init_15 ++ (zk_X0_init_9 ++ (zk_X3_init_7 ++ (zk_X1_init_6 ++ (zk_X6_init_3 ++ ([])))))))))))))))))))))))
noncomputable def lk_X11_init_1 : List (Nat × Nat × Nat) := (34, 2, 91) :: (lk_X2_init_91 ++ ((33, 2, 85) :: (lk_X0_init_85 ++ ((34, 1, 79) :: (lk_X2_init_79 ++ ((33, 1, 73) :: (lk_X0_init_73 ++ ((34, 0, 67) :: (lk_X2_init_67 ++ ((33, 0, 61) :: (lk_X0_init_61 ++ ((2, 3, 59) :: (lk_X10_init_59 ++ ((2, 2, 57) :: (lk_X10_init_57 ++ ((2, 1, 55) :: (lk_X10_init_55 ++ ((2, 0, 53) :: (lk_X10_init_53 ++ ((1, 19, 51) :: (lk_X4_init_51 ++ ((1, 18, 49) :: (lk_X4_init_49 ++ ((1, 17, 45) :: (lk_X9_init_45 ++ ((1, 16, 42) :: (lk_X5_init_42 ++ ((1, 15, 39) :: (lk_X8_init_39 ++ ((1, 14, 35) :: (lk_X7_init_35 ++ ((1, 12, 34) :: ((1, 11, 33) :: ((1, 10, 27) :: (lk_X2_init_27 ++ ((1, 9, 21) :: (lk_X2_init_21 ++ ((1, 8, 15) :: (lk_X0_init_15 ++ ((1, 7, 9) :: (lk_X0_init_9 ++ ((1, 6, 7) :: (lk_X3_init_7 ++ ((1, 5, 6) :: ((1, 4, 3) :: (lk_X6_init_3 ++ ((1, 3, 2) :: ([]))))))))))))))))))))))))))))))))))))))))))))))))
set_option maxHeartbeats 4000000 in
set_option maxRecDepth 100000 in
theorem ct_X11_init_1 {d : Nat} {Q : Qt} {I : Im} {J : Jm} {R : Rm} (hB : BZ I) (hQ : ∀ (I2 : Im) (J2 : Jm) (R2 : Rm), BZ I2 → FR 1 R R2 → RK lk_X11_init_1 R2 → FI 1 I I2 → KI zk_X11_init_1 I2 → FJ 1 J J2 → (J2 47 0 = 0 ∧ ∀ k, k < 22 → J2 5 k = rsv.getD k 0) → Q 0 0 I2 J2 R2) : AM (d + 7) 99 1 [.ref 1] I J R Q := by
  refine amc_of (k := kX11_init) rfl rfl rfl rfl rfl rfl (Nat.le_of_ble_eq_true rfl) (fun P hc => ?_)
  refine cs_X11_init_1_0_1 hc _ _ _ ?_
  have hB1 : BZ (uI I 1 0 0) := hB.kw rfl rfl rfl
  have hZ2 : KI ([]) (uI I 1 0 0) := (KI.nil (I := I)).w rfl
  have hI3 : FI 1 I (uI I 1 0 0) := (FI.refl 1 I).w rfl
  have hJ4 : FJ 1 J (uJ J 1 1 0) := (FJ.refl 1 J).w rfl
  have hJ5 : FJ 1 J (uJ (uJ J 1 1 0) 1 2 1) := hJ4.w rfl
  refine ⟨rfl, ?_⟩
  have hB6 : BZ (zI (uI I 1 0 0) 2) := hB1.z
  have hZ7 : KI ([]) (zI (uI I 1 0 0) 2) := hZ2.z rfl
  have hI8 : FI 1 I (zI (uI I 1 0 0) 2) := hI3.z rfl
  have hJ9 : FJ 1 J (zJ (uJ (uJ J 1 1 0) 1 2 1) 2) := hJ5.z rfl
  have hK10 : RK ([]) (zR R 2) := (RK.nil (R := R)).z rfl
  have hF11 : FR 1 R (zR R 2) := (FR.refl 1 R).z rfl
  have hK12 : RK ((1, 3, 2) :: ([])) (uR (zR R 2) 1 3 2) := hK10.u rfl
  have hF13 : FR 1 R (uR (zR R 2) 1 3 2) := hF11.u rfl
  have hB14 : BZ (zI (zI (uI I 1 0 0) 2) 3) := hB6.z
  have hZ15 : KI ([]) (zI (zI (uI I 1 0 0) 2) 3) := hZ7.z rfl
  have hI16 : FI 1 I (zI (zI (uI I 1 0 0) 2) 3) := hI8.z rfl
  have hJ17 : FJ 1 J (zJ (zJ (uJ (uJ J 1 1 0) 1 2 1) 2) 3) := hJ9.z rfl
  have hK18 : RK ((1, 3, 2) :: ([])) (zR (uR (zR R 2) 1 3 2) 3) := hK12.z rfl
  have hF19 : FR 1 R (zR (uR (zR R 2) 1 3 2) 3) := hF13.z rfl
  refine ct_X6_init_3 hB14 (fun I20 J21 R22 hB23 hF24 hK25 hI26 hZ27 hJ28 jz29 => ?_)
  have hZ30 : KI (zk_X6_init_3 ++ ([])) I20 := hZ27.app (hZ15.fr hI26 rfl)
  have hI31 : FI 1 I I20 := fun o ho => (hI26 o (by omega)).trans (hI16 o ho)
  have hJ32 : FJ 1 J J21 := fun o ho => (hJ28 o (by omega)).trans (hJ17 o ho)
  have hK33 : RK (lk_X6_init_3 ++ ((1, 3, 2) :: ([]))) R22 := hK25.app (hK18.fr hF24 rfl)
  have hF34 : FR 1 R R22 := fun o ho => (hF24 o (by omega)).trans (hF19 o ho)
  have hK35 : RK ((1, 4, 3) :: (lk_X6_init_3 ++ ((1, 3, 2) :: ([])))) (uR R22 1 4 3) := hK33.u rfl
  have hF36 : FR 1 R (uR R22 1 4 3) := hF34.u rfl
  have hB37 : BZ (zI I20 6) := hB23.z
  have hZ38 : KI (zk_X6_init_3 ++ ([])) (zI I20 6) := hZ30.z rfl
  have hI39 : FI 1 I (zI I20 6) := hI31.z rfl
  have hJ40 : FJ 1 J (zJ J21 6) := hJ32.z rfl
  have jf41 : ∀ k, k < 22 → (zJ J21 6) 5 k = rsv.getD k 0 := J5.z jz29 rfl
  have hK42 : RK ((1, 4, 3) :: (lk_X6_init_3 ++ ((1, 3, 2) :: ([])))) (zR (uR R22 1 4 3) 6) := hK35.z rfl
  have hF43 : FR 1 R (zR (uR R22 1 4 3) 6) := hF36.z rfl
  refine ct_X1_init_6 hB37 (fun I44 J45 R46 hB47 hF48 hK49 hI50 hZ51 hJ52 jz53 => ?_)
  have hZ54 : KI (zk_X1_init_6 ++ (zk_X6_init_3 ++ ([]))) I44 := hZ51.app (hZ38.fr hI50 rfl)
  have hI55 : FI 1 I I44 := fun o ho => (hI50 o (by omega)).trans (hI39 o ho)
  have hJ56 : FJ 1 J J45 := fun o ho => (hJ52 o (by omega)).trans (hJ40 o ho)
  have jf57 : ∀ k, k < 22 → J45 5 k = rsv.getD k 0 := fun k hk => (congrFun (hJ52 5 (by decide)) k).trans (jf41 k hk)
  subst hF48
  have hK58 : RK ((1, 5, 6) :: ((1, 4, 3) :: (lk_X6_init_3 ++ ((1, 3, 2) :: ([]))))) (uR (zR (uR R22 1 4 3) 6) 1 5 6) := hK42.u rfl
  have hF59 : FR 1 R (uR (zR (uR R22 1 4 3) 6) 1 5 6) := hF43.u rfl
  have hB60 : BZ (zI I44 7) := hB47.z
  have hZ61 : KI (zk_X1_init_6 ++ (zk_X6_init_3 ++ ([]))) (zI I44 7) := hZ54.z rfl
  have hI62 : FI 1 I (zI I44 7) := hI55.z rfl
  have hJ63 : FJ 1 J (zJ J45 7) := hJ56.z rfl
  have jf64 : ∀ k, k < 22 → (zJ J45 7) 5 k = rsv.getD k 0 := J5.z jf57 rfl
  have hK65 : RK ((1, 5, 6) :: ((1, 4, 3) :: (lk_X6_init_3 ++ ((1, 3, 2) :: ([]))))) (zR (uR (zR (uR R22 1 4 3) 6) 1 5 6) 7) := hK58.z rfl
  have hF66 : FR 1 R (zR (uR (zR (uR R22 1 4 3) 6) 1 5 6) 7) := hF59.z rfl
  refine ct_X3_init_7 hB60 (fun I67 J68 R69 hB70 hF71 hK72 hI73 hZ74 hJ75 jz76 => ?_)
  have hZ77 : KI (zk_X3_init_7 ++ (zk_X1_init_6 ++ (zk_X6_init_3 ++ ([])))) I67 := hZ74.app (hZ61.fr hI73 rfl)
  have hI78 : FI 1 I I67 := fun o ho => (hI73 o (by omega)).trans (hI62 o ho)
  have hJ79 : FJ 1 J J68 := fun o ho => (hJ75 o (by omega)).trans (hJ63 o ho)
  have jf80 : ∀ k, k < 22 → J68 5 k = rsv.getD k 0 := fun k hk => (congrFun (hJ75 5 (by decide)) k).trans (jf64 k hk)
  have hK81 : RK (lk_X3_init_7 ++ ((1, 5, 6) :: ((1, 4, 3) :: (lk_X6_init_3 ++ ((1, 3, 2) :: ([])))))) R69 := hK72.app (hK65.fr hF71 rfl)
  have hF82 : FR 1 R R69 := fun o ho => (hF71 o (by omega)).trans (hF66 o ho)
  have hK83 : RK ((1, 6, 7) :: (lk_X3_init_7 ++ ((1, 5, 6) :: ((1, 4, 3) :: (lk_X6_init_3 ++ ((1, 3, 2) :: ([]))))))) (uR R69 1 6 7) := hK81.u rfl
  have hF84 : FR 1 R (uR R69 1 6 7) := hF82.u rfl
  have hB85 : BZ (zI I67 9) := hB70.z
  have hZ86 : KI (zk_X3_init_7 ++ (zk_X1_init_6 ++ (zk_X6_init_3 ++ ([])))) (zI I67 9) := hZ77.z rfl
  have hI87 : FI 1 I (zI I67 9) := hI78.z rfl
  have hJ88 : FJ 1 J (zJ J68 9) := hJ79.z rfl
  have jf89 : ∀ k, k < 22 → (zJ J68 9) 5 k = rsv.getD k 0 := J5.z jf80 rfl
  have hK90 : RK ((1, 6, 7) :: (lk_X3_init_7 ++ ((1, 5, 6) :: ((1, 4, 3) :: (lk_X6_init_3 ++ ((1, 3, 2) :: ([]))))))) (zR (uR R69 1 6 7) 9) := hK83.z rfl
  have hF91 : FR 1 R (zR (uR R69 1 6 7) 9) := hF84.z rfl
  refine ct_X0_init_9 hB85 (fun I92 J93 R94 hB95 hF96 hK97 hI98 hZ99 hJ100 jz101 => ?_)
  have hZ102 : KI (zk_X0_init_9 ++ (zk_X3_init_7 ++ (zk_X1_init_6 ++ (zk_X6_init_3 ++ ([]))))) I92 := hZ99.app (hZ86.fr hI98 rfl)
  have hI103 : FI 1 I I92 := fun o ho => (hI98 o (by omega)).trans (hI87 o ho)
  have hJ104 : FJ 1 J J93 := fun o ho => (hJ100 o (by omega)).trans (hJ88 o ho)
  have jf105 : ∀ k, k < 22 → J93 5 k = rsv.getD k 0 := fun k hk => (congrFun (hJ100 5 (by decide)) k).trans (jf89 k hk)
  have hK106 : RK (lk_X0_init_9 ++ ((1, 6, 7) :: (lk_X3_init_7 ++ ((1, 5, 6) :: ((1, 4, 3) :: (lk_X6_init_3 ++ ((1, 3, 2) :: ([])))))))) R94 := hK97.app (hK90.fr hF96 rfl)
  have hF107 : FR 1 R R94 := fun o ho => (hF96 o (by omega)).trans (hF91 o ho)
  refine ⟨by decide, ?_⟩
  have hK108 : RK ((1, 7, 9) :: (lk_X0_init_9 ++ ((1, 6, 7) :: (lk_X3_init_7 ++ ((1, 5, 6) :: ((1, 4, 3) :: (lk_X6_init_3 ++ ((1, 3, 2) :: ([]))))))))) (uR R94 1 7 9) := hK106.u rfl
  have hF109 : FR 1 R (uR R94 1 7 9) := hF107.u rfl
  have hB110 : BZ (zI I92 15) := hB95.z
  have hZ111 : KI (zk_X0_init_9 ++ (zk_X3_init_7 ++ (zk_X1_init_6 ++ (zk_X6_init_3 ++ ([]))))) (zI I92 15) := hZ102.z rfl
  have hI112 : FI 1 I (zI I92 15) := hI103.z rfl
  have hJ113 : FJ 1 J (zJ J93 15) := hJ104.z rfl
  have jf114 : ∀ k, k < 22 → (zJ J93 15) 5 k = rsv.getD k 0 := J5.z jf105 rfl
  have hK115 : RK ((1, 7, 9) :: (lk_X0_init_9 ++ ((1, 6, 7) :: (lk_X3_init_7 ++ ((1, 5, 6) :: ((1, 4, 3) :: (lk_X6_init_3 ++ ((1, 3, 2) :: ([]))))))))) (zR (uR R94 1 7 9) 15) := hK108.z rfl
  have hF116 : FR 1 R (zR (uR R94 1 7 9) 15) := hF109.z rfl
  refine ct_X0_init_15 hB110 (fun I117 J118 R119 hB120 hF121 hK122 hI123 hZ124 hJ125 jz126 => ?_)
  have hZ127 : KI (zk_X0_init_15 ++ (zk_X0_init_9 ++ (zk_X3_init_7 ++ (zk_X1_init_6 ++ (zk_X6_init_3 ++ ([])))))) I117 := hZ124.app (hZ111.fr hI123 rfl)
  have hI128 : FI 1 I I117 := fun o ho => (hI123 o (by omega)).trans (hI112 o ho)
  have hJ129 : FJ 1 J J118 := fun o ho => (hJ125 o (by omega)).trans (hJ113 o ho)
  have jf130 : ∀ k, k < 22 → J118 5 k = rsv.getD k 0 := fun k hk => (congrFun (hJ125 5 (by decide)) k).trans (jf114 k hk)
  have hK131 : RK (lk_X0_init_15 ++ ((1, 7, 9) :: (lk_X0_init_9 ++ ((1, 6, 7) :: (lk_X3_init_7 ++ ((1, 5, 6) :: ((1, 4, 3) :: (lk_X6_init_3 ++ ((1, 3, 2) :: ([])))))))))) R119 := hK122.app (hK115.fr hF121 rfl)
  have hF132 : FR 1 R R119 := fun o ho => (hF121 o (by omega)).trans (hF116 o ho)
  refine ⟨by decide, ?_⟩
  have hK133 : RK ((1, 8, 15) :: (lk_X0_init_15 ++ ((1, 7, 9) :: (lk_X0_init_9 ++ ((1, 6, 7) :: (lk_X3_init_7 ++ ((1, 5, 6) :: ((1, 4, 3) :: (lk_X6_init_3 ++ ((1, 3, 2) :: ([]))))))))))) (uR R119 1 8 15) := hK131.u rfl
  have hF134 : FR 1 R (uR R119 1 8 15) := hF132.u rfl
  have hB135 : BZ (zI I117 21) := hB120.z
  have hZ136 : KI (zk_X0_init_15 ++ (zk_X0_init_9 ++ (zk_X3_init_7 ++ (zk_X1_init_6 ++ (zk_X6_init_3 ++ ([])))))) (zI I117 21) := hZ127.z rfl
  have hI137 : FI 1 I (zI I117 21) := hI128.z rfl
  have hJ138 : FJ 1 J (zJ J118 21) := hJ129.z rfl
  have jf139 : ∀ k, k < 22 → (zJ J118 21) 5 k = rsv.getD k 0 := J5.z jf130 rfl
  have hK140 : RK ((1, 8, 15) :: (lk_X0_init_15 ++ ((1, 7, 9) :: (lk_X0_init_9 ++ ((1, 6, 7) :: (lk_X3_init_7 ++ ((1, 5, 6) :: ((1, 4, 3) :: (lk_X6_init_3 ++ ((1, 3, 2) :: ([]))))))))))) (zR (uR R119 1 8 15) 21) := hK133.z rfl
  have hF141 : FR 1 R (zR (uR R119 1 8 15) 21) := hF134.z rfl
  refine ct_X2_init_21 hB135 (fun I142 J143 R144 hB145 hF146 hK147 hI148 hZ149 hJ150 jz151 => ?_)
  have hZ152 : KI (zk_X2_init_21 ++ (zk_X0_init_15 ++ (zk_X0_init_9 ++ (zk_X3_init_7 ++ (zk_X1_init_6 ++ (zk_X6_init_3 ++ ([]))))))) I142 := hZ149.app (hZ136.fr hI148 rfl)
  have hI153 : FI 1 I I142 := fun o ho => (hI148 o (by omega)).trans (hI137 o ho)
  have hJ154 : FJ 1 J J143 := fun o ho => (hJ150 o (by omega)).trans (hJ138 o ho)
  have jf155 : ∀ k, k < 22 → J143 5 k = rsv.getD k 0 := fun k hk => (congrFun (hJ150 5 (by decide)) k).trans (jf139 k hk)
  have hK156 : RK (lk_X2_init_21 ++ ((1, 8, 15) :: (lk_X0_init_15 ++ ((1, 7, 9) :: (lk_X0_init_9 ++ ((1, 6, 7) :: (lk_X3_init_7 ++ ((1, 5, 6) :: ((1, 4, 3) :: (lk_X6_init_3 ++ ((1, 3, 2) :: ([])))))))))))) R144 := hK147.app (hK140.fr hF146 rfl)
  have hF157 : FR 1 R R144 := fun o ho => (hF146 o (by omega)).trans (hF141 o ho)
  refine ⟨by decide, ?_⟩
  have hK158 : RK ((1, 9, 21) :: (lk_X2_init_21 ++ ((1, 8, 15) :: (lk_X0_init_15 ++ ((1, 7, 9) :: (lk_X0_init_9 ++ ((1, 6, 7) :: (lk_X3_init_7 ++ ((1, 5, 6) :: ((1, 4, 3) :: (lk_X6_init_3 ++ ((1, 3, 2) :: ([]))))))))))))) (uR R144 1 9 21) := hK156.u rfl
  have hF159 : FR 1 R (uR R144 1 9 21) := hF157.u rfl
  have hB160 : BZ (zI I142 27) := hB145.z
  have hZ161 : KI (zk_X2_init_21 ++ (zk_X0_init_15 ++ (zk_X0_init_9 ++ (zk_X3_init_7 ++ (zk_X1_init_6 ++ (zk_X6_init_3 ++ ([]))))))) (zI I142 27) := hZ152.z rfl
  have hI162 : FI 1 I (zI I142 27) := hI153.z rfl
  have hJ163 : FJ 1 J (zJ J143 27) := hJ154.z rfl
  have jf164 : ∀ k, k < 22 → (zJ J143 27) 5 k = rsv.getD k 0 := J5.z jf155 rfl
  have hK165 : RK ((1, 9, 21) :: (lk_X2_init_21 ++ ((1, 8, 15) :: (lk_X0_init_15 ++ ((1, 7, 9) :: (lk_X0_init_9 ++ ((1, 6, 7) :: (lk_X3_init_7 ++ ((1, 5, 6) :: ((1, 4, 3) :: (lk_X6_init_3 ++ ((1, 3, 2) :: ([]))))))))))))) (zR (uR R144 1 9 21) 27) := hK158.z rfl
  have hF166 : FR 1 R (zR (uR R144 1 9 21) 27) := hF159.z rfl
  refine ct_X2_init_27 hB160 (fun I167 J168 R169 hB170 hF171 hK172 hI173 hZ174 hJ175 jz176 => ?_)
  have hZ177 : KI (zk_X2_init_27 ++ (zk_X2_init_21 ++ (zk_X0_init_15 ++ (zk_X0_init_9 ++ (zk_X3_init_7 ++ (zk_X1_init_6 ++ (zk_X6_init_3 ++ ([])))))))) I167 := hZ174.app (hZ161.fr hI173 rfl)
  have hI178 : FI 1 I I167 := fun o ho => (hI173 o (by omega)).trans (hI162 o ho)
  have hJ179 : FJ 1 J J168 := fun o ho => (hJ175 o (by omega)).trans (hJ163 o ho)
  have jf180 : ∀ k, k < 22 → J168 5 k = rsv.getD k 0 := fun k hk => (congrFun (hJ175 5 (by decide)) k).trans (jf164 k hk)
  have hK181 : RK (lk_X2_init_27 ++ ((1, 9, 21) :: (lk_X2_init_21 ++ ((1, 8, 15) :: (lk_X0_init_15 ++ ((1, 7, 9) :: (lk_X0_init_9 ++ ((1, 6, 7) :: (lk_X3_init_7 ++ ((1, 5, 6) :: ((1, 4, 3) :: (lk_X6_init_3 ++ ((1, 3, 2) :: ([])))))))))))))) R169 := hK172.app (hK165.fr hF171 rfl)
  have hF182 : FR 1 R R169 := fun o ho => (hF171 o (by omega)).trans (hF166 o ho)
  refine ⟨by decide, ?_⟩
  have hK183 : RK ((1, 10, 27) :: (lk_X2_init_27 ++ ((1, 9, 21) :: (lk_X2_init_21 ++ ((1, 8, 15) :: (lk_X0_init_15 ++ ((1, 7, 9) :: (lk_X0_init_9 ++ ((1, 6, 7) :: (lk_X3_init_7 ++ ((1, 5, 6) :: ((1, 4, 3) :: (lk_X6_init_3 ++ ((1, 3, 2) :: ([]))))))))))))))) (uR R169 1 10 27) := hK181.u rfl
  have hF184 : FR 1 R (uR R169 1 10 27) := hF182.u rfl
  refine ⟨rfl, ?_⟩
  have hB185 : BZ (zI I167 33) := hB170.z
  have hZ186 : KI (zk_X2_init_27 ++ (zk_X2_init_21 ++ (zk_X0_init_15 ++ (zk_X0_init_9 ++ (zk_X3_init_7 ++ (zk_X1_init_6 ++ (zk_X6_init_3 ++ ([])))))))) (zI I167 33) := hZ177.z rfl
  have hI187 : FI 1 I (zI I167 33) := hI178.z rfl
  have hJ188 : FJ 1 J (zJ J168 33) := hJ179.z rfl
  have jf189 : ∀ k, k < 22 → (zJ J168 33) 5 k = rsv.getD k 0 := J5.z jf180 rfl
  have hK190 : RK ((1, 10, 27) :: (lk_X2_init_27 ++ ((1, 9, 21) :: (lk_X2_init_21 ++ ((1, 8, 15) :: (lk_X0_init_15 ++ ((1, 7, 9) :: (lk_X0_init_9 ++ ((1, 6, 7) :: (lk_X3_init_7 ++ ((1, 5, 6) :: ((1, 4, 3) :: (lk_X6_init_3 ++ ((1, 3, 2) :: ([]))))))))))))))) (zR (uR R169 1 10 27) 33) := hK183.z rfl
  have hF191 : FR 1 R (zR (uR R169 1 10 27) 33) := hF184.z rfl
  have hK192 : RK ((1, 11, 33) :: ((1, 10, 27) :: (lk_X2_init_27 ++ ((1, 9, 21) :: (lk_X2_init_21 ++ ((1, 8, 15) :: (lk_X0_init_15 ++ ((1, 7, 9) :: (lk_X0_init_9 ++ ((1, 6, 7) :: (lk_X3_init_7 ++ ((1, 5, 6) :: ((1, 4, 3) :: (lk_X6_init_3 ++ ((1, 3, 2) :: ([])))))))))))))))) (uR (zR (uR R169 1 10 27) 33) 1 11 33) := hK190.u rfl
  have hF193 : FR 1 R (uR (zR (uR R169 1 10 27) 33) 1 11 33) := hF191.u rfl
  refine ⟨rfl, ?_⟩
  have hB194 : BZ (zI (zI I167 33) 34) := hB185.z
  have hZ195 : KI (zk_X2_init_27 ++ (zk_X2_init_21 ++ (zk_X0_init_15 ++ (zk_X0_init_9 ++ (zk_X3_init_7 ++ (zk_X1_init_6 ++ (zk_X6_init_3 ++ ([])))))))) (zI (zI I167 33) 34) := hZ186.z rfl
  have hI196 : FI 1 I (zI (zI I167 33) 34) := hI187.z rfl
  have hJ197 : FJ 1 J (zJ (zJ J168 33) 34) := hJ188.z rfl
  have jf198 : ∀ k, k < 22 → (zJ (zJ J168 33) 34) 5 k = rsv.getD k 0 := J5.z jf189 rfl
  have hK199 : RK ((1, 11, 33) :: ((1, 10, 27) :: (lk_X2_init_27 ++ ((1, 9, 21) :: (lk_X2_init_21 ++ ((1, 8, 15) :: (lk_X0_init_15 ++ ((1, 7, 9) :: (lk_X0_init_9 ++ ((1, 6, 7) :: (lk_X3_init_7 ++ ((1, 5, 6) :: ((1, 4, 3) :: (lk_X6_init_3 ++ ((1, 3, 2) :: ([])))))))))))))))) (zR (uR (zR (uR R169 1 10 27) 33) 1 11 33) 34) := hK192.z rfl
  have hF200 : FR 1 R (zR (uR (zR (uR R169 1 10 27) 33) 1 11 33) 34) := hF193.z rfl
  have hK201 : RK ((1, 12, 34) :: ((1, 11, 33) :: ((1, 10, 27) :: (lk_X2_init_27 ++ ((1, 9, 21) :: (lk_X2_init_21 ++ ((1, 8, 15) :: (lk_X0_init_15 ++ ((1, 7, 9) :: (lk_X0_init_9 ++ ((1, 6, 7) :: (lk_X3_init_7 ++ ((1, 5, 6) :: ((1, 4, 3) :: (lk_X6_init_3 ++ ((1, 3, 2) :: ([]))))))))))))))))) (uR (zR (uR (zR (uR R169 1 10 27) 33) 1 11 33) 34) 1 12 34) := hK199.u rfl
  have hF202 : FR 1 R (uR (zR (uR (zR (uR R169 1 10 27) 33) 1 11 33) 34) 1 12 34) := hF200.u rfl
  have hB203 : BZ (uI (zI (zI I167 33) 34) 1 13 0) := hB194.kw rfl rfl rfl
  have hZ204 : KI (zk_X2_init_27 ++ (zk_X2_init_21 ++ (zk_X0_init_15 ++ (zk_X0_init_9 ++ (zk_X3_init_7 ++ (zk_X1_init_6 ++ (zk_X6_init_3 ++ ([])))))))) (uI (zI (zI I167 33) 34) 1 13 0) := hZ195.w rfl
  have hI205 : FI 1 I (uI (zI (zI I167 33) 34) 1 13 0) := hI196.w rfl
  have hB206 : BZ (zI (uI (zI (zI I167 33) 34) 1 13 0) 35) := hB203.z
  have hZ207 : KI (zk_X2_init_27 ++ (zk_X2_init_21 ++ (zk_X0_init_15 ++ (zk_X0_init_9 ++ (zk_X3_init_7 ++ (zk_X1_init_6 ++ (zk_X6_init_3 ++ ([])))))))) (zI (uI (zI (zI I167 33) 34) 1 13 0) 35) := hZ204.z rfl
  have hI208 : FI 1 I (zI (uI (zI (zI I167 33) 34) 1 13 0) 35) := hI205.z rfl
  have hJ209 : FJ 1 J (zJ (zJ (zJ J168 33) 34) 35) := hJ197.z rfl
  have jf210 : ∀ k, k < 22 → (zJ (zJ (zJ J168 33) 34) 35) 5 k = rsv.getD k 0 := J5.z jf198 rfl
  have hK211 : RK ((1, 12, 34) :: ((1, 11, 33) :: ((1, 10, 27) :: (lk_X2_init_27 ++ ((1, 9, 21) :: (lk_X2_init_21 ++ ((1, 8, 15) :: (lk_X0_init_15 ++ ((1, 7, 9) :: (lk_X0_init_9 ++ ((1, 6, 7) :: (lk_X3_init_7 ++ ((1, 5, 6) :: ((1, 4, 3) :: (lk_X6_init_3 ++ ((1, 3, 2) :: ([]))))))))))))))))) (zR (uR (zR (uR (zR (uR R169 1 10 27) 33) 1 11 33) 34) 1 12 34) 35) := hK201.z rfl
  have hF212 : FR 1 R (zR (uR (zR (uR (zR (uR R169 1 10 27) 33) 1 11 33) 34) 1 12 34) 35) := hF202.z rfl
  refine ct_X7_init_35 hB206 (fun I213 J214 R215 hB216 hF217 hK218 hI219 hZ220 hJ221 jz222 => ?_)
  have hZ223 : KI (zk_X7_init_35 ++ (zk_X2_init_27 ++ (zk_X2_init_21 ++ (zk_X0_init_15 ++ (zk_X0_init_9 ++ (zk_X3_init_7 ++ (zk_X1_init_6 ++ (zk_X6_init_3 ++ ([]))))))))) I213 := hZ220.app (hZ207.fr hI219 rfl)
  have hI224 : FI 1 I I213 := fun o ho => (hI219 o (by omega)).trans (hI208 o ho)
  have hJ225 : FJ 1 J J214 := fun o ho => (hJ221 o (by omega)).trans (hJ209 o ho)
  have jf226 : ∀ k, k < 22 → J214 5 k = rsv.getD k 0 := fun k hk => (congrFun (hJ221 5 (by decide)) k).trans (jf210 k hk)
  have hK227 : RK (lk_X7_init_35 ++ ((1, 12, 34) :: ((1, 11, 33) :: ((1, 10, 27) :: (lk_X2_init_27 ++ ((1, 9, 21) :: (lk_X2_init_21 ++ ((1, 8, 15) :: (lk_X0_init_15 ++ ((1, 7, 9) :: (lk_X0_init_9 ++ ((1, 6, 7) :: (lk_X3_init_7 ++ ((1, 5, 6) :: ((1, 4, 3) :: (lk_X6_init_3 ++ ((1, 3, 2) :: ([])))))))))))))))))) R215 := hK218.app (hK211.fr hF217 rfl)
  have hF228 : FR 1 R R215 := fun o ho => (hF217 o (by omega)).trans (hF212 o ho)
  have hK229 : RK ((1, 14, 35) :: (lk_X7_init_35 ++ ((1, 12, 34) :: ((1, 11, 33) :: ((1, 10, 27) :: (lk_X2_init_27 ++ ((1, 9, 21) :: (lk_X2_init_21 ++ ((1, 8, 15) :: (lk_X0_init_15 ++ ((1, 7, 9) :: (lk_X0_init_9 ++ ((1, 6, 7) :: (lk_X3_init_7 ++ ((1, 5, 6) :: ((1, 4, 3) :: (lk_X6_init_3 ++ ((1, 3, 2) :: ([]))))))))))))))))))) (uR R215 1 14 35) := hK227.u rfl
  have hF230 : FR 1 R (uR R215 1 14 35) := hF228.u rfl
  have hB231 : BZ (zI I213 39) := hB216.z
  have hZ232 : KI (zk_X7_init_35 ++ (zk_X2_init_27 ++ (zk_X2_init_21 ++ (zk_X0_init_15 ++ (zk_X0_init_9 ++ (zk_X3_init_7 ++ (zk_X1_init_6 ++ (zk_X6_init_3 ++ ([]))))))))) (zI I213 39) := hZ223.z rfl
  have hI233 : FI 1 I (zI I213 39) := hI224.z rfl
  have hJ234 : FJ 1 J (zJ J214 39) := hJ225.z rfl
  have jf235 : ∀ k, k < 22 → (zJ J214 39) 5 k = rsv.getD k 0 := J5.z jf226 rfl
  have hK236 : RK ((1, 14, 35) :: (lk_X7_init_35 ++ ((1, 12, 34) :: ((1, 11, 33) :: ((1, 10, 27) :: (lk_X2_init_27 ++ ((1, 9, 21) :: (lk_X2_init_21 ++ ((1, 8, 15) :: (lk_X0_init_15 ++ ((1, 7, 9) :: (lk_X0_init_9 ++ ((1, 6, 7) :: (lk_X3_init_7 ++ ((1, 5, 6) :: ((1, 4, 3) :: (lk_X6_init_3 ++ ((1, 3, 2) :: ([]))))))))))))))))))) (zR (uR R215 1 14 35) 39) := hK229.z rfl
  have hF237 : FR 1 R (zR (uR R215 1 14 35) 39) := hF230.z rfl
  refine ct_X8_init_39 hB231 (fun I238 J239 R240 hB241 hF242 hK243 hI244 hZ245 hJ246 jz247 => ?_)
  have hZ248 : KI (zk_X8_init_39 ++ (zk_X7_init_35 ++ (zk_X2_init_27 ++ (zk_X2_init_21 ++ (zk_X0_init_15 ++ (zk_X0_init_9 ++ (zk_X3_init_7 ++ (zk_X1_init_6 ++ (zk_X6_init_3 ++ ([])))))))))) I238 := hZ245.app (hZ232.fr hI244 rfl)
  have hI249 : FI 1 I I238 := fun o ho => (hI244 o (by omega)).trans (hI233 o ho)
  have hJ250 : FJ 1 J J239 := fun o ho => (hJ246 o (by omega)).trans (hJ234 o ho)
  have jf251 : ∀ k, k < 22 → J239 5 k = rsv.getD k 0 := fun k hk => (congrFun (hJ246 5 (by decide)) k).trans (jf235 k hk)
  have hK252 : RK (lk_X8_init_39 ++ ((1, 14, 35) :: (lk_X7_init_35 ++ ((1, 12, 34) :: ((1, 11, 33) :: ((1, 10, 27) :: (lk_X2_init_27 ++ ((1, 9, 21) :: (lk_X2_init_21 ++ ((1, 8, 15) :: (lk_X0_init_15 ++ ((1, 7, 9) :: (lk_X0_init_9 ++ ((1, 6, 7) :: (lk_X3_init_7 ++ ((1, 5, 6) :: ((1, 4, 3) :: (lk_X6_init_3 ++ ((1, 3, 2) :: ([])))))))))))))))))))) R240 := hK243.app (hK236.fr hF242 rfl)
  have hF253 : FR 1 R R240 := fun o ho => (hF242 o (by omega)).trans (hF237 o ho)
  have hK254 : RK ((1, 15, 39) :: (lk_X8_init_39 ++ ((1, 14, 35) :: (lk_X7_init_35 ++ ((1, 12, 34) :: ((1, 11, 33) :: ((1, 10, 27) :: (lk_X2_init_27 ++ ((1, 9, 21) :: (lk_X2_init_21 ++ ((1, 8, 15) :: (lk_X0_init_15 ++ ((1, 7, 9) :: (lk_X0_init_9 ++ ((1, 6, 7) :: (lk_X3_init_7 ++ ((1, 5, 6) :: ((1, 4, 3) :: (lk_X6_init_3 ++ ((1, 3, 2) :: ([]))))))))))))))))))))) (uR R240 1 15 39) := hK252.u rfl
  have hF255 : FR 1 R (uR R240 1 15 39) := hF253.u rfl
  have hB256 : BZ (zI I238 42) := hB241.z
  have hZ257 : KI (zk_X8_init_39 ++ (zk_X7_init_35 ++ (zk_X2_init_27 ++ (zk_X2_init_21 ++ (zk_X0_init_15 ++ (zk_X0_init_9 ++ (zk_X3_init_7 ++ (zk_X1_init_6 ++ (zk_X6_init_3 ++ ([])))))))))) (zI I238 42) := hZ248.z rfl
  have hI258 : FI 1 I (zI I238 42) := hI249.z rfl
  have hJ259 : FJ 1 J (zJ J239 42) := hJ250.z rfl
  have jf260 : ∀ k, k < 22 → (zJ J239 42) 5 k = rsv.getD k 0 := J5.z jf251 rfl
  have hK261 : RK ((1, 15, 39) :: (lk_X8_init_39 ++ ((1, 14, 35) :: (lk_X7_init_35 ++ ((1, 12, 34) :: ((1, 11, 33) :: ((1, 10, 27) :: (lk_X2_init_27 ++ ((1, 9, 21) :: (lk_X2_init_21 ++ ((1, 8, 15) :: (lk_X0_init_15 ++ ((1, 7, 9) :: (lk_X0_init_9 ++ ((1, 6, 7) :: (lk_X3_init_7 ++ ((1, 5, 6) :: ((1, 4, 3) :: (lk_X6_init_3 ++ ((1, 3, 2) :: ([]))))))))))))))))))))) (zR (uR R240 1 15 39) 42) := hK254.z rfl
  have hF262 : FR 1 R (zR (uR R240 1 15 39) 42) := hF255.z rfl
  refine ct_X5_init_42 hB256 (fun I263 J264 R265 hB266 hF267 hK268 hI269 hZ270 hJ271 jz272 => ?_)
  have hZ273 : KI (zk_X5_init_42 ++ (zk_X8_init_39 ++ (zk_X7_init_35 ++ (zk_X2_init_27 ++ (zk_X2_init_21 ++ (zk_X0_init_15 ++ (zk_X0_init_9 ++ (zk_X3_init_7 ++ (zk_X1_init_6 ++ (zk_X6_init_3 ++ ([]))))))))))) I263 := hZ270.app (hZ257.fr hI269 rfl)
  have hI274 : FI 1 I I263 := fun o ho => (hI269 o (by omega)).trans (hI258 o ho)
  have hJ275 : FJ 1 J J264 := fun o ho => (hJ271 o (by omega)).trans (hJ259 o ho)
  have jf276 : ∀ k, k < 22 → J264 5 k = rsv.getD k 0 := fun k hk => (congrFun (hJ271 5 (by decide)) k).trans (jf260 k hk)
  have hK277 : RK (lk_X5_init_42 ++ ((1, 15, 39) :: (lk_X8_init_39 ++ ((1, 14, 35) :: (lk_X7_init_35 ++ ((1, 12, 34) :: ((1, 11, 33) :: ((1, 10, 27) :: (lk_X2_init_27 ++ ((1, 9, 21) :: (lk_X2_init_21 ++ ((1, 8, 15) :: (lk_X0_init_15 ++ ((1, 7, 9) :: (lk_X0_init_9 ++ ((1, 6, 7) :: (lk_X3_init_7 ++ ((1, 5, 6) :: ((1, 4, 3) :: (lk_X6_init_3 ++ ((1, 3, 2) :: ([])))))))))))))))))))))) R265 := hK268.app (hK261.fr hF267 rfl)
  have hF278 : FR 1 R R265 := fun o ho => (hF267 o (by omega)).trans (hF262 o ho)
  have hK279 : RK ((1, 16, 42) :: (lk_X5_init_42 ++ ((1, 15, 39) :: (lk_X8_init_39 ++ ((1, 14, 35) :: (lk_X7_init_35 ++ ((1, 12, 34) :: ((1, 11, 33) :: ((1, 10, 27) :: (lk_X2_init_27 ++ ((1, 9, 21) :: (lk_X2_init_21 ++ ((1, 8, 15) :: (lk_X0_init_15 ++ ((1, 7, 9) :: (lk_X0_init_9 ++ ((1, 6, 7) :: (lk_X3_init_7 ++ ((1, 5, 6) :: ((1, 4, 3) :: (lk_X6_init_3 ++ ((1, 3, 2) :: ([]))))))))))))))))))))))) (uR R265 1 16 42) := hK277.u rfl
  have hF280 : FR 1 R (uR R265 1 16 42) := hF278.u rfl
  have hB281 : BZ (zI I263 45) := hB266.z
  have hZ282 : KI (zk_X5_init_42 ++ (zk_X8_init_39 ++ (zk_X7_init_35 ++ (zk_X2_init_27 ++ (zk_X2_init_21 ++ (zk_X0_init_15 ++ (zk_X0_init_9 ++ (zk_X3_init_7 ++ (zk_X1_init_6 ++ (zk_X6_init_3 ++ ([]))))))))))) (zI I263 45) := hZ273.z rfl
  have hI283 : FI 1 I (zI I263 45) := hI274.z rfl
  have hJ284 : FJ 1 J (zJ J264 45) := hJ275.z rfl
  have jf285 : ∀ k, k < 22 → (zJ J264 45) 5 k = rsv.getD k 0 := J5.z jf276 rfl
  have hK286 : RK ((1, 16, 42) :: (lk_X5_init_42 ++ ((1, 15, 39) :: (lk_X8_init_39 ++ ((1, 14, 35) :: (lk_X7_init_35 ++ ((1, 12, 34) :: ((1, 11, 33) :: ((1, 10, 27) :: (lk_X2_init_27 ++ ((1, 9, 21) :: (lk_X2_init_21 ++ ((1, 8, 15) :: (lk_X0_init_15 ++ ((1, 7, 9) :: (lk_X0_init_9 ++ ((1, 6, 7) :: (lk_X3_init_7 ++ ((1, 5, 6) :: ((1, 4, 3) :: (lk_X6_init_3 ++ ((1, 3, 2) :: ([]))))))))))))))))))))))) (zR (uR R265 1 16 42) 45) := hK279.z rfl
  have hF287 : FR 1 R (zR (uR R265 1 16 42) 45) := hF280.z rfl
  refine ct_X9_init_45 hB281 (fun I288 J289 R290 hB291 hF292 hK293 hI294 hZ295 hJ296 jz297 => ?_)
  have hZ298 : KI (zk_X9_init_45 ++ (zk_X5_init_42 ++ (zk_X8_init_39 ++ (zk_X7_init_35 ++ (zk_X2_init_27 ++ (zk_X2_init_21 ++ (zk_X0_init_15 ++ (zk_X0_init_9 ++ (zk_X3_init_7 ++ (zk_X1_init_6 ++ (zk_X6_init_3 ++ ([])))))))))))) I288 := hZ295.app (hZ282.fr hI294 rfl)
  have hI299 : FI 1 I I288 := fun o ho => (hI294 o (by omega)).trans (hI283 o ho)
  have hJ300 : FJ 1 J J289 := fun o ho => (hJ296 o (by omega)).trans (hJ284 o ho)
  have jf301 : ∀ k, k < 22 → J289 5 k = rsv.getD k 0 := fun k hk => (congrFun (hJ296 5 (by decide)) k).trans (jf285 k hk)
  have hK302 : RK (lk_X9_init_45 ++ ((1, 16, 42) :: (lk_X5_init_42 ++ ((1, 15, 39) :: (lk_X8_init_39 ++ ((1, 14, 35) :: (lk_X7_init_35 ++ ((1, 12, 34) :: ((1, 11, 33) :: ((1, 10, 27) :: (lk_X2_init_27 ++ ((1, 9, 21) :: (lk_X2_init_21 ++ ((1, 8, 15) :: (lk_X0_init_15 ++ ((1, 7, 9) :: (lk_X0_init_9 ++ ((1, 6, 7) :: (lk_X3_init_7 ++ ((1, 5, 6) :: ((1, 4, 3) :: (lk_X6_init_3 ++ ((1, 3, 2) :: ([])))))))))))))))))))))))) R290 := hK293.app (hK286.fr hF292 rfl)
  have hF303 : FR 1 R R290 := fun o ho => (hF292 o (by omega)).trans (hF287 o ho)
  have hK304 : RK ((1, 17, 45) :: (lk_X9_init_45 ++ ((1, 16, 42) :: (lk_X5_init_42 ++ ((1, 15, 39) :: (lk_X8_init_39 ++ ((1, 14, 35) :: (lk_X7_init_35 ++ ((1, 12, 34) :: ((1, 11, 33) :: ((1, 10, 27) :: (lk_X2_init_27 ++ ((1, 9, 21) :: (lk_X2_init_21 ++ ((1, 8, 15) :: (lk_X0_init_15 ++ ((1, 7, 9) :: (lk_X0_init_9 ++ ((1, 6, 7) :: (lk_X3_init_7 ++ ((1, 5, 6) :: ((1, 4, 3) :: (lk_X6_init_3 ++ ((1, 3, 2) :: ([]))))))))))))))))))))))))) (uR R290 1 17 45) := hK302.u rfl
  have hF305 : FR 1 R (uR R290 1 17 45) := hF303.u rfl
  have hB306 : BZ (zI I288 49) := hB291.z
  have hZ307 : KI (zk_X9_init_45 ++ (zk_X5_init_42 ++ (zk_X8_init_39 ++ (zk_X7_init_35 ++ (zk_X2_init_27 ++ (zk_X2_init_21 ++ (zk_X0_init_15 ++ (zk_X0_init_9 ++ (zk_X3_init_7 ++ (zk_X1_init_6 ++ (zk_X6_init_3 ++ ([])))))))))))) (zI I288 49) := hZ298.z rfl
  have hI308 : FI 1 I (zI I288 49) := hI299.z rfl
  have hJ309 : FJ 1 J (zJ J289 49) := hJ300.z rfl
  have jz310 : (zJ J289 49) 47 0 = 0 := JZ.z jz297 rfl
  have jf311 : ∀ k, k < 22 → (zJ J289 49) 5 k = rsv.getD k 0 := J5.z jf301 rfl
  have hK312 : RK ((1, 17, 45) :: (lk_X9_init_45 ++ ((1, 16, 42) :: (lk_X5_init_42 ++ ((1, 15, 39) :: (lk_X8_init_39 ++ ((1, 14, 35) :: (lk_X7_init_35 ++ ((1, 12, 34) :: ((1, 11, 33) :: ((1, 10, 27) :: (lk_X2_init_27 ++ ((1, 9, 21) :: (lk_X2_init_21 ++ ((1, 8, 15) :: (lk_X0_init_15 ++ ((1, 7, 9) :: (lk_X0_init_9 ++ ((1, 6, 7) :: (lk_X3_init_7 ++ ((1, 5, 6) :: ((1, 4, 3) :: (lk_X6_init_3 ++ ((1, 3, 2) :: ([]))))))))))))))))))))))))) (zR (uR R290 1 17 45) 49) := hK304.z rfl
  have hF313 : FR 1 R (zR (uR R290 1 17 45) 49) := hF305.z rfl
  refine ct_X4_init_49 hB306 (fun I314 J315 R316 hB317 hF318 hK319 hI320 hZ321 hJ322 jz323 => ?_)
  have hZ324 : KI (zk_X4_init_49 ++ (zk_X9_init_45 ++ (zk_X5_init_42 ++ (zk_X8_init_39 ++ (zk_X7_init_35 ++ (zk_X2_init_27 ++ (zk_X2_init_21 ++ (zk_X0_init_15 ++ (zk_X0_init_9 ++ (zk_X3_init_7 ++ (zk_X1_init_6 ++ (zk_X6_init_3 ++ ([]))))))))))))) I314 := hZ321.app (hZ307.fr hI320 rfl)
  have hI325 : FI 1 I I314 := fun o ho => (hI320 o (by omega)).trans (hI308 o ho)
  have hJ326 : FJ 1 J J315 := fun o ho => (hJ322 o (by omega)).trans (hJ309 o ho)
  have jf327 : ∀ k, k < 22 → J315 5 k = rsv.getD k 0 := fun k hk => (congrFun (hJ322 5 (by decide)) k).trans (jf311 k hk)
  have jz328 : J315 47 0 = 0 := (congrFun (hJ322 47 (by decide)) 0).trans jz310
  have hK329 : RK (lk_X4_init_49 ++ ((1, 17, 45) :: (lk_X9_init_45 ++ ((1, 16, 42) :: (lk_X5_init_42 ++ ((1, 15, 39) :: (lk_X8_init_39 ++ ((1, 14, 35) :: (lk_X7_init_35 ++ ((1, 12, 34) :: ((1, 11, 33) :: ((1, 10, 27) :: (lk_X2_init_27 ++ ((1, 9, 21) :: (lk_X2_init_21 ++ ((1, 8, 15) :: (lk_X0_init_15 ++ ((1, 7, 9) :: (lk_X0_init_9 ++ ((1, 6, 7) :: (lk_X3_init_7 ++ ((1, 5, 6) :: ((1, 4, 3) :: (lk_X6_init_3 ++ ((1, 3, 2) :: ([])))))))))))))))))))))))))) R316 := hK319.app (hK312.fr hF318 rfl)
  have hF330 : FR 1 R R316 := fun o ho => (hF318 o (by omega)).trans (hF313 o ho)
  have hK331 : RK ((1, 18, 49) :: (lk_X4_init_49 ++ ((1, 17, 45) :: (lk_X9_init_45 ++ ((1, 16, 42) :: (lk_X5_init_42 ++ ((1, 15, 39) :: (lk_X8_init_39 ++ ((1, 14, 35) :: (lk_X7_init_35 ++ ((1, 12, 34) :: ((1, 11, 33) :: ((1, 10, 27) :: (lk_X2_init_27 ++ ((1, 9, 21) :: (lk_X2_init_21 ++ ((1, 8, 15) :: (lk_X0_init_15 ++ ((1, 7, 9) :: (lk_X0_init_9 ++ ((1, 6, 7) :: (lk_X3_init_7 ++ ((1, 5, 6) :: ((1, 4, 3) :: (lk_X6_init_3 ++ ((1, 3, 2) :: ([]))))))))))))))))))))))))))) (uR R316 1 18 49) := hK329.u rfl
  have hF332 : FR 1 R (uR R316 1 18 49) := hF330.u rfl
  have hB333 : BZ (zI I314 51) := hB317.z
  have hZ334 : KI (zk_X4_init_49 ++ (zk_X9_init_45 ++ (zk_X5_init_42 ++ (zk_X8_init_39 ++ (zk_X7_init_35 ++ (zk_X2_init_27 ++ (zk_X2_init_21 ++ (zk_X0_init_15 ++ (zk_X0_init_9 ++ (zk_X3_init_7 ++ (zk_X1_init_6 ++ (zk_X6_init_3 ++ ([]))))))))))))) (zI I314 51) := hZ324.z rfl
  have hI335 : FI 1 I (zI I314 51) := hI325.z rfl
  have hJ336 : FJ 1 J (zJ J315 51) := hJ326.z rfl
  have jz337 : (zJ J315 51) 47 0 = 0 := JZ.z jz328 rfl
  have jf338 : ∀ k, k < 22 → (zJ J315 51) 5 k = rsv.getD k 0 := J5.z jf327 rfl
  have hK339 : RK ((1, 18, 49) :: (lk_X4_init_49 ++ ((1, 17, 45) :: (lk_X9_init_45 ++ ((1, 16, 42) :: (lk_X5_init_42 ++ ((1, 15, 39) :: (lk_X8_init_39 ++ ((1, 14, 35) :: (lk_X7_init_35 ++ ((1, 12, 34) :: ((1, 11, 33) :: ((1, 10, 27) :: (lk_X2_init_27 ++ ((1, 9, 21) :: (lk_X2_init_21 ++ ((1, 8, 15) :: (lk_X0_init_15 ++ ((1, 7, 9) :: (lk_X0_init_9 ++ ((1, 6, 7) :: (lk_X3_init_7 ++ ((1, 5, 6) :: ((1, 4, 3) :: (lk_X6_init_3 ++ ((1, 3, 2) :: ([]))))))))))))))))))))))))))) (zR (uR R316 1 18 49) 51) := hK331.z rfl
  have hF340 : FR 1 R (zR (uR R316 1 18 49) 51) := hF332.z rfl
  refine ct_X4_init_51 hB333 (fun I341 J342 R343 hB344 hF345 hK346 hI347 hZ348 hJ349 jz350 => ?_)
  have hZ351 : KI (zk_X4_init_51 ++ (zk_X4_init_49 ++ (zk_X9_init_45 ++ (zk_X5_init_42 ++ (zk_X8_init_39 ++ (zk_X7_init_35 ++ (zk_X2_init_27 ++ (zk_X2_init_21 ++ (zk_X0_init_15 ++ (zk_X0_init_9 ++ (zk_X3_init_7 ++ (zk_X1_init_6 ++ (zk_X6_init_3 ++ ([])))))))))))))) I341 := hZ348.app (hZ334.fr hI347 rfl)
  have hI352 : FI 1 I I341 := fun o ho => (hI347 o (by omega)).trans (hI335 o ho)
  have hJ353 : FJ 1 J J342 := fun o ho => (hJ349 o (by omega)).trans (hJ336 o ho)
  have jf354 : ∀ k, k < 22 → J342 5 k = rsv.getD k 0 := fun k hk => (congrFun (hJ349 5 (by decide)) k).trans (jf338 k hk)
  have jz355 : J342 47 0 = 0 := (congrFun (hJ349 47 (by decide)) 0).trans jz337
  have hK356 : RK (lk_X4_init_51 ++ ((1, 18, 49) :: (lk_X4_init_49 ++ ((1, 17, 45) :: (lk_X9_init_45 ++ ((1, 16, 42) :: (lk_X5_init_42 ++ ((1, 15, 39) :: (lk_X8_init_39 ++ ((1, 14, 35) :: (lk_X7_init_35 ++ ((1, 12, 34) :: ((1, 11, 33) :: ((1, 10, 27) :: (lk_X2_init_27 ++ ((1, 9, 21) :: (lk_X2_init_21 ++ ((1, 8, 15) :: (lk_X0_init_15 ++ ((1, 7, 9) :: (lk_X0_init_9 ++ ((1, 6, 7) :: (lk_X3_init_7 ++ ((1, 5, 6) :: ((1, 4, 3) :: (lk_X6_init_3 ++ ((1, 3, 2) :: ([])))))))))))))))))))))))))))) R343 := hK346.app (hK339.fr hF345 rfl)
  have hF357 : FR 1 R R343 := fun o ho => (hF345 o (by omega)).trans (hF340 o ho)
  have hK358 : RK ((1, 19, 51) :: (lk_X4_init_51 ++ ((1, 18, 49) :: (lk_X4_init_49 ++ ((1, 17, 45) :: (lk_X9_init_45 ++ ((1, 16, 42) :: (lk_X5_init_42 ++ ((1, 15, 39) :: (lk_X8_init_39 ++ ((1, 14, 35) :: (lk_X7_init_35 ++ ((1, 12, 34) :: ((1, 11, 33) :: ((1, 10, 27) :: (lk_X2_init_27 ++ ((1, 9, 21) :: (lk_X2_init_21 ++ ((1, 8, 15) :: (lk_X0_init_15 ++ ((1, 7, 9) :: (lk_X0_init_9 ++ ((1, 6, 7) :: (lk_X3_init_7 ++ ((1, 5, 6) :: ((1, 4, 3) :: (lk_X6_init_3 ++ ((1, 3, 2) :: ([]))))))))))))))))))))))))))))) (uR R343 1 19 51) := hK356.u rfl
  have hF359 : FR 1 R (uR R343 1 19 51) := hF357.u rfl
  refine cs_X11_init_1_193_52 hc _ _ _ ?_
  refine ⟨fun c => absurd c (by decide), fun _ => ?_⟩
  refine ⟨hK358.ne (show lkq ((1, 19, 51) :: (lk_X4_init_51 ++ ((1, 18, 49) :: (lk_X4_init_49 ++ ((1, 17, 45) :: (lk_X9_init_45 ++ ((1, 16, 42) :: (lk_X5_init_42 ++ ((1, 15, 39) :: (lk_X8_init_39 ++ ((1, 14, 35) :: (lk_X7_init_35 ++ ((1, 12, 34) :: ((1, 11, 33) :: ((1, 10, 27) :: (lk_X2_init_27 ++ ((1, 9, 21) :: (lk_X2_init_21 ++ ((1, 8, 15) :: (lk_X0_init_15 ++ ((1, 7, 9) :: (lk_X0_init_9 ++ ((1, 6, 7) :: (lk_X3_init_7 ++ ((1, 5, 6) :: ((1, 4, 3) :: (lk_X6_init_3 ++ ((1, 3, 2) :: ([]))))))))))))))))))))))))))))) 1 3 = true from rfl), ?_⟩
  have hB360 : BZ (zI I341 53) := hB344.z
  have hZ361 : KI (zk_X4_init_51 ++ (zk_X4_init_49 ++ (zk_X9_init_45 ++ (zk_X5_init_42 ++ (zk_X8_init_39 ++ (zk_X7_init_35 ++ (zk_X2_init_27 ++ (zk_X2_init_21 ++ (zk_X0_init_15 ++ (zk_X0_init_9 ++ (zk_X3_init_7 ++ (zk_X1_init_6 ++ (zk_X6_init_3 ++ ([])))))))))))))) (zI I341 53) := hZ351.z rfl
  have hI362 : FI 1 I (zI I341 53) := hI352.z rfl
  have hJ363 : FJ 1 J (zJ J342 53) := hJ353.z rfl
  have jz364 : (zJ J342 53) 47 0 = 0 := JZ.z jz355 rfl
  have jf365 : ∀ k, k < 22 → (zJ J342 53) 5 k = rsv.getD k 0 := J5.z jf354 rfl
  have hK366 : RK ((1, 19, 51) :: (lk_X4_init_51 ++ ((1, 18, 49) :: (lk_X4_init_49 ++ ((1, 17, 45) :: (lk_X9_init_45 ++ ((1, 16, 42) :: (lk_X5_init_42 ++ ((1, 15, 39) :: (lk_X8_init_39 ++ ((1, 14, 35) :: (lk_X7_init_35 ++ ((1, 12, 34) :: ((1, 11, 33) :: ((1, 10, 27) :: (lk_X2_init_27 ++ ((1, 9, 21) :: (lk_X2_init_21 ++ ((1, 8, 15) :: (lk_X0_init_15 ++ ((1, 7, 9) :: (lk_X0_init_9 ++ ((1, 6, 7) :: (lk_X3_init_7 ++ ((1, 5, 6) :: ((1, 4, 3) :: (lk_X6_init_3 ++ ((1, 3, 2) :: ([]))))))))))))))))))))))))))))) (zR (uR R343 1 19 51) 53) := hK358.z rfl
  have hF367 : FR 1 R (zR (uR R343 1 19 51) 53) := hF359.z rfl
  refine ct_X10_init_53 hB360 (fun I368 J369 R370 hB371 hF372 hK373 hI374 hZ375 hJ376 jz377 => ?_)
  have hZ378 : KI (zk_X10_init_53 ++ (zk_X4_init_51 ++ (zk_X4_init_49 ++ (zk_X9_init_45 ++ (zk_X5_init_42 ++ (zk_X8_init_39 ++ (zk_X7_init_35 ++ (zk_X2_init_27 ++ (zk_X2_init_21 ++ (zk_X0_init_15 ++ (zk_X0_init_9 ++ (zk_X3_init_7 ++ (zk_X1_init_6 ++ (zk_X6_init_3 ++ ([]))))))))))))))) I368 := hZ375.app (hZ361.fr hI374 rfl)
  have hI379 : FI 1 I I368 := fun o ho => (hI374 o (by omega)).trans (hI362 o ho)
  have hJ380 : FJ 1 J J369 := fun o ho => (hJ376 o (by omega)).trans (hJ363 o ho)
  have jf381 : ∀ k, k < 22 → J369 5 k = rsv.getD k 0 := fun k hk => (congrFun (hJ376 5 (by decide)) k).trans (jf365 k hk)
  have jz382 : J369 47 0 = 0 := (congrFun (hJ376 47 (by decide)) 0).trans jz364
  have hK383 : RK (lk_X10_init_53 ++ ((1, 19, 51) :: (lk_X4_init_51 ++ ((1, 18, 49) :: (lk_X4_init_49 ++ ((1, 17, 45) :: (lk_X9_init_45 ++ ((1, 16, 42) :: (lk_X5_init_42 ++ ((1, 15, 39) :: (lk_X8_init_39 ++ ((1, 14, 35) :: (lk_X7_init_35 ++ ((1, 12, 34) :: ((1, 11, 33) :: ((1, 10, 27) :: (lk_X2_init_27 ++ ((1, 9, 21) :: (lk_X2_init_21 ++ ((1, 8, 15) :: (lk_X0_init_15 ++ ((1, 7, 9) :: (lk_X0_init_9 ++ ((1, 6, 7) :: (lk_X3_init_7 ++ ((1, 5, 6) :: ((1, 4, 3) :: (lk_X6_init_3 ++ ((1, 3, 2) :: ([])))))))))))))))))))))))))))))) R370 := hK373.app (hK366.fr hF372 rfl)
  have hF384 : FR 1 R R370 := fun o ho => (hF372 o (by omega)).trans (hF367 o ho)
  refine ⟨vp_of rfl (by decide) (by decide), ?_⟩
  have hK385 : RK ((2, 0, 53) :: (lk_X10_init_53 ++ ((1, 19, 51) :: (lk_X4_init_51 ++ ((1, 18, 49) :: (lk_X4_init_49 ++ ((1, 17, 45) :: (lk_X9_init_45 ++ ((1, 16, 42) :: (lk_X5_init_42 ++ ((1, 15, 39) :: (lk_X8_init_39 ++ ((1, 14, 35) :: (lk_X7_init_35 ++ ((1, 12, 34) :: ((1, 11, 33) :: ((1, 10, 27) :: (lk_X2_init_27 ++ ((1, 9, 21) :: (lk_X2_init_21 ++ ((1, 8, 15) :: (lk_X0_init_15 ++ ((1, 7, 9) :: (lk_X0_init_9 ++ ((1, 6, 7) :: (lk_X3_init_7 ++ ((1, 5, 6) :: ((1, 4, 3) :: (lk_X6_init_3 ++ ((1, 3, 2) :: ([]))))))))))))))))))))))))))))))) (uR R370 2 (Int32.toNatClampNeg 0) 53) := hK383.u rfl
  have hF386 : FR 1 R (uR R370 2 (Int32.toNatClampNeg 0) 53) := hF384.u rfl
  refine cs_X11_init_1_193_54 hc _ _ _ ?_
  refine ⟨fun c => absurd c (by decide), fun _ => ?_⟩
  refine ⟨hK385.ne (show lkq ((2, 0, 53) :: (lk_X10_init_53 ++ ((1, 19, 51) :: (lk_X4_init_51 ++ ((1, 18, 49) :: (lk_X4_init_49 ++ ((1, 17, 45) :: (lk_X9_init_45 ++ ((1, 16, 42) :: (lk_X5_init_42 ++ ((1, 15, 39) :: (lk_X8_init_39 ++ ((1, 14, 35) :: (lk_X7_init_35 ++ ((1, 12, 34) :: ((1, 11, 33) :: ((1, 10, 27) :: (lk_X2_init_27 ++ ((1, 9, 21) :: (lk_X2_init_21 ++ ((1, 8, 15) :: (lk_X0_init_15 ++ ((1, 7, 9) :: (lk_X0_init_9 ++ ((1, 6, 7) :: (lk_X3_init_7 ++ ((1, 5, 6) :: ((1, 4, 3) :: (lk_X6_init_3 ++ ((1, 3, 2) :: ([]))))))))))))))))))))))))))))))) 1 3 = true from rfl), ?_⟩
  have hB387 : BZ (zI I368 55) := hB371.z
  have hZ388 : KI (zk_X10_init_53 ++ (zk_X4_init_51 ++ (zk_X4_init_49 ++ (zk_X9_init_45 ++ (zk_X5_init_42 ++ (zk_X8_init_39 ++ (zk_X7_init_35 ++ (zk_X2_init_27 ++ (zk_X2_init_21 ++ (zk_X0_init_15 ++ (zk_X0_init_9 ++ (zk_X3_init_7 ++ (zk_X1_init_6 ++ (zk_X6_init_3 ++ ([]))))))))))))))) (zI I368 55) := hZ378.z rfl
  have hI389 : FI 1 I (zI I368 55) := hI379.z rfl
  have hJ390 : FJ 1 J (zJ J369 55) := hJ380.z rfl
  have jz391 : (zJ J369 55) 47 0 = 0 := JZ.z jz382 rfl
  have jf392 : ∀ k, k < 22 → (zJ J369 55) 5 k = rsv.getD k 0 := J5.z jf381 rfl
  have hK393 : RK ((2, 0, 53) :: (lk_X10_init_53 ++ ((1, 19, 51) :: (lk_X4_init_51 ++ ((1, 18, 49) :: (lk_X4_init_49 ++ ((1, 17, 45) :: (lk_X9_init_45 ++ ((1, 16, 42) :: (lk_X5_init_42 ++ ((1, 15, 39) :: (lk_X8_init_39 ++ ((1, 14, 35) :: (lk_X7_init_35 ++ ((1, 12, 34) :: ((1, 11, 33) :: ((1, 10, 27) :: (lk_X2_init_27 ++ ((1, 9, 21) :: (lk_X2_init_21 ++ ((1, 8, 15) :: (lk_X0_init_15 ++ ((1, 7, 9) :: (lk_X0_init_9 ++ ((1, 6, 7) :: (lk_X3_init_7 ++ ((1, 5, 6) :: ((1, 4, 3) :: (lk_X6_init_3 ++ ((1, 3, 2) :: ([]))))))))))))))))))))))))))))))) (zR (uR R370 2 (Int32.toNatClampNeg 0) 53) 55) := hK385.z rfl
  have hF394 : FR 1 R (zR (uR R370 2 (Int32.toNatClampNeg 0) 53) 55) := hF386.z rfl
  refine ct_X10_init_55 hB387 (fun I395 J396 R397 hB398 hF399 hK400 hI401 hZ402 hJ403 jz404 => ?_)
  have hZ405 : KI (zk_X10_init_55 ++ (zk_X10_init_53 ++ (zk_X4_init_51 ++ (zk_X4_init_49 ++ (zk_X9_init_45 ++ (zk_X5_init_42 ++ (zk_X8_init_39 ++ (zk_X7_init_35 ++ (zk_X2_init_27 ++ (zk_X2_init_21 ++ (zk_X0_init_15 ++ (zk_X0_init_9 ++ (zk_X3_init_7 ++ (zk_X1_init_6 ++ (zk_X6_init_3 ++ ([])))))))))))))))) I395 := hZ402.app (hZ388.fr hI401 rfl)
  have hI406 : FI 1 I I395 := fun o ho => (hI401 o (by omega)).trans (hI389 o ho)
  have hJ407 : FJ 1 J J396 := fun o ho => (hJ403 o (by omega)).trans (hJ390 o ho)
  have jf408 : ∀ k, k < 22 → J396 5 k = rsv.getD k 0 := fun k hk => (congrFun (hJ403 5 (by decide)) k).trans (jf392 k hk)
  have jz409 : J396 47 0 = 0 := (congrFun (hJ403 47 (by decide)) 0).trans jz391
  have hK410 : RK (lk_X10_init_55 ++ ((2, 0, 53) :: (lk_X10_init_53 ++ ((1, 19, 51) :: (lk_X4_init_51 ++ ((1, 18, 49) :: (lk_X4_init_49 ++ ((1, 17, 45) :: (lk_X9_init_45 ++ ((1, 16, 42) :: (lk_X5_init_42 ++ ((1, 15, 39) :: (lk_X8_init_39 ++ ((1, 14, 35) :: (lk_X7_init_35 ++ ((1, 12, 34) :: ((1, 11, 33) :: ((1, 10, 27) :: (lk_X2_init_27 ++ ((1, 9, 21) :: (lk_X2_init_21 ++ ((1, 8, 15) :: (lk_X0_init_15 ++ ((1, 7, 9) :: (lk_X0_init_9 ++ ((1, 6, 7) :: (lk_X3_init_7 ++ ((1, 5, 6) :: ((1, 4, 3) :: (lk_X6_init_3 ++ ((1, 3, 2) :: ([])))))))))))))))))))))))))))))))) R397 := hK400.app (hK393.fr hF399 rfl)
  have hF411 : FR 1 R R397 := fun o ho => (hF399 o (by omega)).trans (hF394 o ho)
  refine ⟨vp_of rfl (by decide) (by decide), ?_⟩
  have hK412 : RK ((2, 1, 55) :: (lk_X10_init_55 ++ ((2, 0, 53) :: (lk_X10_init_53 ++ ((1, 19, 51) :: (lk_X4_init_51 ++ ((1, 18, 49) :: (lk_X4_init_49 ++ ((1, 17, 45) :: (lk_X9_init_45 ++ ((1, 16, 42) :: (lk_X5_init_42 ++ ((1, 15, 39) :: (lk_X8_init_39 ++ ((1, 14, 35) :: (lk_X7_init_35 ++ ((1, 12, 34) :: ((1, 11, 33) :: ((1, 10, 27) :: (lk_X2_init_27 ++ ((1, 9, 21) :: (lk_X2_init_21 ++ ((1, 8, 15) :: (lk_X0_init_15 ++ ((1, 7, 9) :: (lk_X0_init_9 ++ ((1, 6, 7) :: (lk_X3_init_7 ++ ((1, 5, 6) :: ((1, 4, 3) :: (lk_X6_init_3 ++ ((1, 3, 2) :: ([]))))))))))))))))))))))))))))))))) (uR R397 2 (Int32.toNatClampNeg (0 + 1)) 55) := hK410.u rfl
  have hF413 : FR 1 R (uR R397 2 (Int32.toNatClampNeg (0 + 1)) 55) := hF411.u rfl
  refine cs_X11_init_1_193_56 hc _ _ _ ?_
  refine ⟨fun c => absurd c (by decide), fun _ => ?_⟩
  refine ⟨hK412.ne (show lkq ((2, 1, 55) :: (lk_X10_init_55 ++ ((2, 0, 53) :: (lk_X10_init_53 ++ ((1, 19, 51) :: (lk_X4_init_51 ++ ((1, 18, 49) :: (lk_X4_init_49 ++ ((1, 17, 45) :: (lk_X9_init_45 ++ ((1, 16, 42) :: (lk_X5_init_42 ++ ((1, 15, 39) :: (lk_X8_init_39 ++ ((1, 14, 35) :: (lk_X7_init_35 ++ ((1, 12, 34) :: ((1, 11, 33) :: ((1, 10, 27) :: (lk_X2_init_27 ++ ((1, 9, 21) :: (lk_X2_init_21 ++ ((1, 8, 15) :: (lk_X0_init_15 ++ ((1, 7, 9) :: (lk_X0_init_9 ++ ((1, 6, 7) :: (lk_X3_init_7 ++ ((1, 5, 6) :: ((1, 4, 3) :: (lk_X6_init_3 ++ ((1, 3, 2) :: ([]))))))))))))))))))))))))))))))))) 1 3 = true from rfl), ?_⟩
  have hB414 : BZ (zI I395 57) := hB398.z
  have hZ415 : KI (zk_X10_init_55 ++ (zk_X10_init_53 ++ (zk_X4_init_51 ++ (zk_X4_init_49 ++ (zk_X9_init_45 ++ (zk_X5_init_42 ++ (zk_X8_init_39 ++ (zk_X7_init_35 ++ (zk_X2_init_27 ++ (zk_X2_init_21 ++ (zk_X0_init_15 ++ (zk_X0_init_9 ++ (zk_X3_init_7 ++ (zk_X1_init_6 ++ (zk_X6_init_3 ++ ([])))))))))))))))) (zI I395 57) := hZ405.z rfl
  have hI416 : FI 1 I (zI I395 57) := hI406.z rfl
  have hJ417 : FJ 1 J (zJ J396 57) := hJ407.z rfl
  have jz418 : (zJ J396 57) 47 0 = 0 := JZ.z jz409 rfl
  have jf419 : ∀ k, k < 22 → (zJ J396 57) 5 k = rsv.getD k 0 := J5.z jf408 rfl
  have hK420 : RK ((2, 1, 55) :: (lk_X10_init_55 ++ ((2, 0, 53) :: (lk_X10_init_53 ++ ((1, 19, 51) :: (lk_X4_init_51 ++ ((1, 18, 49) :: (lk_X4_init_49 ++ ((1, 17, 45) :: (lk_X9_init_45 ++ ((1, 16, 42) :: (lk_X5_init_42 ++ ((1, 15, 39) :: (lk_X8_init_39 ++ ((1, 14, 35) :: (lk_X7_init_35 ++ ((1, 12, 34) :: ((1, 11, 33) :: ((1, 10, 27) :: (lk_X2_init_27 ++ ((1, 9, 21) :: (lk_X2_init_21 ++ ((1, 8, 15) :: (lk_X0_init_15 ++ ((1, 7, 9) :: (lk_X0_init_9 ++ ((1, 6, 7) :: (lk_X3_init_7 ++ ((1, 5, 6) :: ((1, 4, 3) :: (lk_X6_init_3 ++ ((1, 3, 2) :: ([]))))))))))))))))))))))))))))))))) (zR (uR R397 2 (Int32.toNatClampNeg (0 + 1)) 55) 57) := hK412.z rfl
  have hF421 : FR 1 R (zR (uR R397 2 (Int32.toNatClampNeg (0 + 1)) 55) 57) := hF413.z rfl
  refine ct_X10_init_57 hB414 (fun I422 J423 R424 hB425 hF426 hK427 hI428 hZ429 hJ430 jz431 => ?_)
  have hZ432 : KI (zk_X10_init_57 ++ (zk_X10_init_55 ++ (zk_X10_init_53 ++ (zk_X4_init_51 ++ (zk_X4_init_49 ++ (zk_X9_init_45 ++ (zk_X5_init_42 ++ (zk_X8_init_39 ++ (zk_X7_init_35 ++ (zk_X2_init_27 ++ (zk_X2_init_21 ++ (zk_X0_init_15 ++ (zk_X0_init_9 ++ (zk_X3_init_7 ++ (zk_X1_init_6 ++ (zk_X6_init_3 ++ ([]))))))))))))))))) I422 := hZ429.app (hZ415.fr hI428 rfl)
  have hI433 : FI 1 I I422 := fun o ho => (hI428 o (by omega)).trans (hI416 o ho)
  have hJ434 : FJ 1 J J423 := fun o ho => (hJ430 o (by omega)).trans (hJ417 o ho)
  have jf435 : ∀ k, k < 22 → J423 5 k = rsv.getD k 0 := fun k hk => (congrFun (hJ430 5 (by decide)) k).trans (jf419 k hk)
  have jz436 : J423 47 0 = 0 := (congrFun (hJ430 47 (by decide)) 0).trans jz418
  have hK437 : RK (lk_X10_init_57 ++ ((2, 1, 55) :: (lk_X10_init_55 ++ ((2, 0, 53) :: (lk_X10_init_53 ++ ((1, 19, 51) :: (lk_X4_init_51 ++ ((1, 18, 49) :: (lk_X4_init_49 ++ ((1, 17, 45) :: (lk_X9_init_45 ++ ((1, 16, 42) :: (lk_X5_init_42 ++ ((1, 15, 39) :: (lk_X8_init_39 ++ ((1, 14, 35) :: (lk_X7_init_35 ++ ((1, 12, 34) :: ((1, 11, 33) :: ((1, 10, 27) :: (lk_X2_init_27 ++ ((1, 9, 21) :: (lk_X2_init_21 ++ ((1, 8, 15) :: (lk_X0_init_15 ++ ((1, 7, 9) :: (lk_X0_init_9 ++ ((1, 6, 7) :: (lk_X3_init_7 ++ ((1, 5, 6) :: ((1, 4, 3) :: (lk_X6_init_3 ++ ((1, 3, 2) :: ([])))))))))))))))))))))))))))))))))) R424 := hK427.app (hK420.fr hF426 rfl)
  have hF438 : FR 1 R R424 := fun o ho => (hF426 o (by omega)).trans (hF421 o ho)
  refine ⟨vp_of rfl (by decide) (by decide), ?_⟩
  have hK439 : RK ((2, 2, 57) :: (lk_X10_init_57 ++ ((2, 1, 55) :: (lk_X10_init_55 ++ ((2, 0, 53) :: (lk_X10_init_53 ++ ((1, 19, 51) :: (lk_X4_init_51 ++ ((1, 18, 49) :: (lk_X4_init_49 ++ ((1, 17, 45) :: (lk_X9_init_45 ++ ((1, 16, 42) :: (lk_X5_init_42 ++ ((1, 15, 39) :: (lk_X8_init_39 ++ ((1, 14, 35) :: (lk_X7_init_35 ++ ((1, 12, 34) :: ((1, 11, 33) :: ((1, 10, 27) :: (lk_X2_init_27 ++ ((1, 9, 21) :: (lk_X2_init_21 ++ ((1, 8, 15) :: (lk_X0_init_15 ++ ((1, 7, 9) :: (lk_X0_init_9 ++ ((1, 6, 7) :: (lk_X3_init_7 ++ ((1, 5, 6) :: ((1, 4, 3) :: (lk_X6_init_3 ++ ((1, 3, 2) :: ([]))))))))))))))))))))))))))))))))))) (uR R424 2 (Int32.toNatClampNeg ((0 + 1) + 1)) 57) := hK437.u rfl
  have hF440 : FR 1 R (uR R424 2 (Int32.toNatClampNeg ((0 + 1) + 1)) 57) := hF438.u rfl
  refine cs_X11_init_1_193_58 hc _ _ _ ?_
  refine ⟨fun c => absurd c (by decide), fun _ => ?_⟩
  refine ⟨hK439.ne (show lkq ((2, 2, 57) :: (lk_X10_init_57 ++ ((2, 1, 55) :: (lk_X10_init_55 ++ ((2, 0, 53) :: (lk_X10_init_53 ++ ((1, 19, 51) :: (lk_X4_init_51 ++ ((1, 18, 49) :: (lk_X4_init_49 ++ ((1, 17, 45) :: (lk_X9_init_45 ++ ((1, 16, 42) :: (lk_X5_init_42 ++ ((1, 15, 39) :: (lk_X8_init_39 ++ ((1, 14, 35) :: (lk_X7_init_35 ++ ((1, 12, 34) :: ((1, 11, 33) :: ((1, 10, 27) :: (lk_X2_init_27 ++ ((1, 9, 21) :: (lk_X2_init_21 ++ ((1, 8, 15) :: (lk_X0_init_15 ++ ((1, 7, 9) :: (lk_X0_init_9 ++ ((1, 6, 7) :: (lk_X3_init_7 ++ ((1, 5, 6) :: ((1, 4, 3) :: (lk_X6_init_3 ++ ((1, 3, 2) :: ([]))))))))))))))))))))))))))))))))))) 1 3 = true from rfl), ?_⟩
  have hB441 : BZ (zI I422 59) := hB425.z
  have hZ442 : KI (zk_X10_init_57 ++ (zk_X10_init_55 ++ (zk_X10_init_53 ++ (zk_X4_init_51 ++ (zk_X4_init_49 ++ (zk_X9_init_45 ++ (zk_X5_init_42 ++ (zk_X8_init_39 ++ (zk_X7_init_35 ++ (zk_X2_init_27 ++ (zk_X2_init_21 ++ (zk_X0_init_15 ++ (zk_X0_init_9 ++ (zk_X3_init_7 ++ (zk_X1_init_6 ++ (zk_X6_init_3 ++ ([]))))))))))))))))) (zI I422 59) := hZ432.z rfl
  have hI443 : FI 1 I (zI I422 59) := hI433.z rfl
  have hJ444 : FJ 1 J (zJ J423 59) := hJ434.z rfl
  have jz445 : (zJ J423 59) 47 0 = 0 := JZ.z jz436 rfl
  have jf446 : ∀ k, k < 22 → (zJ J423 59) 5 k = rsv.getD k 0 := J5.z jf435 rfl
  have hK447 : RK ((2, 2, 57) :: (lk_X10_init_57 ++ ((2, 1, 55) :: (lk_X10_init_55 ++ ((2, 0, 53) :: (lk_X10_init_53 ++ ((1, 19, 51) :: (lk_X4_init_51 ++ ((1, 18, 49) :: (lk_X4_init_49 ++ ((1, 17, 45) :: (lk_X9_init_45 ++ ((1, 16, 42) :: (lk_X5_init_42 ++ ((1, 15, 39) :: (lk_X8_init_39 ++ ((1, 14, 35) :: (lk_X7_init_35 ++ ((1, 12, 34) :: ((1, 11, 33) :: ((1, 10, 27) :: (lk_X2_init_27 ++ ((1, 9, 21) :: (lk_X2_init_21 ++ ((1, 8, 15) :: (lk_X0_init_15 ++ ((1, 7, 9) :: (lk_X0_init_9 ++ ((1, 6, 7) :: (lk_X3_init_7 ++ ((1, 5, 6) :: ((1, 4, 3) :: (lk_X6_init_3 ++ ((1, 3, 2) :: ([]))))))))))))))))))))))))))))))))))) (zR (uR R424 2 (Int32.toNatClampNeg ((0 + 1) + 1)) 57) 59) := hK439.z rfl
  have hF448 : FR 1 R (zR (uR R424 2 (Int32.toNatClampNeg ((0 + 1) + 1)) 57) 59) := hF440.z rfl
  refine ct_X10_init_59 hB441 (fun I449 J450 R451 hB452 hF453 hK454 hI455 hZ456 hJ457 jz458 => ?_)
  have hZ459 : KI (zk_X10_init_59 ++ (zk_X10_init_57 ++ (zk_X10_init_55 ++ (zk_X10_init_53 ++ (zk_X4_init_51 ++ (zk_X4_init_49 ++ (zk_X9_init_45 ++ (zk_X5_init_42 ++ (zk_X8_init_39 ++ (zk_X7_init_35 ++ (zk_X2_init_27 ++ (zk_X2_init_21 ++ (zk_X0_init_15 ++ (zk_X0_init_9 ++ (zk_X3_init_7 ++ (zk_X1_init_6 ++ (zk_X6_init_3 ++ ([])))))))))))))))))) I449 := hZ456.app (hZ442.fr hI455 rfl)
  have hI460 : FI 1 I I449 := fun o ho => (hI455 o (by omega)).trans (hI443 o ho)
  have hJ461 : FJ 1 J J450 := fun o ho => (hJ457 o (by omega)).trans (hJ444 o ho)
  have jf462 : ∀ k, k < 22 → J450 5 k = rsv.getD k 0 := fun k hk => (congrFun (hJ457 5 (by decide)) k).trans (jf446 k hk)
  have jz463 : J450 47 0 = 0 := (congrFun (hJ457 47 (by decide)) 0).trans jz445
  have hK464 : RK (lk_X10_init_59 ++ ((2, 2, 57) :: (lk_X10_init_57 ++ ((2, 1, 55) :: (lk_X10_init_55 ++ ((2, 0, 53) :: (lk_X10_init_53 ++ ((1, 19, 51) :: (lk_X4_init_51 ++ ((1, 18, 49) :: (lk_X4_init_49 ++ ((1, 17, 45) :: (lk_X9_init_45 ++ ((1, 16, 42) :: (lk_X5_init_42 ++ ((1, 15, 39) :: (lk_X8_init_39 ++ ((1, 14, 35) :: (lk_X7_init_35 ++ ((1, 12, 34) :: ((1, 11, 33) :: ((1, 10, 27) :: (lk_X2_init_27 ++ ((1, 9, 21) :: (lk_X2_init_21 ++ ((1, 8, 15) :: (lk_X0_init_15 ++ ((1, 7, 9) :: (lk_X0_init_9 ++ ((1, 6, 7) :: (lk_X3_init_7 ++ ((1, 5, 6) :: ((1, 4, 3) :: (lk_X6_init_3 ++ ((1, 3, 2) :: ([])))))))))))))))))))))))))))))))))))) R451 := hK454.app (hK447.fr hF453 rfl)
  have hF465 : FR 1 R R451 := fun o ho => (hF453 o (by omega)).trans (hF448 o ho)
  refine ⟨vp_of rfl (by decide) (by decide), ?_⟩
  have hK466 : RK ((2, 3, 59) :: (lk_X10_init_59 ++ ((2, 2, 57) :: (lk_X10_init_57 ++ ((2, 1, 55) :: (lk_X10_init_55 ++ ((2, 0, 53) :: (lk_X10_init_53 ++ ((1, 19, 51) :: (lk_X4_init_51 ++ ((1, 18, 49) :: (lk_X4_init_49 ++ ((1, 17, 45) :: (lk_X9_init_45 ++ ((1, 16, 42) :: (lk_X5_init_42 ++ ((1, 15, 39) :: (lk_X8_init_39 ++ ((1, 14, 35) :: (lk_X7_init_35 ++ ((1, 12, 34) :: ((1, 11, 33) :: ((1, 10, 27) :: (lk_X2_init_27 ++ ((1, 9, 21) :: (lk_X2_init_21 ++ ((1, 8, 15) :: (lk_X0_init_15 ++ ((1, 7, 9) :: (lk_X0_init_9 ++ ((1, 6, 7) :: (lk_X3_init_7 ++ ((1, 5, 6) :: ((1, 4, 3) :: (lk_X6_init_3 ++ ((1, 3, 2) :: ([]))))))))))))))))))))))))))))))))))))) (uR R451 2 (Int32.toNatClampNeg (((0 + 1) + 1) + 1)) 59) := hK464.u rfl
  have hF467 : FR 1 R (uR R451 2 (Int32.toNatClampNeg (((0 + 1) + 1) + 1)) 59) := hF465.u rfl
  refine cs_X11_init_1_193_60 hc _ _ _ ?_
  refine ⟨fun _ => ?_, fun c => absurd (by decide) c⟩
  refine cs_X11_init_1_219_60 hc _ _ _ ?_
  refine ⟨fun c => absurd c (by decide), fun _ => ?_⟩
  refine ⟨hK466.ne (show lkq ((2, 3, 59) :: (lk_X10_init_59 ++ ((2, 2, 57) :: (lk_X10_init_57 ++ ((2, 1, 55) :: (lk_X10_init_55 ++ ((2, 0, 53) :: (lk_X10_init_53 ++ ((1, 19, 51) :: (lk_X4_init_51 ++ ((1, 18, 49) :: (lk_X4_init_49 ++ ((1, 17, 45) :: (lk_X9_init_45 ++ ((1, 16, 42) :: (lk_X5_init_42 ++ ((1, 15, 39) :: (lk_X8_init_39 ++ ((1, 14, 35) :: (lk_X7_init_35 ++ ((1, 12, 34) :: ((1, 11, 33) :: ((1, 10, 27) :: (lk_X2_init_27 ++ ((1, 9, 21) :: (lk_X2_init_21 ++ ((1, 8, 15) :: (lk_X0_init_15 ++ ((1, 7, 9) :: (lk_X0_init_9 ++ ((1, 6, 7) :: (lk_X3_init_7 ++ ((1, 5, 6) :: ((1, 4, 3) :: (lk_X6_init_3 ++ ((1, 3, 2) :: ([]))))))))))))))))))))))))))))))))))))) 1 11 = true from rfl), ?_⟩
  have hB468 : BZ (zI I449 61) := hB452.z
  have hZ469 : KI (zk_X10_init_59 ++ (zk_X10_init_57 ++ (zk_X10_init_55 ++ (zk_X10_init_53 ++ (zk_X4_init_51 ++ (zk_X4_init_49 ++ (zk_X9_init_45 ++ (zk_X5_init_42 ++ (zk_X8_init_39 ++ (zk_X7_init_35 ++ (zk_X2_init_27 ++ (zk_X2_init_21 ++ (zk_X0_init_15 ++ (zk_X0_init_9 ++ (zk_X3_init_7 ++ (zk_X1_init_6 ++ (zk_X6_init_3 ++ ([])))))))))))))))))) (zI I449 61) := hZ459.z rfl
  have hI470 : FI 1 I (zI I449 61) := hI460.z rfl
  have hJ471 : FJ 1 J (zJ J450 61) := hJ461.z rfl
  have jz472 : (zJ J450 61) 47 0 = 0 := JZ.z jz463 rfl
  have jf473 : ∀ k, k < 22 → (zJ J450 61) 5 k = rsv.getD k 0 := J5.z jf462 rfl
  have hK474 : RK ((2, 3, 59) :: (lk_X10_init_59 ++ ((2, 2, 57) :: (lk_X10_init_57 ++ ((2, 1, 55) :: (lk_X10_init_55 ++ ((2, 0, 53) :: (lk_X10_init_53 ++ ((1, 19, 51) :: (lk_X4_init_51 ++ ((1, 18, 49) :: (lk_X4_init_49 ++ ((1, 17, 45) :: (lk_X9_init_45 ++ ((1, 16, 42) :: (lk_X5_init_42 ++ ((1, 15, 39) :: (lk_X8_init_39 ++ ((1, 14, 35) :: (lk_X7_init_35 ++ ((1, 12, 34) :: ((1, 11, 33) :: ((1, 10, 27) :: (lk_X2_init_27 ++ ((1, 9, 21) :: (lk_X2_init_21 ++ ((1, 8, 15) :: (lk_X0_init_15 ++ ((1, 7, 9) :: (lk_X0_init_9 ++ ((1, 6, 7) :: (lk_X3_init_7 ++ ((1, 5, 6) :: ((1, 4, 3) :: (lk_X6_init_3 ++ ((1, 3, 2) :: ([]))))))))))))))))))))))))))))))))))))) (zR (uR R451 2 (Int32.toNatClampNeg (((0 + 1) + 1) + 1)) 59) 61) := hK466.z rfl
  have hF475 : FR 1 R (zR (uR R451 2 (Int32.toNatClampNeg (((0 + 1) + 1) + 1)) 59) 61) := hF467.z rfl
  refine ct_X0_init_61 hB468 (fun I476 J477 R478 hB479 hF480 hK481 hI482 hZ483 hJ484 jz485 => ?_)
  have hZ486 : KI (zk_X0_init_61 ++ (zk_X10_init_59 ++ (zk_X10_init_57 ++ (zk_X10_init_55 ++ (zk_X10_init_53 ++ (zk_X4_init_51 ++ (zk_X4_init_49 ++ (zk_X9_init_45 ++ (zk_X5_init_42 ++ (zk_X8_init_39 ++ (zk_X7_init_35 ++ (zk_X2_init_27 ++ (zk_X2_init_21 ++ (zk_X0_init_15 ++ (zk_X0_init_9 ++ (zk_X3_init_7 ++ (zk_X1_init_6 ++ (zk_X6_init_3 ++ ([]))))))))))))))))))) I476 := hZ483.app (hZ469.fr hI482 rfl)
  have hI487 : FI 1 I I476 := fun o ho => (hI482 o (by omega)).trans (hI470 o ho)
  have hJ488 : FJ 1 J J477 := fun o ho => (hJ484 o (by omega)).trans (hJ471 o ho)
  have jf489 : ∀ k, k < 22 → J477 5 k = rsv.getD k 0 := fun k hk => (congrFun (hJ484 5 (by decide)) k).trans (jf473 k hk)
  have jz490 : J477 47 0 = 0 := (congrFun (hJ484 47 (by decide)) 0).trans jz472
  have hK491 : RK (lk_X0_init_61 ++ ((2, 3, 59) :: (lk_X10_init_59 ++ ((2, 2, 57) :: (lk_X10_init_57 ++ ((2, 1, 55) :: (lk_X10_init_55 ++ ((2, 0, 53) :: (lk_X10_init_53 ++ ((1, 19, 51) :: (lk_X4_init_51 ++ ((1, 18, 49) :: (lk_X4_init_49 ++ ((1, 17, 45) :: (lk_X9_init_45 ++ ((1, 16, 42) :: (lk_X5_init_42 ++ ((1, 15, 39) :: (lk_X8_init_39 ++ ((1, 14, 35) :: (lk_X7_init_35 ++ ((1, 12, 34) :: ((1, 11, 33) :: ((1, 10, 27) :: (lk_X2_init_27 ++ ((1, 9, 21) :: (lk_X2_init_21 ++ ((1, 8, 15) :: (lk_X0_init_15 ++ ((1, 7, 9) :: (lk_X0_init_9 ++ ((1, 6, 7) :: (lk_X3_init_7 ++ ((1, 5, 6) :: ((1, 4, 3) :: (lk_X6_init_3 ++ ((1, 3, 2) :: ([])))))))))))))))))))))))))))))))))))))) R478 := hK481.app (hK474.fr hF480 rfl)
  have hF492 : FR 1 R R478 := fun o ho => (hF480 o (by omega)).trans (hF475 o ho)
  refine ⟨vp_of rfl (by decide) (by decide), ?_⟩
  have hK493 : RK ((33, 0, 61) :: (lk_X0_init_61 ++ ((2, 3, 59) :: (lk_X10_init_59 ++ ((2, 2, 57) :: (lk_X10_init_57 ++ ((2, 1, 55) :: (lk_X10_init_55 ++ ((2, 0, 53) :: (lk_X10_init_53 ++ ((1, 19, 51) :: (lk_X4_init_51 ++ ((1, 18, 49) :: (lk_X4_init_49 ++ ((1, 17, 45) :: (lk_X9_init_45 ++ ((1, 16, 42) :: (lk_X5_init_42 ++ ((1, 15, 39) :: (lk_X8_init_39 ++ ((1, 14, 35) :: (lk_X7_init_35 ++ ((1, 12, 34) :: ((1, 11, 33) :: ((1, 10, 27) :: (lk_X2_init_27 ++ ((1, 9, 21) :: (lk_X2_init_21 ++ ((1, 8, 15) :: (lk_X0_init_15 ++ ((1, 7, 9) :: (lk_X0_init_9 ++ ((1, 6, 7) :: (lk_X3_init_7 ++ ((1, 5, 6) :: ((1, 4, 3) :: (lk_X6_init_3 ++ ((1, 3, 2) :: ([]))))))))))))))))))))))))))))))))))))))) (uR R478 33 (Int32.toNatClampNeg 0) 61) := hK491.u rfl
  have hF494 : FR 1 R (uR R478 33 (Int32.toNatClampNeg 0) 61) := hF492.u rfl
  refine ⟨hK493.ne (show lkq ((33, 0, 61) :: (lk_X0_init_61 ++ ((2, 3, 59) :: (lk_X10_init_59 ++ ((2, 2, 57) :: (lk_X10_init_57 ++ ((2, 1, 55) :: (lk_X10_init_55 ++ ((2, 0, 53) :: (lk_X10_init_53 ++ ((1, 19, 51) :: (lk_X4_init_51 ++ ((1, 18, 49) :: (lk_X4_init_49 ++ ((1, 17, 45) :: (lk_X9_init_45 ++ ((1, 16, 42) :: (lk_X5_init_42 ++ ((1, 15, 39) :: (lk_X8_init_39 ++ ((1, 14, 35) :: (lk_X7_init_35 ++ ((1, 12, 34) :: ((1, 11, 33) :: ((1, 10, 27) :: (lk_X2_init_27 ++ ((1, 9, 21) :: (lk_X2_init_21 ++ ((1, 8, 15) :: (lk_X0_init_15 ++ ((1, 7, 9) :: (lk_X0_init_9 ++ ((1, 6, 7) :: (lk_X3_init_7 ++ ((1, 5, 6) :: ((1, 4, 3) :: (lk_X6_init_3 ++ ((1, 3, 2) :: ([]))))))))))))))))))))))))))))))))))))))) 1 12 = true from rfl), ?_⟩
  have hB495 : BZ (zI I476 67) := hB479.z
  have hZ496 : KI (zk_X0_init_61 ++ (zk_X10_init_59 ++ (zk_X10_init_57 ++ (zk_X10_init_55 ++ (zk_X10_init_53 ++ (zk_X4_init_51 ++ (zk_X4_init_49 ++ (zk_X9_init_45 ++ (zk_X5_init_42 ++ (zk_X8_init_39 ++ (zk_X7_init_35 ++ (zk_X2_init_27 ++ (zk_X2_init_21 ++ (zk_X0_init_15 ++ (zk_X0_init_9 ++ (zk_X3_init_7 ++ (zk_X1_init_6 ++ (zk_X6_init_3 ++ ([]))))))))))))))))))) (zI I476 67) := hZ486.z rfl
  have hI497 : FI 1 I (zI I476 67) := hI487.z rfl
  have hJ498 : FJ 1 J (zJ J477 67) := hJ488.z rfl
  have jz499 : (zJ J477 67) 47 0 = 0 := JZ.z jz490 rfl
  have jf500 : ∀ k, k < 22 → (zJ J477 67) 5 k = rsv.getD k 0 := J5.z jf489 rfl
  have hK501 : RK ((33, 0, 61) :: (lk_X0_init_61 ++ ((2, 3, 59) :: (lk_X10_init_59 ++ ((2, 2, 57) :: (lk_X10_init_57 ++ ((2, 1, 55) :: (lk_X10_init_55 ++ ((2, 0, 53) :: (lk_X10_init_53 ++ ((1, 19, 51) :: (lk_X4_init_51 ++ ((1, 18, 49) :: (lk_X4_init_49 ++ ((1, 17, 45) :: (lk_X9_init_45 ++ ((1, 16, 42) :: (lk_X5_init_42 ++ ((1, 15, 39) :: (lk_X8_init_39 ++ ((1, 14, 35) :: (lk_X7_init_35 ++ ((1, 12, 34) :: ((1, 11, 33) :: ((1, 10, 27) :: (lk_X2_init_27 ++ ((1, 9, 21) :: (lk_X2_init_21 ++ ((1, 8, 15) :: (lk_X0_init_15 ++ ((1, 7, 9) :: (lk_X0_init_9 ++ ((1, 6, 7) :: (lk_X3_init_7 ++ ((1, 5, 6) :: ((1, 4, 3) :: (lk_X6_init_3 ++ ((1, 3, 2) :: ([]))))))))))))))))))))))))))))))))))))))) (zR (uR R478 33 (Int32.toNatClampNeg 0) 61) 67) := hK493.z rfl
  have hF502 : FR 1 R (zR (uR R478 33 (Int32.toNatClampNeg 0) 61) 67) := hF494.z rfl
  refine ct_X2_init_67 hB495 (fun I503 J504 R505 hB506 hF507 hK508 hI509 hZ510 hJ511 jz512 => ?_)
  have hZ513 : KI (zk_X2_init_67 ++ (zk_X0_init_61 ++ (zk_X10_init_59 ++ (zk_X10_init_57 ++ (zk_X10_init_55 ++ (zk_X10_init_53 ++ (zk_X4_init_51 ++ (zk_X4_init_49 ++ (zk_X9_init_45 ++ (zk_X5_init_42 ++ (zk_X8_init_39 ++ (zk_X7_init_35 ++ (zk_X2_init_27 ++ (zk_X2_init_21 ++ (zk_X0_init_15 ++ (zk_X0_init_9 ++ (zk_X3_init_7 ++ (zk_X1_init_6 ++ (zk_X6_init_3 ++ ([])))))))))))))))))))) I503 := hZ510.app (hZ496.fr hI509 rfl)
  have hI514 : FI 1 I I503 := fun o ho => (hI509 o (by omega)).trans (hI497 o ho)
  have hJ515 : FJ 1 J J504 := fun o ho => (hJ511 o (by omega)).trans (hJ498 o ho)
  have jf516 : ∀ k, k < 22 → J504 5 k = rsv.getD k 0 := fun k hk => (congrFun (hJ511 5 (by decide)) k).trans (jf500 k hk)
  have jz517 : J504 47 0 = 0 := (congrFun (hJ511 47 (by decide)) 0).trans jz499
  have hK518 : RK (lk_X2_init_67 ++ ((33, 0, 61) :: (lk_X0_init_61 ++ ((2, 3, 59) :: (lk_X10_init_59 ++ ((2, 2, 57) :: (lk_X10_init_57 ++ ((2, 1, 55) :: (lk_X10_init_55 ++ ((2, 0, 53) :: (lk_X10_init_53 ++ ((1, 19, 51) :: (lk_X4_init_51 ++ ((1, 18, 49) :: (lk_X4_init_49 ++ ((1, 17, 45) :: (lk_X9_init_45 ++ ((1, 16, 42) :: (lk_X5_init_42 ++ ((1, 15, 39) :: (lk_X8_init_39 ++ ((1, 14, 35) :: (lk_X7_init_35 ++ ((1, 12, 34) :: ((1, 11, 33) :: ((1, 10, 27) :: (lk_X2_init_27 ++ ((1, 9, 21) :: (lk_X2_init_21 ++ ((1, 8, 15) :: (lk_X0_init_15 ++ ((1, 7, 9) :: (lk_X0_init_9 ++ ((1, 6, 7) :: (lk_X3_init_7 ++ ((1, 5, 6) :: ((1, 4, 3) :: (lk_X6_init_3 ++ ((1, 3, 2) :: ([])))))))))))))))))))))))))))))))))))))))) R505 := hK508.app (hK501.fr hF507 rfl)
  have hF519 : FR 1 R R505 := fun o ho => (hF507 o (by omega)).trans (hF502 o ho)
  refine ⟨vp_of rfl (by decide) (by decide), ?_⟩
  have hK520 : RK ((34, 0, 67) :: (lk_X2_init_67 ++ ((33, 0, 61) :: (lk_X0_init_61 ++ ((2, 3, 59) :: (lk_X10_init_59 ++ ((2, 2, 57) :: (lk_X10_init_57 ++ ((2, 1, 55) :: (lk_X10_init_55 ++ ((2, 0, 53) :: (lk_X10_init_53 ++ ((1, 19, 51) :: (lk_X4_init_51 ++ ((1, 18, 49) :: (lk_X4_init_49 ++ ((1, 17, 45) :: (lk_X9_init_45 ++ ((1, 16, 42) :: (lk_X5_init_42 ++ ((1, 15, 39) :: (lk_X8_init_39 ++ ((1, 14, 35) :: (lk_X7_init_35 ++ ((1, 12, 34) :: ((1, 11, 33) :: ((1, 10, 27) :: (lk_X2_init_27 ++ ((1, 9, 21) :: (lk_X2_init_21 ++ ((1, 8, 15) :: (lk_X0_init_15 ++ ((1, 7, 9) :: (lk_X0_init_9 ++ ((1, 6, 7) :: (lk_X3_init_7 ++ ((1, 5, 6) :: ((1, 4, 3) :: (lk_X6_init_3 ++ ((1, 3, 2) :: ([]))))))))))))))))))))))))))))))))))))))))) (uR R505 34 (Int32.toNatClampNeg 0) 67) := hK518.u rfl
  have hF521 : FR 1 R (uR R505 34 (Int32.toNatClampNeg 0) 67) := hF519.u rfl
  refine cs_X11_init_1_219_72 hc _ _ _ ?_
  refine ⟨fun c => absurd c (by decide), fun _ => ?_⟩
  refine ⟨hK520.ne (show lkq ((34, 0, 67) :: (lk_X2_init_67 ++ ((33, 0, 61) :: (lk_X0_init_61 ++ ((2, 3, 59) :: (lk_X10_init_59 ++ ((2, 2, 57) :: (lk_X10_init_57 ++ ((2, 1, 55) :: (lk_X10_init_55 ++ ((2, 0, 53) :: (lk_X10_init_53 ++ ((1, 19, 51) :: (lk_X4_init_51 ++ ((1, 18, 49) :: (lk_X4_init_49 ++ ((1, 17, 45) :: (lk_X9_init_45 ++ ((1, 16, 42) :: (lk_X5_init_42 ++ ((1, 15, 39) :: (lk_X8_init_39 ++ ((1, 14, 35) :: (lk_X7_init_35 ++ ((1, 12, 34) :: ((1, 11, 33) :: ((1, 10, 27) :: (lk_X2_init_27 ++ ((1, 9, 21) :: (lk_X2_init_21 ++ ((1, 8, 15) :: (lk_X0_init_15 ++ ((1, 7, 9) :: (lk_X0_init_9 ++ ((1, 6, 7) :: (lk_X3_init_7 ++ ((1, 5, 6) :: ((1, 4, 3) :: (lk_X6_init_3 ++ ((1, 3, 2) :: ([]))))))))))))))))))))))))))))))))))))))))) 1 11 = true from rfl), ?_⟩
  have hB522 : BZ (zI I503 73) := hB506.z
  have hZ523 : KI (zk_X2_init_67 ++ (zk_X0_init_61 ++ (zk_X10_init_59 ++ (zk_X10_init_57 ++ (zk_X10_init_55 ++ (zk_X10_init_53 ++ (zk_X4_init_51 ++ (zk_X4_init_49 ++ (zk_X9_init_45 ++ (zk_X5_init_42 ++ (zk_X8_init_39 ++ (zk_X7_init_35 ++ (zk_X2_init_27 ++ (zk_X2_init_21 ++ (zk_X0_init_15 ++ (zk_X0_init_9 ++ (zk_X3_init_7 ++ (zk_X1_init_6 ++ (zk_X6_init_3 ++ ([])))))))))))))))))))) (zI I503 73) := hZ513.z rfl
  have hI524 : FI 1 I (zI I503 73) := hI514.z rfl
  have hJ525 : FJ 1 J (zJ J504 73) := hJ515.z rfl
  have jz526 : (zJ J504 73) 47 0 = 0 := JZ.z jz517 rfl
  have jf527 : ∀ k, k < 22 → (zJ J504 73) 5 k = rsv.getD k 0 := J5.z jf516 rfl
  have hK528 : RK ((34, 0, 67) :: (lk_X2_init_67 ++ ((33, 0, 61) :: (lk_X0_init_61 ++ ((2, 3, 59) :: (lk_X10_init_59 ++ ((2, 2, 57) :: (lk_X10_init_57 ++ ((2, 1, 55) :: (lk_X10_init_55 ++ ((2, 0, 53) :: (lk_X10_init_53 ++ ((1, 19, 51) :: (lk_X4_init_51 ++ ((1, 18, 49) :: (lk_X4_init_49 ++ ((1, 17, 45) :: (lk_X9_init_45 ++ ((1, 16, 42) :: (lk_X5_init_42 ++ ((1, 15, 39) :: (lk_X8_init_39 ++ ((1, 14, 35) :: (lk_X7_init_35 ++ ((1, 12, 34) :: ((1, 11, 33) :: ((1, 10, 27) :: (lk_X2_init_27 ++ ((1, 9, 21) :: (lk_X2_init_21 ++ ((1, 8, 15) :: (lk_X0_init_15 ++ ((1, 7, 9) :: (lk_X0_init_9 ++ ((1, 6, 7) :: (lk_X3_init_7 ++ ((1, 5, 6) :: ((1, 4, 3) :: (lk_X6_init_3 ++ ((1, 3, 2) :: ([]))))))))))))))))))))))))))))))))))))))))) (zR (uR R505 34 (Int32.toNatClampNeg 0) 67) 73) := hK520.z rfl
  have hF529 : FR 1 R (zR (uR R505 34 (Int32.toNatClampNeg 0) 67) 73) := hF521.z rfl
  refine ct_X0_init_73 hB522 (fun I530 J531 R532 hB533 hF534 hK535 hI536 hZ537 hJ538 jz539 => ?_)
  have hZ540 : KI (zk_X0_init_73 ++ (zk_X2_init_67 ++ (zk_X0_init_61 ++ (zk_X10_init_59 ++ (zk_X10_init_57 ++ (zk_X10_init_55 ++ (zk_X10_init_53 ++ (zk_X4_init_51 ++ (zk_X4_init_49 ++ (zk_X9_init_45 ++ (zk_X5_init_42 ++ (zk_X8_init_39 ++ (zk_X7_init_35 ++ (zk_X2_init_27 ++ (zk_X2_init_21 ++ (zk_X0_init_15 ++ (zk_X0_init_9 ++ (zk_X3_init_7 ++ (zk_X1_init_6 ++ (zk_X6_init_3 ++ ([]))))))))))))))))))))) I530 := hZ537.app (hZ523.fr hI536 rfl)
  have hI541 : FI 1 I I530 := fun o ho => (hI536 o (by omega)).trans (hI524 o ho)
  have hJ542 : FJ 1 J J531 := fun o ho => (hJ538 o (by omega)).trans (hJ525 o ho)
  have jf543 : ∀ k, k < 22 → J531 5 k = rsv.getD k 0 := fun k hk => (congrFun (hJ538 5 (by decide)) k).trans (jf527 k hk)
  have jz544 : J531 47 0 = 0 := (congrFun (hJ538 47 (by decide)) 0).trans jz526
  have hK545 : RK (lk_X0_init_73 ++ ((34, 0, 67) :: (lk_X2_init_67 ++ ((33, 0, 61) :: (lk_X0_init_61 ++ ((2, 3, 59) :: (lk_X10_init_59 ++ ((2, 2, 57) :: (lk_X10_init_57 ++ ((2, 1, 55) :: (lk_X10_init_55 ++ ((2, 0, 53) :: (lk_X10_init_53 ++ ((1, 19, 51) :: (lk_X4_init_51 ++ ((1, 18, 49) :: (lk_X4_init_49 ++ ((1, 17, 45) :: (lk_X9_init_45 ++ ((1, 16, 42) :: (lk_X5_init_42 ++ ((1, 15, 39) :: (lk_X8_init_39 ++ ((1, 14, 35) :: (lk_X7_init_35 ++ ((1, 12, 34) :: ((1, 11, 33) :: ((1, 10, 27) :: (lk_X2_init_27 ++ ((1, 9, 21) :: (lk_X2_init_21 ++ ((1, 8, 15) :: (lk_X0_init_15 ++ ((1, 7, 9) :: (lk_X0_init_9 ++ ((1, 6, 7) :: (lk_X3_init_7 ++ ((1, 5, 6) :: ((1, 4, 3) :: (lk_X6_init_3 ++ ((1, 3, 2) :: ([])))))))))))))))))))))))))))))))))))))))))) R532 := hK535.app (hK528.fr hF534 rfl)
  have hF546 : FR 1 R R532 := fun o ho => (hF534 o (by omega)).trans (hF529 o ho)
  refine ⟨vp_of rfl (by decide) (by decide), ?_⟩
  have hK547 : RK ((33, 1, 73) :: (lk_X0_init_73 ++ ((34, 0, 67) :: (lk_X2_init_67 ++ ((33, 0, 61) :: (lk_X0_init_61 ++ ((2, 3, 59) :: (lk_X10_init_59 ++ ((2, 2, 57) :: (lk_X10_init_57 ++ ((2, 1, 55) :: (lk_X10_init_55 ++ ((2, 0, 53) :: (lk_X10_init_53 ++ ((1, 19, 51) :: (lk_X4_init_51 ++ ((1, 18, 49) :: (lk_X4_init_49 ++ ((1, 17, 45) :: (lk_X9_init_45 ++ ((1, 16, 42) :: (lk_X5_init_42 ++ ((1, 15, 39) :: (lk_X8_init_39 ++ ((1, 14, 35) :: (lk_X7_init_35 ++ ((1, 12, 34) :: ((1, 11, 33) :: ((1, 10, 27) :: (lk_X2_init_27 ++ ((1, 9, 21) :: (lk_X2_init_21 ++ ((1, 8, 15) :: (lk_X0_init_15 ++ ((1, 7, 9) :: (lk_X0_init_9 ++ ((1, 6, 7) :: (lk_X3_init_7 ++ ((1, 5, 6) :: ((1, 4, 3) :: (lk_X6_init_3 ++ ((1, 3, 2) :: ([]))))))))))))))))))))))))))))))))))))))))))) (uR R532 33 (Int32.toNatClampNeg (0 + 1)) 73) := hK545.u rfl
  have hF548 : FR 1 R (uR R532 33 (Int32.toNatClampNeg (0 + 1)) 73) := hF546.u rfl
  refine ⟨hK547.ne (show lkq ((33, 1, 73) :: (lk_X0_init_73 ++ ((34, 0, 67) :: (lk_X2_init_67 ++ ((33, 0, 61) :: (lk_X0_init_61 ++ ((2, 3, 59) :: (lk_X10_init_59 ++ ((2, 2, 57) :: (lk_X10_init_57 ++ ((2, 1, 55) :: (lk_X10_init_55 ++ ((2, 0, 53) :: (lk_X10_init_53 ++ ((1, 19, 51) :: (lk_X4_init_51 ++ ((1, 18, 49) :: (lk_X4_init_49 ++ ((1, 17, 45) :: (lk_X9_init_45 ++ ((1, 16, 42) :: (lk_X5_init_42 ++ ((1, 15, 39) :: (lk_X8_init_39 ++ ((1, 14, 35) :: (lk_X7_init_35 ++ ((1, 12, 34) :: ((1, 11, 33) :: ((1, 10, 27) :: (lk_X2_init_27 ++ ((1, 9, 21) :: (lk_X2_init_21 ++ ((1, 8, 15) :: (lk_X0_init_15 ++ ((1, 7, 9) :: (lk_X0_init_9 ++ ((1, 6, 7) :: (lk_X3_init_7 ++ ((1, 5, 6) :: ((1, 4, 3) :: (lk_X6_init_3 ++ ((1, 3, 2) :: ([]))))))))))))))))))))))))))))))))))))))))))) 1 12 = true from rfl), ?_⟩
  have hB549 : BZ (zI I530 79) := hB533.z
  have hZ550 : KI (zk_X0_init_73 ++ (zk_X2_init_67 ++ (zk_X0_init_61 ++ (zk_X10_init_59 ++ (zk_X10_init_57 ++ (zk_X10_init_55 ++ (zk_X10_init_53 ++ (zk_X4_init_51 ++ (zk_X4_init_49 ++ (zk_X9_init_45 ++ (zk_X5_init_42 ++ (zk_X8_init_39 ++ (zk_X7_init_35 ++ (zk_X2_init_27 ++ (zk_X2_init_21 ++ (zk_X0_init_15 ++ (zk_X0_init_9 ++ (zk_X3_init_7 ++ (zk_X1_init_6 ++ (zk_X6_init_3 ++ ([]))))))))))))))))))))) (zI I530 79) := hZ540.z rfl
  have hI551 : FI 1 I (zI I530 79) := hI541.z rfl
  have hJ552 : FJ 1 J (zJ J531 79) := hJ542.z rfl
  have jz553 : (zJ J531 79) 47 0 = 0 := JZ.z jz544 rfl
  have jf554 : ∀ k, k < 22 → (zJ J531 79) 5 k = rsv.getD k 0 := J5.z jf543 rfl
  have hK555 : RK ((33, 1, 73) :: (lk_X0_init_73 ++ ((34, 0, 67) :: (lk_X2_init_67 ++ ((33, 0, 61) :: (lk_X0_init_61 ++ ((2, 3, 59) :: (lk_X10_init_59 ++ ((2, 2, 57) :: (lk_X10_init_57 ++ ((2, 1, 55) :: (lk_X10_init_55 ++ ((2, 0, 53) :: (lk_X10_init_53 ++ ((1, 19, 51) :: (lk_X4_init_51 ++ ((1, 18, 49) :: (lk_X4_init_49 ++ ((1, 17, 45) :: (lk_X9_init_45 ++ ((1, 16, 42) :: (lk_X5_init_42 ++ ((1, 15, 39) :: (lk_X8_init_39 ++ ((1, 14, 35) :: (lk_X7_init_35 ++ ((1, 12, 34) :: ((1, 11, 33) :: ((1, 10, 27) :: (lk_X2_init_27 ++ ((1, 9, 21) :: (lk_X2_init_21 ++ ((1, 8, 15) :: (lk_X0_init_15 ++ ((1, 7, 9) :: (lk_X0_init_9 ++ ((1, 6, 7) :: (lk_X3_init_7 ++ ((1, 5, 6) :: ((1, 4, 3) :: (lk_X6_init_3 ++ ((1, 3, 2) :: ([]))))))))))))))))))))))))))))))))))))))))))) (zR (uR R532 33 (Int32.toNatClampNeg (0 + 1)) 73) 79) := hK547.z rfl
  have hF556 : FR 1 R (zR (uR R532 33 (Int32.toNatClampNeg (0 + 1)) 73) 79) := hF548.z rfl
  refine ct_X2_init_79 hB549 (fun I557 J558 R559 hB560 hF561 hK562 hI563 hZ564 hJ565 jz566 => ?_)
  have hZ567 : KI (zk_X2_init_79 ++ (zk_X0_init_73 ++ (zk_X2_init_67 ++ (zk_X0_init_61 ++ (zk_X10_init_59 ++ (zk_X10_init_57 ++ (zk_X10_init_55 ++ (zk_X10_init_53 ++ (zk_X4_init_51 ++ (zk_X4_init_49 ++ (zk_X9_init_45 ++ (zk_X5_init_42 ++ (zk_X8_init_39 ++ (zk_X7_init_35 ++ (zk_X2_init_27 ++ (zk_X2_init_21 ++ (zk_X0_init_15 ++ (zk_X0_init_9 ++ (zk_X3_init_7 ++ (zk_X1_init_6 ++ (zk_X6_init_3 ++ ([])))))))))))))))))))))) I557 := hZ564.app (hZ550.fr hI563 rfl)
  have hI568 : FI 1 I I557 := fun o ho => (hI563 o (by omega)).trans (hI551 o ho)
  have hJ569 : FJ 1 J J558 := fun o ho => (hJ565 o (by omega)).trans (hJ552 o ho)
  have jf570 : ∀ k, k < 22 → J558 5 k = rsv.getD k 0 := fun k hk => (congrFun (hJ565 5 (by decide)) k).trans (jf554 k hk)
  have jz571 : J558 47 0 = 0 := (congrFun (hJ565 47 (by decide)) 0).trans jz553
  have hK572 : RK (lk_X2_init_79 ++ ((33, 1, 73) :: (lk_X0_init_73 ++ ((34, 0, 67) :: (lk_X2_init_67 ++ ((33, 0, 61) :: (lk_X0_init_61 ++ ((2, 3, 59) :: (lk_X10_init_59 ++ ((2, 2, 57) :: (lk_X10_init_57 ++ ((2, 1, 55) :: (lk_X10_init_55 ++ ((2, 0, 53) :: (lk_X10_init_53 ++ ((1, 19, 51) :: (lk_X4_init_51 ++ ((1, 18, 49) :: (lk_X4_init_49 ++ ((1, 17, 45) :: (lk_X9_init_45 ++ ((1, 16, 42) :: (lk_X5_init_42 ++ ((1, 15, 39) :: (lk_X8_init_39 ++ ((1, 14, 35) :: (lk_X7_init_35 ++ ((1, 12, 34) :: ((1, 11, 33) :: ((1, 10, 27) :: (lk_X2_init_27 ++ ((1, 9, 21) :: (lk_X2_init_21 ++ ((1, 8, 15) :: (lk_X0_init_15 ++ ((1, 7, 9) :: (lk_X0_init_9 ++ ((1, 6, 7) :: (lk_X3_init_7 ++ ((1, 5, 6) :: ((1, 4, 3) :: (lk_X6_init_3 ++ ((1, 3, 2) :: ([])))))))))))))))))))))))))))))))))))))))))))) R559 := hK562.app (hK555.fr hF561 rfl)
  have hF573 : FR 1 R R559 := fun o ho => (hF561 o (by omega)).trans (hF556 o ho)
  refine ⟨vp_of rfl (by decide) (by decide), ?_⟩
  have hK574 : RK ((34, 1, 79) :: (lk_X2_init_79 ++ ((33, 1, 73) :: (lk_X0_init_73 ++ ((34, 0, 67) :: (lk_X2_init_67 ++ ((33, 0, 61) :: (lk_X0_init_61 ++ ((2, 3, 59) :: (lk_X10_init_59 ++ ((2, 2, 57) :: (lk_X10_init_57 ++ ((2, 1, 55) :: (lk_X10_init_55 ++ ((2, 0, 53) :: (lk_X10_init_53 ++ ((1, 19, 51) :: (lk_X4_init_51 ++ ((1, 18, 49) :: (lk_X4_init_49 ++ ((1, 17, 45) :: (lk_X9_init_45 ++ ((1, 16, 42) :: (lk_X5_init_42 ++ ((1, 15, 39) :: (lk_X8_init_39 ++ ((1, 14, 35) :: (lk_X7_init_35 ++ ((1, 12, 34) :: ((1, 11, 33) :: ((1, 10, 27) :: (lk_X2_init_27 ++ ((1, 9, 21) :: (lk_X2_init_21 ++ ((1, 8, 15) :: (lk_X0_init_15 ++ ((1, 7, 9) :: (lk_X0_init_9 ++ ((1, 6, 7) :: (lk_X3_init_7 ++ ((1, 5, 6) :: ((1, 4, 3) :: (lk_X6_init_3 ++ ((1, 3, 2) :: ([]))))))))))))))))))))))))))))))))))))))))))))) (uR R559 34 (Int32.toNatClampNeg (0 + 1)) 79) := hK572.u rfl
  have hF575 : FR 1 R (uR R559 34 (Int32.toNatClampNeg (0 + 1)) 79) := hF573.u rfl
  refine cs_X11_init_1_219_84 hc _ _ _ ?_
  refine ⟨fun c => absurd c (by decide), fun _ => ?_⟩
  refine ⟨hK574.ne (show lkq ((34, 1, 79) :: (lk_X2_init_79 ++ ((33, 1, 73) :: (lk_X0_init_73 ++ ((34, 0, 67) :: (lk_X2_init_67 ++ ((33, 0, 61) :: (lk_X0_init_61 ++ ((2, 3, 59) :: (lk_X10_init_59 ++ ((2, 2, 57) :: (lk_X10_init_57 ++ ((2, 1, 55) :: (lk_X10_init_55 ++ ((2, 0, 53) :: (lk_X10_init_53 ++ ((1, 19, 51) :: (lk_X4_init_51 ++ ((1, 18, 49) :: (lk_X4_init_49 ++ ((1, 17, 45) :: (lk_X9_init_45 ++ ((1, 16, 42) :: (lk_X5_init_42 ++ ((1, 15, 39) :: (lk_X8_init_39 ++ ((1, 14, 35) :: (lk_X7_init_35 ++ ((1, 12, 34) :: ((1, 11, 33) :: ((1, 10, 27) :: (lk_X2_init_27 ++ ((1, 9, 21) :: (lk_X2_init_21 ++ ((1, 8, 15) :: (lk_X0_init_15 ++ ((1, 7, 9) :: (lk_X0_init_9 ++ ((1, 6, 7) :: (lk_X3_init_7 ++ ((1, 5, 6) :: ((1, 4, 3) :: (lk_X6_init_3 ++ ((1, 3, 2) :: ([]))))))))))))))))))))))))))))))))))))))))))))) 1 11 = true from rfl), ?_⟩
  have hB576 : BZ (zI I557 85) := hB560.z
  have hZ577 : KI (zk_X2_init_79 ++ (zk_X0_init_73 ++ (zk_X2_init_67 ++ (zk_X0_init_61 ++ (zk_X10_init_59 ++ (zk_X10_init_57 ++ (zk_X10_init_55 ++ (zk_X10_init_53 ++ (zk_X4_init_51 ++ (zk_X4_init_49 ++ (zk_X9_init_45 ++ (zk_X5_init_42 ++ (zk_X8_init_39 ++ (zk_X7_init_35 ++ (zk_X2_init_27 ++ (zk_X2_init_21 ++ (zk_X0_init_15 ++ (zk_X0_init_9 ++ (zk_X3_init_7 ++ (zk_X1_init_6 ++ (zk_X6_init_3 ++ ([])))))))))))))))))))))) (zI I557 85) := hZ567.z rfl
  have hI578 : FI 1 I (zI I557 85) := hI568.z rfl
  have hJ579 : FJ 1 J (zJ J558 85) := hJ569.z rfl
  have jz580 : (zJ J558 85) 47 0 = 0 := JZ.z jz571 rfl
  have jf581 : ∀ k, k < 22 → (zJ J558 85) 5 k = rsv.getD k 0 := J5.z jf570 rfl
  have hK582 : RK ((34, 1, 79) :: (lk_X2_init_79 ++ ((33, 1, 73) :: (lk_X0_init_73 ++ ((34, 0, 67) :: (lk_X2_init_67 ++ ((33, 0, 61) :: (lk_X0_init_61 ++ ((2, 3, 59) :: (lk_X10_init_59 ++ ((2, 2, 57) :: (lk_X10_init_57 ++ ((2, 1, 55) :: (lk_X10_init_55 ++ ((2, 0, 53) :: (lk_X10_init_53 ++ ((1, 19, 51) :: (lk_X4_init_51 ++ ((1, 18, 49) :: (lk_X4_init_49 ++ ((1, 17, 45) :: (lk_X9_init_45 ++ ((1, 16, 42) :: (lk_X5_init_42 ++ ((1, 15, 39) :: (lk_X8_init_39 ++ ((1, 14, 35) :: (lk_X7_init_35 ++ ((1, 12, 34) :: ((1, 11, 33) :: ((1, 10, 27) :: (lk_X2_init_27 ++ ((1, 9, 21) :: (lk_X2_init_21 ++ ((1, 8, 15) :: (lk_X0_init_15 ++ ((1, 7, 9) :: (lk_X0_init_9 ++ ((1, 6, 7) :: (lk_X3_init_7 ++ ((1, 5, 6) :: ((1, 4, 3) :: (lk_X6_init_3 ++ ((1, 3, 2) :: ([]))))))))))))))))))))))))))))))))))))))))))))) (zR (uR R559 34 (Int32.toNatClampNeg (0 + 1)) 79) 85) := hK574.z rfl
  have hF583 : FR 1 R (zR (uR R559 34 (Int32.toNatClampNeg (0 + 1)) 79) 85) := hF575.z rfl
  refine ct_X0_init_85 hB576 (fun I584 J585 R586 hB587 hF588 hK589 hI590 hZ591 hJ592 jz593 => ?_)
  have hZ594 : KI (zk_X0_init_85 ++ (zk_X2_init_79 ++ (zk_X0_init_73 ++ (zk_X2_init_67 ++ (zk_X0_init_61 ++ (zk_X10_init_59 ++ (zk_X10_init_57 ++ (zk_X10_init_55 ++ (zk_X10_init_53 ++ (zk_X4_init_51 ++ (zk_X4_init_49 ++ (zk_X9_init_45 ++ (zk_X5_init_42 ++ (zk_X8_init_39 ++ (zk_X7_init_35 ++ (zk_X2_init_27 ++ (zk_X2_init_21 ++ (zk_X0_init_15 ++ (zk_X0_init_9 ++ (zk_X3_init_7 ++ (zk_X1_init_6 ++ (zk_X6_init_3 ++ ([]))))))))))))))))))))))) I584 := hZ591.app (hZ577.fr hI590 rfl)
  have hI595 : FI 1 I I584 := fun o ho => (hI590 o (by omega)).trans (hI578 o ho)
  have hJ596 : FJ 1 J J585 := fun o ho => (hJ592 o (by omega)).trans (hJ579 o ho)
  have jf597 : ∀ k, k < 22 → J585 5 k = rsv.getD k 0 := fun k hk => (congrFun (hJ592 5 (by decide)) k).trans (jf581 k hk)
  have jz598 : J585 47 0 = 0 := (congrFun (hJ592 47 (by decide)) 0).trans jz580
  have hK599 : RK (lk_X0_init_85 ++ ((34, 1, 79) :: (lk_X2_init_79 ++ ((33, 1, 73) :: (lk_X0_init_73 ++ ((34, 0, 67) :: (lk_X2_init_67 ++ ((33, 0, 61) :: (lk_X0_init_61 ++ ((2, 3, 59) :: (lk_X10_init_59 ++ ((2, 2, 57) :: (lk_X10_init_57 ++ ((2, 1, 55) :: (lk_X10_init_55 ++ ((2, 0, 53) :: (lk_X10_init_53 ++ ((1, 19, 51) :: (lk_X4_init_51 ++ ((1, 18, 49) :: (lk_X4_init_49 ++ ((1, 17, 45) :: (lk_X9_init_45 ++ ((1, 16, 42) :: (lk_X5_init_42 ++ ((1, 15, 39) :: (lk_X8_init_39 ++ ((1, 14, 35) :: (lk_X7_init_35 ++ ((1, 12, 34) :: ((1, 11, 33) :: ((1, 10, 27) :: (lk_X2_init_27 ++ ((1, 9, 21) :: (lk_X2_init_21 ++ ((1, 8, 15) :: (lk_X0_init_15 ++ ((1, 7, 9) :: (lk_X0_init_9 ++ ((1, 6, 7) :: (lk_X3_init_7 ++ ((1, 5, 6) :: ((1, 4, 3) :: (lk_X6_init_3 ++ ((1, 3, 2) :: ([])))))))))))))))))))))))))))))))))))))))))))))) R586 := hK589.app (hK582.fr hF588 rfl)
  have hF600 : FR 1 R R586 := fun o ho => (hF588 o (by omega)).trans (hF583 o ho)
  refine ⟨vp_of rfl (by decide) (by decide), ?_⟩
  have hK601 : RK ((33, 2, 85) :: (lk_X0_init_85 ++ ((34, 1, 79) :: (lk_X2_init_79 ++ ((33, 1, 73) :: (lk_X0_init_73 ++ ((34, 0, 67) :: (lk_X2_init_67 ++ ((33, 0, 61) :: (lk_X0_init_61 ++ ((2, 3, 59) :: (lk_X10_init_59 ++ ((2, 2, 57) :: (lk_X10_init_57 ++ ((2, 1, 55) :: (lk_X10_init_55 ++ ((2, 0, 53) :: (lk_X10_init_53 ++ ((1, 19, 51) :: (lk_X4_init_51 ++ ((1, 18, 49) :: (lk_X4_init_49 ++ ((1, 17, 45) :: (lk_X9_init_45 ++ ((1, 16, 42) :: (lk_X5_init_42 ++ ((1, 15, 39) :: (lk_X8_init_39 ++ ((1, 14, 35) :: (lk_X7_init_35 ++ ((1, 12, 34) :: ((1, 11, 33) :: ((1, 10, 27) :: (lk_X2_init_27 ++ ((1, 9, 21) :: (lk_X2_init_21 ++ ((1, 8, 15) :: (lk_X0_init_15 ++ ((1, 7, 9) :: (lk_X0_init_9 ++ ((1, 6, 7) :: (lk_X3_init_7 ++ ((1, 5, 6) :: ((1, 4, 3) :: (lk_X6_init_3 ++ ((1, 3, 2) :: ([]))))))))))))))))))))))))))))))))))))))))))))))) (uR R586 33 (Int32.toNatClampNeg ((0 + 1) + 1)) 85) := hK599.u rfl
  have hF602 : FR 1 R (uR R586 33 (Int32.toNatClampNeg ((0 + 1) + 1)) 85) := hF600.u rfl
  refine ⟨hK601.ne (show lkq ((33, 2, 85) :: (lk_X0_init_85 ++ ((34, 1, 79) :: (lk_X2_init_79 ++ ((33, 1, 73) :: (lk_X0_init_73 ++ ((34, 0, 67) :: (lk_X2_init_67 ++ ((33, 0, 61) :: (lk_X0_init_61 ++ ((2, 3, 59) :: (lk_X10_init_59 ++ ((2, 2, 57) :: (lk_X10_init_57 ++ ((2, 1, 55) :: (lk_X10_init_55 ++ ((2, 0, 53) :: (lk_X10_init_53 ++ ((1, 19, 51) :: (lk_X4_init_51 ++ ((1, 18, 49) :: (lk_X4_init_49 ++ ((1, 17, 45) :: (lk_X9_init_45 ++ ((1, 16, 42) :: (lk_X5_init_42 ++ ((1, 15, 39) :: (lk_X8_init_39 ++ ((1, 14, 35) :: (lk_X7_init_35 ++ ((1, 12, 34) :: ((1, 11, 33) :: ((1, 10, 27) :: (lk_X2_init_27 ++ ((1, 9, 21) :: (lk_X2_init_21 ++ ((1, 8, 15) :: (lk_X0_init_15 ++ ((1, 7, 9) :: (lk_X0_init_9 ++ ((1, 6, 7) :: (lk_X3_init_7 ++ ((1, 5, 6) :: ((1, 4, 3) :: (lk_X6_init_3 ++ ((1, 3, 2) :: ([]))))))))))))))))))))))))))))))))))))))))))))))) 1 12 = true from rfl), ?_⟩
  have hB603 : BZ (zI I584 91) := hB587.z
  have hZ604 : KI (zk_X0_init_85 ++ (zk_X2_init_79 ++ (zk_X0_init_73 ++ (zk_X2_init_67 ++ (zk_X0_init_61 ++ (zk_X10_init_59 ++ (zk_X10_init_57 ++ (zk_X10_init_55 ++ (zk_X10_init_53 ++ (zk_X4_init_51 ++ (zk_X4_init_49 ++ (zk_X9_init_45 ++ (zk_X5_init_42 ++ (zk_X8_init_39 ++ (zk_X7_init_35 ++ (zk_X2_init_27 ++ (zk_X2_init_21 ++ (zk_X0_init_15 ++ (zk_X0_init_9 ++ (zk_X3_init_7 ++ (zk_X1_init_6 ++ (zk_X6_init_3 ++ ([]))))))))))))))))))))))) (zI I584 91) := hZ594.z rfl
  have hI605 : FI 1 I (zI I584 91) := hI595.z rfl
  have hJ606 : FJ 1 J (zJ J585 91) := hJ596.z rfl
  have jz607 : (zJ J585 91) 47 0 = 0 := JZ.z jz598 rfl
  have jf608 : ∀ k, k < 22 → (zJ J585 91) 5 k = rsv.getD k 0 := J5.z jf597 rfl
  have hK609 : RK ((33, 2, 85) :: (lk_X0_init_85 ++ ((34, 1, 79) :: (lk_X2_init_79 ++ ((33, 1, 73) :: (lk_X0_init_73 ++ ((34, 0, 67) :: (lk_X2_init_67 ++ ((33, 0, 61) :: (lk_X0_init_61 ++ ((2, 3, 59) :: (lk_X10_init_59 ++ ((2, 2, 57) :: (lk_X10_init_57 ++ ((2, 1, 55) :: (lk_X10_init_55 ++ ((2, 0, 53) :: (lk_X10_init_53 ++ ((1, 19, 51) :: (lk_X4_init_51 ++ ((1, 18, 49) :: (lk_X4_init_49 ++ ((1, 17, 45) :: (lk_X9_init_45 ++ ((1, 16, 42) :: (lk_X5_init_42 ++ ((1, 15, 39) :: (lk_X8_init_39 ++ ((1, 14, 35) :: (lk_X7_init_35 ++ ((1, 12, 34) :: ((1, 11, 33) :: ((1, 10, 27) :: (lk_X2_init_27 ++ ((1, 9, 21) :: (lk_X2_init_21 ++ ((1, 8, 15) :: (lk_X0_init_15 ++ ((1, 7, 9) :: (lk_X0_init_9 ++ ((1, 6, 7) :: (lk_X3_init_7 ++ ((1, 5, 6) :: ((1, 4, 3) :: (lk_X6_init_3 ++ ((1, 3, 2) :: ([]))))))))))))))))))))))))))))))))))))))))))))))) (zR (uR R586 33 (Int32.toNatClampNeg ((0 + 1) + 1)) 85) 91) := hK601.z rfl
  have hF610 : FR 1 R (zR (uR R586 33 (Int32.toNatClampNeg ((0 + 1) + 1)) 85) 91) := hF602.z rfl
  refine ct_X2_init_91 hB603 (fun I611 J612 R613 hB614 hF615 hK616 hI617 hZ618 hJ619 jz620 => ?_)
  have hZ621 : KI (zk_X2_init_91 ++ (zk_X0_init_85 ++ (zk_X2_init_79 ++ (zk_X0_init_73 ++ (zk_X2_init_67 ++ (zk_X0_init_61 ++ (zk_X10_init_59 ++ (zk_X10_init_57 ++ (zk_X10_init_55 ++ (zk_X10_init_53 ++ (zk_X4_init_51 ++ (zk_X4_init_49 ++ (zk_X9_init_45 ++ (zk_X5_init_42 ++ (zk_X8_init_39 ++ (zk_X7_init_35 ++ (zk_X2_init_27 ++ (zk_X2_init_21 ++ (zk_X0_init_15 ++ (zk_X0_init_9 ++ (zk_X3_init_7 ++ (zk_X1_init_6 ++ (zk_X6_init_3 ++ ([])))))))))))))))))))))))) I611 := hZ618.app (hZ604.fr hI617 rfl)
  have hI622 : FI 1 I I611 := fun o ho => (hI617 o (by omega)).trans (hI605 o ho)
  have hJ623 : FJ 1 J J612 := fun o ho => (hJ619 o (by omega)).trans (hJ606 o ho)
  have jf624 : ∀ k, k < 22 → J612 5 k = rsv.getD k 0 := fun k hk => (congrFun (hJ619 5 (by decide)) k).trans (jf608 k hk)
  have jz625 : J612 47 0 = 0 := (congrFun (hJ619 47 (by decide)) 0).trans jz607
  have hK626 : RK (lk_X2_init_91 ++ ((33, 2, 85) :: (lk_X0_init_85 ++ ((34, 1, 79) :: (lk_X2_init_79 ++ ((33, 1, 73) :: (lk_X0_init_73 ++ ((34, 0, 67) :: (lk_X2_init_67 ++ ((33, 0, 61) :: (lk_X0_init_61 ++ ((2, 3, 59) :: (lk_X10_init_59 ++ ((2, 2, 57) :: (lk_X10_init_57 ++ ((2, 1, 55) :: (lk_X10_init_55 ++ ((2, 0, 53) :: (lk_X10_init_53 ++ ((1, 19, 51) :: (lk_X4_init_51 ++ ((1, 18, 49) :: (lk_X4_init_49 ++ ((1, 17, 45) :: (lk_X9_init_45 ++ ((1, 16, 42) :: (lk_X5_init_42 ++ ((1, 15, 39) :: (lk_X8_init_39 ++ ((1, 14, 35) :: (lk_X7_init_35 ++ ((1, 12, 34) :: ((1, 11, 33) :: ((1, 10, 27) :: (lk_X2_init_27 ++ ((1, 9, 21) :: (lk_X2_init_21 ++ ((1, 8, 15) :: (lk_X0_init_15 ++ ((1, 7, 9) :: (lk_X0_init_9 ++ ((1, 6, 7) :: (lk_X3_init_7 ++ ((1, 5, 6) :: ((1, 4, 3) :: (lk_X6_init_3 ++ ((1, 3, 2) :: ([])))))))))))))))))))))))))))))))))))))))))))))))) R613 := hK616.app (hK609.fr hF615 rfl)
  have hF627 : FR 1 R R613 := fun o ho => (hF615 o (by omega)).trans (hF610 o ho)
  refine ⟨vp_of rfl (by decide) (by decide), ?_⟩
  have hK628 : RK ((34, 2, 91) :: (lk_X2_init_91 ++ ((33, 2, 85) :: (lk_X0_init_85 ++ ((34, 1, 79) :: (lk_X2_init_79 ++ ((33, 1, 73) :: (lk_X0_init_73 ++ ((34, 0, 67) :: (lk_X2_init_67 ++ ((33, 0, 61) :: (lk_X0_init_61 ++ ((2, 3, 59) :: (lk_X10_init_59 ++ ((2, 2, 57) :: (lk_X10_init_57 ++ ((2, 1, 55) :: (lk_X10_init_55 ++ ((2, 0, 53) :: (lk_X10_init_53 ++ ((1, 19, 51) :: (lk_X4_init_51 ++ ((1, 18, 49) :: (lk_X4_init_49 ++ ((1, 17, 45) :: (lk_X9_init_45 ++ ((1, 16, 42) :: (lk_X5_init_42 ++ ((1, 15, 39) :: (lk_X8_init_39 ++ ((1, 14, 35) :: (lk_X7_init_35 ++ ((1, 12, 34) :: ((1, 11, 33) :: ((1, 10, 27) :: (lk_X2_init_27 ++ ((1, 9, 21) :: (lk_X2_init_21 ++ ((1, 8, 15) :: (lk_X0_init_15 ++ ((1, 7, 9) :: (lk_X0_init_9 ++ ((1, 6, 7) :: (lk_X3_init_7 ++ ((1, 5, 6) :: ((1, 4, 3) :: (lk_X6_init_3 ++ ((1, 3, 2) :: ([]))))))))))))))))))))))))))))))))))))))))))))))))) (uR R613 34 (Int32.toNatClampNeg ((0 + 1) + 1)) 91) := hK626.u rfl
  have hF629 : FR 1 R (uR R613 34 (Int32.toNatClampNeg ((0 + 1) + 1)) 91) := hF627.u rfl
  refine cs_X11_init_1_219_96 hc _ _ _ ?_
  refine ⟨fun _ => ?_, fun c => absurd (by decide) c⟩
  exact ⟨rfl, fun z => absurd z (by decide), hQ _ _ _ hB614 hF629 hK628 hI622 hZ621 hJ623 ⟨jz625, jf624⟩⟩
noncomputable def lk_X12_init_97 : List (Nat × Nat × Nat) := (97, 39, 112) :: ((97, 38, 111) :: ((97, 37, 110) :: ((97, 36, 109) :: ((97, 35, 108) :: ((97, 30, 107) :: ((97, 29, 106) :: ((97, 28, 105) :: ((97, 22, 104) :: ((97, 21, 103) :: ((97, 20, 102) :: ((97, 7, 101) :: ((97, 6, 100) :: ((97, 5, 99) :: ((97, 4, 98) :: ([])))))))))))))))
theorem getD_out {α : Type} {l : List α} {n : Nat} {d : α} (h : l.length ≤ n) : l.getD n d = d := by rw [List.getD_eq_getElem?_getD, List.getElem?_eq_none h]; rfl
noncomputable def lkA : List (Nat × Nat × Nat) := lk_X12_init_97 ++ lk_X11_init_1
theorem fl_of {R : Rm} (h : RK lkA R) : Fl R := by
  have h1 : ((List.range 112).all fun i => (List.range 60).all fun k => !(Nat.beq (fkd (shl.getD i (999, 0)).1 k) 4) || lkq lkA (i + 1) k) = true := by decide +kernel
  have h2 : ∀ ci, ci < 1000 → (fkl.getD ci []).length ≤ 60 := by decide +kernel
  have h4 : ∀ i, i < 112 → (shl.getD i (999, 0)).1 < 1000 := by decide +kernel
  intro i k hk
  have hi : i < 112 := by
    rcases Nat.lt_or_ge i 112 with q | q
    · exact q
    · rw [sh_out (by omega)] at hk
      have : fkd 999 k = 9 := by
        unfold fkd
        rw [getD_out (l := fkl) (by decide)]; rfl
      rw [show ((999, 0) : Nat × Nat).1 = 999 from rfl, this] at hk
      omega
  have hk6 : k < 60 := by
    rcases Nat.lt_or_ge k 60 with q | q
    · exact q
    · have h5 := h2 _ (h4 i hi)
      unfold fkd at hk
      rw [getD_out (by omega)] at hk
      omega
  have h5 := List.all_eq_true.mp (List.all_eq_true.mp h1 i (List.mem_range.mpr hi)) k (List.mem_range.mpr hk6)
  rw [hk] at h5
  exact h.ne h5
theorem ri_of {R : Rm} (h : RK lkA R) : RI R := by
  have a : ∀ o k v : Nat, lkA.contains (o, k, v) = true → R o k = v := fun o k v q => h.at q
  refine ⟨?_, ?_, ?_, ?_, fun j hj => ?_, fun j hj => ?_, fun j hj => ?_, fun j hj => ?_, Or.inl ⟨a 1 7 9 rfl, a 1 8 15 rfl⟩, Or.inl ⟨a 1 9 21 rfl, a 1 10 27 rfl⟩, fun j hj => ?_, fun j hj => ?_⟩
  · rw [a 1 7 9 rfl]; decide
  · rw [a 1 8 15 rfl]; decide
  · rw [a 1 9 21 rfl]; decide
  · rw [a 1 10 27 rfl]; decide
  · rcases (show j = 0 ∨ j = 1 ∨ j = 2 ∨ j = 3 by omega) with q | q | q | q <;> subst q
    · rw [a 2 0 53 rfl]; decide
    · rw [a 2 1 55 rfl]; decide
    · rw [a 2 2 57 rfl]; decide
    · rw [a 2 3 59 rfl]; decide
  · rcases (show j = 0 ∨ j = 1 ∨ j = 2 by omega) with q | q | q <;> subst q
    · rw [a 33 0 61 rfl]; decide
    · rw [a 33 1 73 rfl]; decide
    · rw [a 33 2 85 rfl]; decide
  · rcases (show j = 0 ∨ j = 1 ∨ j = 2 by omega) with q | q | q <;> subst q
    · rw [a 34 0 67 rfl]; decide
    · rw [a 34 1 79 rfl]; decide
    · rw [a 34 2 91 rfl]; decide
  · rcases (show j = 0 ∨ j = 1 ∨ j = 2 ∨ j = 3 by omega) with q | q | q | q <;> subst q
    · exact a 2 0 53 rfl
    · exact a 2 1 55 rfl
    · exact a 2 2 57 rfl
    · exact a 2 3 59 rfl
  · rcases (show j = 0 ∨ j = 1 ∨ j = 2 by omega) with q | q | q <;> subst q
    · exact a 33 0 61 rfl
    · exact a 33 1 73 rfl
    · exact a 33 2 85 rfl
  · rcases (show j = 0 ∨ j = 1 ∨ j = 2 by omega) with q | q | q <;> subst q
    · exact a 34 0 67 rfl
    · exact a 34 1 79 rfl
    · exact a 34 2 91 rfl
set_option maxHeartbeats 4000000 in
set_option maxRecDepth 100000 in
theorem ct_X12_init_97 {d : Nat} {Q : Qt} {I : Im} {J : Jm} {R : Rm} (hB : BZ I) (hL : RK lk_X11_init_1 R) (hZ0 : KI zk_X11_init_1 I) (hj0 : J 47 0 = 0) (hj5 : ∀ k, k < 22 → J 5 k = rsv.getD k 0) (hQ : ∀ (I2 : Im) (J2 : Jm) (R2 : Rm), Bd I2 → FR 97 R R2 → RK lk_X12_init_97 R2 → RLk I2 J2 → R3 I2 J2 → (I2 9 4 = 0 ∧ I2 9 2 = 1073741823 ∧ I2 102 0 = 0 ∧ I2 102 3 = 1073741823 ∧ I2 97 23 = 0 ∧ I2 3 3 = 0 ∧ I2 97 10 = -1 ∧ I2 97 11 = -1) → (I2 9 1 = 4 ∧ I2 9 3 = 0 ∧ (∀ k, I2 10 k = 0) ∧ I2 21 0 = 0 ∧ ∀ k, k < 324 → I2 102 k = emC k) → Q 0 0 I2 J2 R2) : AM (d + 2) 172 97 [.ref 97] I J R Q := by
  refine amc_of (k := kX12_init) rfl rfl rfl rfl rfl rfl (Nat.le_of_ble_eq_true rfl) (fun P hc => ?_)
  refine cs_X12_init_97_0_97 hc _ _ _ ?_
  have hJ1 : FJ 97 J (uJ J 97 3 1) := (FJ.refl 97 J).w rfl
  have jz2 : (uJ J 97 3 1) 47 0 = 0 := JZ.w hj0 rfl
  have jf3 : ∀ k, k < 22 → (uJ J 97 3 1) 5 k = rsv.getD k 0 := J5.w hj5 rfl
  refine ⟨rfl, ?_⟩
  have hB4 : BZ (zI I 98) := hB.z
  have hZ5 : KI (zk_X11_init_1) (zI I 98) := hZ0.z rfl
  have hI6 : FI 97 I (zI I 98) := (FI.refl 97 I).z rfl
  have hJ7 : FJ 97 J (zJ (uJ J 97 3 1) 98) := hJ1.z rfl
  have jz8 : (zJ (uJ J 97 3 1) 98) 47 0 = 0 := JZ.z jz2 rfl
  have jf9 : ∀ k, k < 22 → (zJ (uJ J 97 3 1) 98) 5 k = rsv.getD k 0 := J5.z jf3 rfl
  have hK10 : RK ([]) (zR R 98) := (RK.nil (R := R)).z rfl
  have hF11 : FR 97 R (zR R 98) := (FR.refl 97 R).z rfl
  have hK12 : RK ((97, 4, 98) :: ([])) (uR (zR R 98) 97 4 98) := hK10.u rfl
  have hF13 : FR 97 R (uR (zR R 98) 97 4 98) := hF11.u rfl
  refine ⟨rfl, ?_⟩
  have hB14 : BZ (zI (zI I 98) 99) := hB4.z
  have hZ15 : KI (zk_X11_init_1) (zI (zI I 98) 99) := hZ5.z rfl
  have hI16 : FI 97 I (zI (zI I 98) 99) := hI6.z rfl
  have hJ17 : FJ 97 J (zJ (zJ (uJ J 97 3 1) 98) 99) := hJ7.z rfl
  have jz18 : (zJ (zJ (uJ J 97 3 1) 98) 99) 47 0 = 0 := JZ.z jz8 rfl
  have jf19 : ∀ k, k < 22 → (zJ (zJ (uJ J 97 3 1) 98) 99) 5 k = rsv.getD k 0 := J5.z jf9 rfl
  have hK20 : RK ((97, 4, 98) :: ([])) (zR (uR (zR R 98) 97 4 98) 99) := hK12.z rfl
  have hF21 : FR 97 R (zR (uR (zR R 98) 97 4 98) 99) := hF13.z rfl
  have hK22 : RK ((97, 5, 99) :: ((97, 4, 98) :: ([]))) (uR (zR (uR (zR R 98) 97 4 98) 99) 97 5 99) := hK20.u rfl
  have hF23 : FR 97 R (uR (zR (uR (zR R 98) 97 4 98) 99) 97 5 99) := hF21.u rfl
  refine ⟨rfl, ?_⟩
  have hB24 : BZ (zI (zI (zI I 98) 99) 100) := hB14.z
  have hZ25 : KI (zk_X11_init_1) (zI (zI (zI I 98) 99) 100) := hZ15.z rfl
  have hI26 : FI 97 I (zI (zI (zI I 98) 99) 100) := hI16.z rfl
  have hJ27 : FJ 97 J (zJ (zJ (zJ (uJ J 97 3 1) 98) 99) 100) := hJ17.z rfl
  have jz28 : (zJ (zJ (zJ (uJ J 97 3 1) 98) 99) 100) 47 0 = 0 := JZ.z jz18 rfl
  have jf29 : ∀ k, k < 22 → (zJ (zJ (zJ (uJ J 97 3 1) 98) 99) 100) 5 k = rsv.getD k 0 := J5.z jf19 rfl
  have hK30 : RK ((97, 5, 99) :: ((97, 4, 98) :: ([]))) (zR (uR (zR (uR (zR R 98) 97 4 98) 99) 97 5 99) 100) := hK22.z rfl
  have hF31 : FR 97 R (zR (uR (zR (uR (zR R 98) 97 4 98) 99) 97 5 99) 100) := hF23.z rfl
  have hK32 : RK ((97, 6, 100) :: ((97, 5, 99) :: ((97, 4, 98) :: ([])))) (uR (zR (uR (zR (uR (zR R 98) 97 4 98) 99) 97 5 99) 100) 97 6 100) := hK30.u rfl
  have hF33 : FR 97 R (uR (zR (uR (zR (uR (zR R 98) 97 4 98) 99) 97 5 99) 100) 97 6 100) := hF31.u rfl
  refine ⟨rfl, ?_⟩
  have hB34 : BZ (zI (zI (zI (zI I 98) 99) 100) 101) := hB24.z
  have hZ35 : KI (zk_X11_init_1) (zI (zI (zI (zI I 98) 99) 100) 101) := hZ25.z rfl
  have hI36 : FI 97 I (zI (zI (zI (zI I 98) 99) 100) 101) := hI26.z rfl
  have hJ37 : FJ 97 J (zJ (zJ (zJ (zJ (uJ J 97 3 1) 98) 99) 100) 101) := hJ27.z rfl
  have jz38 : (zJ (zJ (zJ (zJ (uJ J 97 3 1) 98) 99) 100) 101) 47 0 = 0 := JZ.z jz28 rfl
  have jf39 : ∀ k, k < 22 → (zJ (zJ (zJ (zJ (uJ J 97 3 1) 98) 99) 100) 101) 5 k = rsv.getD k 0 := J5.z jf29 rfl
  have hK40 : RK ((97, 6, 100) :: ((97, 5, 99) :: ((97, 4, 98) :: ([])))) (zR (uR (zR (uR (zR (uR (zR R 98) 97 4 98) 99) 97 5 99) 100) 97 6 100) 101) := hK32.z rfl
  have hF41 : FR 97 R (zR (uR (zR (uR (zR (uR (zR R 98) 97 4 98) 99) 97 5 99) 100) 97 6 100) 101) := hF33.z rfl
  have hK42 : RK ((97, 7, 101) :: ((97, 6, 100) :: ((97, 5, 99) :: ((97, 4, 98) :: ([]))))) (uR (zR (uR (zR (uR (zR (uR (zR R 98) 97 4 98) 99) 97 5 99) 100) 97 6 100) 101) 97 7 101) := hK40.u rfl
  have hF43 : FR 97 R (uR (zR (uR (zR (uR (zR (uR (zR R 98) 97 4 98) 99) 97 5 99) 100) 97 6 100) 101) 97 7 101) := hF41.u rfl
  have hB44 : BZ (uI (zI (zI (zI (zI I 98) 99) 100) 101) 97 10 (-1)) := hB34.kw rfl rfl rfl
  have hZ45 : KI ((97, 10, -1) :: (zk_X11_init_1)) (uI (zI (zI (zI (zI I 98) 99) 100) 101) 97 10 (-1)) := hZ35.u rfl
  have hI46 : FI 97 I (uI (zI (zI (zI (zI I 98) 99) 100) 101) 97 10 (-1)) := hI36.w rfl
  have hB47 : BZ (uI (uI (zI (zI (zI (zI I 98) 99) 100) 101) 97 10 (-1)) 97 11 (-1)) := hB44.kw rfl rfl rfl
  have hZ48 : KI ((97, 11, -1) :: ((97, 10, -1) :: (zk_X11_init_1))) (uI (uI (zI (zI (zI (zI I 98) 99) 100) 101) 97 10 (-1)) 97 11 (-1)) := hZ45.u rfl
  have hI49 : FI 97 I (uI (uI (zI (zI (zI (zI I 98) 99) 100) 101) 97 10 (-1)) 97 11 (-1)) := hI46.w rfl
  refine ⟨rfl, ?_⟩
  have hB50 : BZ (zI (uI (uI (zI (zI (zI (zI I 98) 99) 100) 101) 97 10 (-1)) 97 11 (-1)) 102) := hB47.z
  have hZ51 : KI ((97, 11, -1) :: ((97, 10, -1) :: (zk_X11_init_1))) (zI (uI (uI (zI (zI (zI (zI I 98) 99) 100) 101) 97 10 (-1)) 97 11 (-1)) 102) := hZ48.z rfl
  have hI52 : FI 97 I (zI (uI (uI (zI (zI (zI (zI I 98) 99) 100) 101) 97 10 (-1)) 97 11 (-1)) 102) := hI49.z rfl
  have hJ53 : FJ 97 J (zJ (zJ (zJ (zJ (zJ (uJ J 97 3 1) 98) 99) 100) 101) 102) := hJ37.z rfl
  have jz54 : (zJ (zJ (zJ (zJ (zJ (uJ J 97 3 1) 98) 99) 100) 101) 102) 47 0 = 0 := JZ.z jz38 rfl
  have jf55 : ∀ k, k < 22 → (zJ (zJ (zJ (zJ (zJ (uJ J 97 3 1) 98) 99) 100) 101) 102) 5 k = rsv.getD k 0 := J5.z jf39 rfl
  have hK56 : RK ((97, 7, 101) :: ((97, 6, 100) :: ((97, 5, 99) :: ((97, 4, 98) :: ([]))))) (zR (uR (zR (uR (zR (uR (zR (uR (zR R 98) 97 4 98) 99) 97 5 99) 100) 97 6 100) 101) 97 7 101) 102) := hK42.z rfl
  have hF57 : FR 97 R (zR (uR (zR (uR (zR (uR (zR (uR (zR R 98) 97 4 98) 99) 97 5 99) 100) 97 6 100) 101) 97 7 101) 102) := hF43.z rfl
  have hK58 : RK ((97, 20, 102) :: ((97, 7, 101) :: ((97, 6, 100) :: ((97, 5, 99) :: ((97, 4, 98) :: ([])))))) (uR (zR (uR (zR (uR (zR (uR (zR (uR (zR R 98) 97 4 98) 99) 97 5 99) 100) 97 6 100) 101) 97 7 101) 102) 97 20 102) := hK56.u rfl
  have hF59 : FR 97 R (uR (zR (uR (zR (uR (zR (uR (zR (uR (zR R 98) 97 4 98) 99) 97 5 99) 100) 97 6 100) 101) 97 7 101) 102) 97 20 102) := hF57.u rfl
  refine ⟨rfl, ?_⟩
  have hB60 : BZ (zI (zI (uI (uI (zI (zI (zI (zI I 98) 99) 100) 101) 97 10 (-1)) 97 11 (-1)) 102) 103) := hB50.z
  have hZ61 : KI ((97, 11, -1) :: ((97, 10, -1) :: (zk_X11_init_1))) (zI (zI (uI (uI (zI (zI (zI (zI I 98) 99) 100) 101) 97 10 (-1)) 97 11 (-1)) 102) 103) := hZ51.z rfl
  have hI62 : FI 97 I (zI (zI (uI (uI (zI (zI (zI (zI I 98) 99) 100) 101) 97 10 (-1)) 97 11 (-1)) 102) 103) := hI52.z rfl
  have hJ63 : FJ 97 J (zJ (zJ (zJ (zJ (zJ (zJ (uJ J 97 3 1) 98) 99) 100) 101) 102) 103) := hJ53.z rfl
  have jz64 : (zJ (zJ (zJ (zJ (zJ (zJ (uJ J 97 3 1) 98) 99) 100) 101) 102) 103) 47 0 = 0 := JZ.z jz54 rfl
  have jf65 : ∀ k, k < 22 → (zJ (zJ (zJ (zJ (zJ (zJ (uJ J 97 3 1) 98) 99) 100) 101) 102) 103) 5 k = rsv.getD k 0 := J5.z jf55 rfl
  have hK66 : RK ((97, 20, 102) :: ((97, 7, 101) :: ((97, 6, 100) :: ((97, 5, 99) :: ((97, 4, 98) :: ([])))))) (zR (uR (zR (uR (zR (uR (zR (uR (zR (uR (zR R 98) 97 4 98) 99) 97 5 99) 100) 97 6 100) 101) 97 7 101) 102) 97 20 102) 103) := hK58.z rfl
  have hF67 : FR 97 R (zR (uR (zR (uR (zR (uR (zR (uR (zR (uR (zR R 98) 97 4 98) 99) 97 5 99) 100) 97 6 100) 101) 97 7 101) 102) 97 20 102) 103) := hF59.z rfl
  have hK68 : RK ((97, 21, 103) :: ((97, 20, 102) :: ((97, 7, 101) :: ((97, 6, 100) :: ((97, 5, 99) :: ((97, 4, 98) :: ([]))))))) (uR (zR (uR (zR (uR (zR (uR (zR (uR (zR (uR (zR R 98) 97 4 98) 99) 97 5 99) 100) 97 6 100) 101) 97 7 101) 102) 97 20 102) 103) 97 21 103) := hK66.u rfl
  have hF69 : FR 97 R (uR (zR (uR (zR (uR (zR (uR (zR (uR (zR (uR (zR R 98) 97 4 98) 99) 97 5 99) 100) 97 6 100) 101) 97 7 101) 102) 97 20 102) 103) 97 21 103) := hF67.u rfl
  refine ⟨rfl, ?_⟩
  have hB70 : BZ (zI (zI (zI (uI (uI (zI (zI (zI (zI I 98) 99) 100) 101) 97 10 (-1)) 97 11 (-1)) 102) 103) 104) := hB60.z
  have hZ71 : KI ((97, 11, -1) :: ((97, 10, -1) :: (zk_X11_init_1))) (zI (zI (zI (uI (uI (zI (zI (zI (zI I 98) 99) 100) 101) 97 10 (-1)) 97 11 (-1)) 102) 103) 104) := hZ61.z rfl
  have hI72 : FI 97 I (zI (zI (zI (uI (uI (zI (zI (zI (zI I 98) 99) 100) 101) 97 10 (-1)) 97 11 (-1)) 102) 103) 104) := hI62.z rfl
  have hJ73 : FJ 97 J (zJ (zJ (zJ (zJ (zJ (zJ (zJ (uJ J 97 3 1) 98) 99) 100) 101) 102) 103) 104) := hJ63.z rfl
  have jz74 : (zJ (zJ (zJ (zJ (zJ (zJ (zJ (uJ J 97 3 1) 98) 99) 100) 101) 102) 103) 104) 47 0 = 0 := JZ.z jz64 rfl
  have jf75 : ∀ k, k < 22 → (zJ (zJ (zJ (zJ (zJ (zJ (zJ (uJ J 97 3 1) 98) 99) 100) 101) 102) 103) 104) 5 k = rsv.getD k 0 := J5.z jf65 rfl
  have hK76 : RK ((97, 21, 103) :: ((97, 20, 102) :: ((97, 7, 101) :: ((97, 6, 100) :: ((97, 5, 99) :: ((97, 4, 98) :: ([]))))))) (zR (uR (zR (uR (zR (uR (zR (uR (zR (uR (zR (uR (zR R 98) 97 4 98) 99) 97 5 99) 100) 97 6 100) 101) 97 7 101) 102) 97 20 102) 103) 97 21 103) 104) := hK68.z rfl
  have hF77 : FR 97 R (zR (uR (zR (uR (zR (uR (zR (uR (zR (uR (zR (uR (zR R 98) 97 4 98) 99) 97 5 99) 100) 97 6 100) 101) 97 7 101) 102) 97 20 102) 103) 97 21 103) 104) := hF69.z rfl
  have hK78 : RK ((97, 22, 104) :: ((97, 21, 103) :: ((97, 20, 102) :: ((97, 7, 101) :: ((97, 6, 100) :: ((97, 5, 99) :: ((97, 4, 98) :: ([])))))))) (uR (zR (uR (zR (uR (zR (uR (zR (uR (zR (uR (zR (uR (zR R 98) 97 4 98) 99) 97 5 99) 100) 97 6 100) 101) 97 7 101) 102) 97 20 102) 103) 97 21 103) 104) 97 22 104) := hK76.u rfl
  have hF79 : FR 97 R (uR (zR (uR (zR (uR (zR (uR (zR (uR (zR (uR (zR (uR (zR R 98) 97 4 98) 99) 97 5 99) 100) 97 6 100) 101) 97 7 101) 102) 97 20 102) 103) 97 21 103) 104) 97 22 104) := hF77.u rfl
  refine ⟨rfl, ?_⟩
  have hB80 : BZ (zI (zI (zI (zI (uI (uI (zI (zI (zI (zI I 98) 99) 100) 101) 97 10 (-1)) 97 11 (-1)) 102) 103) 104) 105) := hB70.z
  have hZ81 : KI ((97, 11, -1) :: ((97, 10, -1) :: (zk_X11_init_1))) (zI (zI (zI (zI (uI (uI (zI (zI (zI (zI I 98) 99) 100) 101) 97 10 (-1)) 97 11 (-1)) 102) 103) 104) 105) := hZ71.z rfl
  have hI82 : FI 97 I (zI (zI (zI (zI (uI (uI (zI (zI (zI (zI I 98) 99) 100) 101) 97 10 (-1)) 97 11 (-1)) 102) 103) 104) 105) := hI72.z rfl
  have hJ83 : FJ 97 J (zJ (zJ (zJ (zJ (zJ (zJ (zJ (zJ (uJ J 97 3 1) 98) 99) 100) 101) 102) 103) 104) 105) := hJ73.z rfl
  have jz84 : (zJ (zJ (zJ (zJ (zJ (zJ (zJ (zJ (uJ J 97 3 1) 98) 99) 100) 101) 102) 103) 104) 105) 47 0 = 0 := JZ.z jz74 rfl
  have jf85 : ∀ k, k < 22 → (zJ (zJ (zJ (zJ (zJ (zJ (zJ (zJ (uJ J 97 3 1) 98) 99) 100) 101) 102) 103) 104) 105) 5 k = rsv.getD k 0 := J5.z jf75 rfl
  have hK86 : RK ((97, 22, 104) :: ((97, 21, 103) :: ((97, 20, 102) :: ((97, 7, 101) :: ((97, 6, 100) :: ((97, 5, 99) :: ((97, 4, 98) :: ([])))))))) (zR (uR (zR (uR (zR (uR (zR (uR (zR (uR (zR (uR (zR (uR (zR R 98) 97 4 98) 99) 97 5 99) 100) 97 6 100) 101) 97 7 101) 102) 97 20 102) 103) 97 21 103) 104) 97 22 104) 105) := hK78.z rfl
  have hF87 : FR 97 R (zR (uR (zR (uR (zR (uR (zR (uR (zR (uR (zR (uR (zR (uR (zR R 98) 97 4 98) 99) 97 5 99) 100) 97 6 100) 101) 97 7 101) 102) 97 20 102) 103) 97 21 103) 104) 97 22 104) 105) := hF79.z rfl
  have hK88 : RK ((97, 28, 105) :: ((97, 22, 104) :: ((97, 21, 103) :: ((97, 20, 102) :: ((97, 7, 101) :: ((97, 6, 100) :: ((97, 5, 99) :: ((97, 4, 98) :: ([]))))))))) (uR (zR (uR (zR (uR (zR (uR (zR (uR (zR (uR (zR (uR (zR (uR (zR R 98) 97 4 98) 99) 97 5 99) 100) 97 6 100) 101) 97 7 101) 102) 97 20 102) 103) 97 21 103) 104) 97 22 104) 105) 97 28 105) := hK86.u rfl
  have hF89 : FR 97 R (uR (zR (uR (zR (uR (zR (uR (zR (uR (zR (uR (zR (uR (zR (uR (zR R 98) 97 4 98) 99) 97 5 99) 100) 97 6 100) 101) 97 7 101) 102) 97 20 102) 103) 97 21 103) 104) 97 22 104) 105) 97 28 105) := hF87.u rfl
  refine ⟨rfl, ?_⟩
  have hB90 : BZ (zI (zI (zI (zI (zI (uI (uI (zI (zI (zI (zI I 98) 99) 100) 101) 97 10 (-1)) 97 11 (-1)) 102) 103) 104) 105) 106) := hB80.z
  have hZ91 : KI ((97, 11, -1) :: ((97, 10, -1) :: (zk_X11_init_1))) (zI (zI (zI (zI (zI (uI (uI (zI (zI (zI (zI I 98) 99) 100) 101) 97 10 (-1)) 97 11 (-1)) 102) 103) 104) 105) 106) := hZ81.z rfl
  have hI92 : FI 97 I (zI (zI (zI (zI (zI (uI (uI (zI (zI (zI (zI I 98) 99) 100) 101) 97 10 (-1)) 97 11 (-1)) 102) 103) 104) 105) 106) := hI82.z rfl
  have hJ93 : FJ 97 J (zJ (zJ (zJ (zJ (zJ (zJ (zJ (zJ (zJ (uJ J 97 3 1) 98) 99) 100) 101) 102) 103) 104) 105) 106) := hJ83.z rfl
  have jz94 : (zJ (zJ (zJ (zJ (zJ (zJ (zJ (zJ (zJ (uJ J 97 3 1) 98) 99) 100) 101) 102) 103) 104) 105) 106) 47 0 = 0 := JZ.z jz84 rfl
  have jf95 : ∀ k, k < 22 → (zJ (zJ (zJ (zJ (zJ (zJ (zJ (zJ (zJ (uJ J 97 3 1) 98) 99) 100) 101) 102) 103) 104) 105) 106) 5 k = rsv.getD k 0 := J5.z jf85 rfl
  have hK96 : RK ((97, 28, 105) :: ((97, 22, 104) :: ((97, 21, 103) :: ((97, 20, 102) :: ((97, 7, 101) :: ((97, 6, 100) :: ((97, 5, 99) :: ((97, 4, 98) :: ([]))))))))) (zR (uR (zR (uR (zR (uR (zR (uR (zR (uR (zR (uR (zR (uR (zR (uR (zR R 98) 97 4 98) 99) 97 5 99) 100) 97 6 100) 101) 97 7 101) 102) 97 20 102) 103) 97 21 103) 104) 97 22 104) 105) 97 28 105) 106) := hK88.z rfl
  have hF97 : FR 97 R (zR (uR (zR (uR (zR (uR (zR (uR (zR (uR (zR (uR (zR (uR (zR (uR (zR R 98) 97 4 98) 99) 97 5 99) 100) 97 6 100) 101) 97 7 101) 102) 97 20 102) 103) 97 21 103) 104) 97 22 104) 105) 97 28 105) 106) := hF89.z rfl
  have hK98 : RK ((97, 29, 106) :: ((97, 28, 105) :: ((97, 22, 104) :: ((97, 21, 103) :: ((97, 20, 102) :: ((97, 7, 101) :: ((97, 6, 100) :: ((97, 5, 99) :: ((97, 4, 98) :: ([])))))))))) (uR (zR (uR (zR (uR (zR (uR (zR (uR (zR (uR (zR (uR (zR (uR (zR (uR (zR R 98) 97 4 98) 99) 97 5 99) 100) 97 6 100) 101) 97 7 101) 102) 97 20 102) 103) 97 21 103) 104) 97 22 104) 105) 97 28 105) 106) 97 29 106) := hK96.u rfl
  have hF99 : FR 97 R (uR (zR (uR (zR (uR (zR (uR (zR (uR (zR (uR (zR (uR (zR (uR (zR (uR (zR R 98) 97 4 98) 99) 97 5 99) 100) 97 6 100) 101) 97 7 101) 102) 97 20 102) 103) 97 21 103) 104) 97 22 104) 105) 97 28 105) 106) 97 29 106) := hF97.u rfl
  refine ⟨rfl, ?_⟩
  have hB100 : BZ (zI (zI (zI (zI (zI (zI (uI (uI (zI (zI (zI (zI I 98) 99) 100) 101) 97 10 (-1)) 97 11 (-1)) 102) 103) 104) 105) 106) 107) := hB90.z
  have hZ101 : KI ((97, 11, -1) :: ((97, 10, -1) :: (zk_X11_init_1))) (zI (zI (zI (zI (zI (zI (uI (uI (zI (zI (zI (zI I 98) 99) 100) 101) 97 10 (-1)) 97 11 (-1)) 102) 103) 104) 105) 106) 107) := hZ91.z rfl
  have hI102 : FI 97 I (zI (zI (zI (zI (zI (zI (uI (uI (zI (zI (zI (zI I 98) 99) 100) 101) 97 10 (-1)) 97 11 (-1)) 102) 103) 104) 105) 106) 107) := hI92.z rfl
  have hJ103 : FJ 97 J (zJ (zJ (zJ (zJ (zJ (zJ (zJ (zJ (zJ (zJ (uJ J 97 3 1) 98) 99) 100) 101) 102) 103) 104) 105) 106) 107) := hJ93.z rfl
  have jz104 : (zJ (zJ (zJ (zJ (zJ (zJ (zJ (zJ (zJ (zJ (uJ J 97 3 1) 98) 99) 100) 101) 102) 103) 104) 105) 106) 107) 47 0 = 0 := JZ.z jz94 rfl
  have jf105 : ∀ k, k < 22 → (zJ (zJ (zJ (zJ (zJ (zJ (zJ (zJ (zJ (zJ (uJ J 97 3 1) 98) 99) 100) 101) 102) 103) 104) 105) 106) 107) 5 k = rsv.getD k 0 := J5.z jf95 rfl
  have hK106 : RK ((97, 29, 106) :: ((97, 28, 105) :: ((97, 22, 104) :: ((97, 21, 103) :: ((97, 20, 102) :: ((97, 7, 101) :: ((97, 6, 100) :: ((97, 5, 99) :: ((97, 4, 98) :: ([])))))))))) (zR (uR (zR (uR (zR (uR (zR (uR (zR (uR (zR (uR (zR (uR (zR (uR (zR (uR (zR R 98) 97 4 98) 99) 97 5 99) 100) 97 6 100) 101) 97 7 101) 102) 97 20 102) 103) 97 21 103) 104) 97 22 104) 105) 97 28 105) 106) 97 29 106) 107) := hK98.z rfl
  have hF107 : FR 97 R (zR (uR (zR (uR (zR (uR (zR (uR (zR (uR (zR (uR (zR (uR (zR (uR (zR (uR (zR R 98) 97 4 98) 99) 97 5 99) 100) 97 6 100) 101) 97 7 101) 102) 97 20 102) 103) 97 21 103) 104) 97 22 104) 105) 97 28 105) 106) 97 29 106) 107) := hF99.z rfl
  have hK108 : RK ((97, 30, 107) :: ((97, 29, 106) :: ((97, 28, 105) :: ((97, 22, 104) :: ((97, 21, 103) :: ((97, 20, 102) :: ((97, 7, 101) :: ((97, 6, 100) :: ((97, 5, 99) :: ((97, 4, 98) :: ([]))))))))))) (uR (zR (uR (zR (uR (zR (uR (zR (uR (zR (uR (zR (uR (zR (uR (zR (uR (zR (uR (zR R 98) 97 4 98) 99) 97 5 99) 100) 97 6 100) 101) 97 7 101) 102) 97 20 102) 103) 97 21 103) 104) 97 22 104) 105) 97 28 105) 106) 97 29 106) 107) 97 30 107) := hK106.u rfl
  have hF109 : FR 97 R (uR (zR (uR (zR (uR (zR (uR (zR (uR (zR (uR (zR (uR (zR (uR (zR (uR (zR (uR (zR R 98) 97 4 98) 99) 97 5 99) 100) 97 6 100) 101) 97 7 101) 102) 97 20 102) 103) 97 21 103) 104) 97 22 104) 105) 97 28 105) 106) 97 29 106) 107) 97 30 107) := hF107.u rfl
  refine ⟨rfl, ?_⟩
  have hB110 : BZ (zI (zI (zI (zI (zI (zI (zI (uI (uI (zI (zI (zI (zI I 98) 99) 100) 101) 97 10 (-1)) 97 11 (-1)) 102) 103) 104) 105) 106) 107) 108) := hB100.z
  have hZ111 : KI ((97, 11, -1) :: ((97, 10, -1) :: (zk_X11_init_1))) (zI (zI (zI (zI (zI (zI (zI (uI (uI (zI (zI (zI (zI I 98) 99) 100) 101) 97 10 (-1)) 97 11 (-1)) 102) 103) 104) 105) 106) 107) 108) := hZ101.z rfl
  have hI112 : FI 97 I (zI (zI (zI (zI (zI (zI (zI (uI (uI (zI (zI (zI (zI I 98) 99) 100) 101) 97 10 (-1)) 97 11 (-1)) 102) 103) 104) 105) 106) 107) 108) := hI102.z rfl
  have hJ113 : FJ 97 J (zJ (zJ (zJ (zJ (zJ (zJ (zJ (zJ (zJ (zJ (zJ (uJ J 97 3 1) 98) 99) 100) 101) 102) 103) 104) 105) 106) 107) 108) := hJ103.z rfl
  have jz114 : (zJ (zJ (zJ (zJ (zJ (zJ (zJ (zJ (zJ (zJ (zJ (uJ J 97 3 1) 98) 99) 100) 101) 102) 103) 104) 105) 106) 107) 108) 47 0 = 0 := JZ.z jz104 rfl
  have jf115 : ∀ k, k < 22 → (zJ (zJ (zJ (zJ (zJ (zJ (zJ (zJ (zJ (zJ (zJ (uJ J 97 3 1) 98) 99) 100) 101) 102) 103) 104) 105) 106) 107) 108) 5 k = rsv.getD k 0 := J5.z jf105 rfl
  have hK116 : RK ((97, 30, 107) :: ((97, 29, 106) :: ((97, 28, 105) :: ((97, 22, 104) :: ((97, 21, 103) :: ((97, 20, 102) :: ((97, 7, 101) :: ((97, 6, 100) :: ((97, 5, 99) :: ((97, 4, 98) :: ([]))))))))))) (zR (uR (zR (uR (zR (uR (zR (uR (zR (uR (zR (uR (zR (uR (zR (uR (zR (uR (zR (uR (zR R 98) 97 4 98) 99) 97 5 99) 100) 97 6 100) 101) 97 7 101) 102) 97 20 102) 103) 97 21 103) 104) 97 22 104) 105) 97 28 105) 106) 97 29 106) 107) 97 30 107) 108) := hK108.z rfl
  have hF117 : FR 97 R (zR (uR (zR (uR (zR (uR (zR (uR (zR (uR (zR (uR (zR (uR (zR (uR (zR (uR (zR (uR (zR R 98) 97 4 98) 99) 97 5 99) 100) 97 6 100) 101) 97 7 101) 102) 97 20 102) 103) 97 21 103) 104) 97 22 104) 105) 97 28 105) 106) 97 29 106) 107) 97 30 107) 108) := hF109.z rfl
  have hK118 : RK ((97, 35, 108) :: ((97, 30, 107) :: ((97, 29, 106) :: ((97, 28, 105) :: ((97, 22, 104) :: ((97, 21, 103) :: ((97, 20, 102) :: ((97, 7, 101) :: ((97, 6, 100) :: ((97, 5, 99) :: ((97, 4, 98) :: ([])))))))))))) (uR (zR (uR (zR (uR (zR (uR (zR (uR (zR (uR (zR (uR (zR (uR (zR (uR (zR (uR (zR (uR (zR R 98) 97 4 98) 99) 97 5 99) 100) 97 6 100) 101) 97 7 101) 102) 97 20 102) 103) 97 21 103) 104) 97 22 104) 105) 97 28 105) 106) 97 29 106) 107) 97 30 107) 108) 97 35 108) := hK116.u rfl
  have hF119 : FR 97 R (uR (zR (uR (zR (uR (zR (uR (zR (uR (zR (uR (zR (uR (zR (uR (zR (uR (zR (uR (zR (uR (zR R 98) 97 4 98) 99) 97 5 99) 100) 97 6 100) 101) 97 7 101) 102) 97 20 102) 103) 97 21 103) 104) 97 22 104) 105) 97 28 105) 106) 97 29 106) 107) 97 30 107) 108) 97 35 108) := hF117.u rfl
  refine ⟨rfl, ?_⟩
  have hB120 : BZ (zI (zI (zI (zI (zI (zI (zI (zI (uI (uI (zI (zI (zI (zI I 98) 99) 100) 101) 97 10 (-1)) 97 11 (-1)) 102) 103) 104) 105) 106) 107) 108) 109) := hB110.z
  have hZ121 : KI ((97, 11, -1) :: ((97, 10, -1) :: (zk_X11_init_1))) (zI (zI (zI (zI (zI (zI (zI (zI (uI (uI (zI (zI (zI (zI I 98) 99) 100) 101) 97 10 (-1)) 97 11 (-1)) 102) 103) 104) 105) 106) 107) 108) 109) := hZ111.z rfl
  have hI122 : FI 97 I (zI (zI (zI (zI (zI (zI (zI (zI (uI (uI (zI (zI (zI (zI I 98) 99) 100) 101) 97 10 (-1)) 97 11 (-1)) 102) 103) 104) 105) 106) 107) 108) 109) := hI112.z rfl
  have hJ123 : FJ 97 J (zJ (zJ (zJ (zJ (zJ (zJ (zJ (zJ (zJ (zJ (zJ (zJ (uJ J 97 3 1) 98) 99) 100) 101) 102) 103) 104) 105) 106) 107) 108) 109) := hJ113.z rfl
  have jz124 : (zJ (zJ (zJ (zJ (zJ (zJ (zJ (zJ (zJ (zJ (zJ (zJ (uJ J 97 3 1) 98) 99) 100) 101) 102) 103) 104) 105) 106) 107) 108) 109) 47 0 = 0 := JZ.z jz114 rfl
  have jf125 : ∀ k, k < 22 → (zJ (zJ (zJ (zJ (zJ (zJ (zJ (zJ (zJ (zJ (zJ (zJ (uJ J 97 3 1) 98) 99) 100) 101) 102) 103) 104) 105) 106) 107) 108) 109) 5 k = rsv.getD k 0 := J5.z jf115 rfl
  have hK126 : RK ((97, 35, 108) :: ((97, 30, 107) :: ((97, 29, 106) :: ((97, 28, 105) :: ((97, 22, 104) :: ((97, 21, 103) :: ((97, 20, 102) :: ((97, 7, 101) :: ((97, 6, 100) :: ((97, 5, 99) :: ((97, 4, 98) :: ([])))))))))))) (zR (uR (zR (uR (zR (uR (zR (uR (zR (uR (zR (uR (zR (uR (zR (uR (zR (uR (zR (uR (zR (uR (zR R 98) 97 4 98) 99) 97 5 99) 100) 97 6 100) 101) 97 7 101) 102) 97 20 102) 103) 97 21 103) 104) 97 22 104) 105) 97 28 105) 106) 97 29 106) 107) 97 30 107) 108) 97 35 108) 109) := hK118.z rfl
  have hF127 : FR 97 R (zR (uR (zR (uR (zR (uR (zR (uR (zR (uR (zR (uR (zR (uR (zR (uR (zR (uR (zR (uR (zR (uR (zR R 98) 97 4 98) 99) 97 5 99) 100) 97 6 100) 101) 97 7 101) 102) 97 20 102) 103) 97 21 103) 104) 97 22 104) 105) 97 28 105) 106) 97 29 106) 107) 97 30 107) 108) 97 35 108) 109) := hF119.z rfl
  have hK128 : RK ((97, 36, 109) :: ((97, 35, 108) :: ((97, 30, 107) :: ((97, 29, 106) :: ((97, 28, 105) :: ((97, 22, 104) :: ((97, 21, 103) :: ((97, 20, 102) :: ((97, 7, 101) :: ((97, 6, 100) :: ((97, 5, 99) :: ((97, 4, 98) :: ([]))))))))))))) (uR (zR (uR (zR (uR (zR (uR (zR (uR (zR (uR (zR (uR (zR (uR (zR (uR (zR (uR (zR (uR (zR (uR (zR R 98) 97 4 98) 99) 97 5 99) 100) 97 6 100) 101) 97 7 101) 102) 97 20 102) 103) 97 21 103) 104) 97 22 104) 105) 97 28 105) 106) 97 29 106) 107) 97 30 107) 108) 97 35 108) 109) 97 36 109) := hK126.u rfl
  have hF129 : FR 97 R (uR (zR (uR (zR (uR (zR (uR (zR (uR (zR (uR (zR (uR (zR (uR (zR (uR (zR (uR (zR (uR (zR (uR (zR R 98) 97 4 98) 99) 97 5 99) 100) 97 6 100) 101) 97 7 101) 102) 97 20 102) 103) 97 21 103) 104) 97 22 104) 105) 97 28 105) 106) 97 29 106) 107) 97 30 107) 108) 97 35 108) 109) 97 36 109) := hF127.u rfl
  refine ⟨rfl, ?_⟩
  have hB130 : BZ (zI (zI (zI (zI (zI (zI (zI (zI (zI (uI (uI (zI (zI (zI (zI I 98) 99) 100) 101) 97 10 (-1)) 97 11 (-1)) 102) 103) 104) 105) 106) 107) 108) 109) 110) := hB120.z
  have hZ131 : KI ((97, 11, -1) :: ((97, 10, -1) :: (zk_X11_init_1))) (zI (zI (zI (zI (zI (zI (zI (zI (zI (uI (uI (zI (zI (zI (zI I 98) 99) 100) 101) 97 10 (-1)) 97 11 (-1)) 102) 103) 104) 105) 106) 107) 108) 109) 110) := hZ121.z rfl
  have hI132 : FI 97 I (zI (zI (zI (zI (zI (zI (zI (zI (zI (uI (uI (zI (zI (zI (zI I 98) 99) 100) 101) 97 10 (-1)) 97 11 (-1)) 102) 103) 104) 105) 106) 107) 108) 109) 110) := hI122.z rfl
  have hJ133 : FJ 97 J (zJ (zJ (zJ (zJ (zJ (zJ (zJ (zJ (zJ (zJ (zJ (zJ (zJ (uJ J 97 3 1) 98) 99) 100) 101) 102) 103) 104) 105) 106) 107) 108) 109) 110) := hJ123.z rfl
  have jz134 : (zJ (zJ (zJ (zJ (zJ (zJ (zJ (zJ (zJ (zJ (zJ (zJ (zJ (uJ J 97 3 1) 98) 99) 100) 101) 102) 103) 104) 105) 106) 107) 108) 109) 110) 47 0 = 0 := JZ.z jz124 rfl
  have jf135 : ∀ k, k < 22 → (zJ (zJ (zJ (zJ (zJ (zJ (zJ (zJ (zJ (zJ (zJ (zJ (zJ (uJ J 97 3 1) 98) 99) 100) 101) 102) 103) 104) 105) 106) 107) 108) 109) 110) 5 k = rsv.getD k 0 := J5.z jf125 rfl
  have hK136 : RK ((97, 36, 109) :: ((97, 35, 108) :: ((97, 30, 107) :: ((97, 29, 106) :: ((97, 28, 105) :: ((97, 22, 104) :: ((97, 21, 103) :: ((97, 20, 102) :: ((97, 7, 101) :: ((97, 6, 100) :: ((97, 5, 99) :: ((97, 4, 98) :: ([]))))))))))))) (zR (uR (zR (uR (zR (uR (zR (uR (zR (uR (zR (uR (zR (uR (zR (uR (zR (uR (zR (uR (zR (uR (zR (uR (zR R 98) 97 4 98) 99) 97 5 99) 100) 97 6 100) 101) 97 7 101) 102) 97 20 102) 103) 97 21 103) 104) 97 22 104) 105) 97 28 105) 106) 97 29 106) 107) 97 30 107) 108) 97 35 108) 109) 97 36 109) 110) := hK128.z rfl
  have hF137 : FR 97 R (zR (uR (zR (uR (zR (uR (zR (uR (zR (uR (zR (uR (zR (uR (zR (uR (zR (uR (zR (uR (zR (uR (zR (uR (zR R 98) 97 4 98) 99) 97 5 99) 100) 97 6 100) 101) 97 7 101) 102) 97 20 102) 103) 97 21 103) 104) 97 22 104) 105) 97 28 105) 106) 97 29 106) 107) 97 30 107) 108) 97 35 108) 109) 97 36 109) 110) := hF129.z rfl
  have hK138 : RK ((97, 37, 110) :: ((97, 36, 109) :: ((97, 35, 108) :: ((97, 30, 107) :: ((97, 29, 106) :: ((97, 28, 105) :: ((97, 22, 104) :: ((97, 21, 103) :: ((97, 20, 102) :: ((97, 7, 101) :: ((97, 6, 100) :: ((97, 5, 99) :: ((97, 4, 98) :: ([])))))))))))))) (uR (zR (uR (zR (uR (zR (uR (zR (uR (zR (uR (zR (uR (zR (uR (zR (uR (zR (uR (zR (uR (zR (uR (zR (uR (zR R 98) 97 4 98) 99) 97 5 99) 100) 97 6 100) 101) 97 7 101) 102) 97 20 102) 103) 97 21 103) 104) 97 22 104) 105) 97 28 105) 106) 97 29 106) 107) 97 30 107) 108) 97 35 108) 109) 97 36 109) 110) 97 37 110) := hK136.u rfl
  have hF139 : FR 97 R (uR (zR (uR (zR (uR (zR (uR (zR (uR (zR (uR (zR (uR (zR (uR (zR (uR (zR (uR (zR (uR (zR (uR (zR (uR (zR R 98) 97 4 98) 99) 97 5 99) 100) 97 6 100) 101) 97 7 101) 102) 97 20 102) 103) 97 21 103) 104) 97 22 104) 105) 97 28 105) 106) 97 29 106) 107) 97 30 107) 108) 97 35 108) 109) 97 36 109) 110) 97 37 110) := hF137.u rfl
  refine ⟨rfl, ?_⟩
  have hB140 : BZ (zI (zI (zI (zI (zI (zI (zI (zI (zI (zI (uI (uI (zI (zI (zI (zI I 98) 99) 100) 101) 97 10 (-1)) 97 11 (-1)) 102) 103) 104) 105) 106) 107) 108) 109) 110) 111) := hB130.z
  have hZ141 : KI ((97, 11, -1) :: ((97, 10, -1) :: (zk_X11_init_1))) (zI (zI (zI (zI (zI (zI (zI (zI (zI (zI (uI (uI (zI (zI (zI (zI I 98) 99) 100) 101) 97 10 (-1)) 97 11 (-1)) 102) 103) 104) 105) 106) 107) 108) 109) 110) 111) := hZ131.z rfl
  have hI142 : FI 97 I (zI (zI (zI (zI (zI (zI (zI (zI (zI (zI (uI (uI (zI (zI (zI (zI I 98) 99) 100) 101) 97 10 (-1)) 97 11 (-1)) 102) 103) 104) 105) 106) 107) 108) 109) 110) 111) := hI132.z rfl
  have hJ143 : FJ 97 J (zJ (zJ (zJ (zJ (zJ (zJ (zJ (zJ (zJ (zJ (zJ (zJ (zJ (zJ (uJ J 97 3 1) 98) 99) 100) 101) 102) 103) 104) 105) 106) 107) 108) 109) 110) 111) := hJ133.z rfl
  have jz144 : (zJ (zJ (zJ (zJ (zJ (zJ (zJ (zJ (zJ (zJ (zJ (zJ (zJ (zJ (uJ J 97 3 1) 98) 99) 100) 101) 102) 103) 104) 105) 106) 107) 108) 109) 110) 111) 47 0 = 0 := JZ.z jz134 rfl
  have jf145 : ∀ k, k < 22 → (zJ (zJ (zJ (zJ (zJ (zJ (zJ (zJ (zJ (zJ (zJ (zJ (zJ (zJ (uJ J 97 3 1) 98) 99) 100) 101) 102) 103) 104) 105) 106) 107) 108) 109) 110) 111) 5 k = rsv.getD k 0 := J5.z jf135 rfl
  have hK146 : RK ((97, 37, 110) :: ((97, 36, 109) :: ((97, 35, 108) :: ((97, 30, 107) :: ((97, 29, 106) :: ((97, 28, 105) :: ((97, 22, 104) :: ((97, 21, 103) :: ((97, 20, 102) :: ((97, 7, 101) :: ((97, 6, 100) :: ((97, 5, 99) :: ((97, 4, 98) :: ([])))))))))))))) (zR (uR (zR (uR (zR (uR (zR (uR (zR (uR (zR (uR (zR (uR (zR (uR (zR (uR (zR (uR (zR (uR (zR (uR (zR (uR (zR R 98) 97 4 98) 99) 97 5 99) 100) 97 6 100) 101) 97 7 101) 102) 97 20 102) 103) 97 21 103) 104) 97 22 104) 105) 97 28 105) 106) 97 29 106) 107) 97 30 107) 108) 97 35 108) 109) 97 36 109) 110) 97 37 110) 111) := hK138.z rfl
  have hF147 : FR 97 R (zR (uR (zR (uR (zR (uR (zR (uR (zR (uR (zR (uR (zR (uR (zR (uR (zR (uR (zR (uR (zR (uR (zR (uR (zR (uR (zR R 98) 97 4 98) 99) 97 5 99) 100) 97 6 100) 101) 97 7 101) 102) 97 20 102) 103) 97 21 103) 104) 97 22 104) 105) 97 28 105) 106) 97 29 106) 107) 97 30 107) 108) 97 35 108) 109) 97 36 109) 110) 97 37 110) 111) := hF139.z rfl
  have hK148 : RK ((97, 38, 111) :: ((97, 37, 110) :: ((97, 36, 109) :: ((97, 35, 108) :: ((97, 30, 107) :: ((97, 29, 106) :: ((97, 28, 105) :: ((97, 22, 104) :: ((97, 21, 103) :: ((97, 20, 102) :: ((97, 7, 101) :: ((97, 6, 100) :: ((97, 5, 99) :: ((97, 4, 98) :: ([]))))))))))))))) (uR (zR (uR (zR (uR (zR (uR (zR (uR (zR (uR (zR (uR (zR (uR (zR (uR (zR (uR (zR (uR (zR (uR (zR (uR (zR (uR (zR R 98) 97 4 98) 99) 97 5 99) 100) 97 6 100) 101) 97 7 101) 102) 97 20 102) 103) 97 21 103) 104) 97 22 104) 105) 97 28 105) 106) 97 29 106) 107) 97 30 107) 108) 97 35 108) 109) 97 36 109) 110) 97 37 110) 111) 97 38 111) := hK146.u rfl
  have hF149 : FR 97 R (uR (zR (uR (zR (uR (zR (uR (zR (uR (zR (uR (zR (uR (zR (uR (zR (uR (zR (uR (zR (uR (zR (uR (zR (uR (zR (uR (zR R 98) 97 4 98) 99) 97 5 99) 100) 97 6 100) 101) 97 7 101) 102) 97 20 102) 103) 97 21 103) 104) 97 22 104) 105) 97 28 105) 106) 97 29 106) 107) 97 30 107) 108) 97 35 108) 109) 97 36 109) 110) 97 37 110) 111) 97 38 111) := hF147.u rfl
  refine ⟨rfl, ?_⟩
  have hB150 : BZ (zI (zI (zI (zI (zI (zI (zI (zI (zI (zI (zI (uI (uI (zI (zI (zI (zI I 98) 99) 100) 101) 97 10 (-1)) 97 11 (-1)) 102) 103) 104) 105) 106) 107) 108) 109) 110) 111) 112) := hB140.z
  have hZ151 : KI ((97, 11, -1) :: ((97, 10, -1) :: (zk_X11_init_1))) (zI (zI (zI (zI (zI (zI (zI (zI (zI (zI (zI (uI (uI (zI (zI (zI (zI I 98) 99) 100) 101) 97 10 (-1)) 97 11 (-1)) 102) 103) 104) 105) 106) 107) 108) 109) 110) 111) 112) := hZ141.z rfl
  have hI152 : FI 97 I (zI (zI (zI (zI (zI (zI (zI (zI (zI (zI (zI (uI (uI (zI (zI (zI (zI I 98) 99) 100) 101) 97 10 (-1)) 97 11 (-1)) 102) 103) 104) 105) 106) 107) 108) 109) 110) 111) 112) := hI142.z rfl
  have hJ153 : FJ 97 J (zJ (zJ (zJ (zJ (zJ (zJ (zJ (zJ (zJ (zJ (zJ (zJ (zJ (zJ (zJ (uJ J 97 3 1) 98) 99) 100) 101) 102) 103) 104) 105) 106) 107) 108) 109) 110) 111) 112) := hJ143.z rfl
  have jz154 : (zJ (zJ (zJ (zJ (zJ (zJ (zJ (zJ (zJ (zJ (zJ (zJ (zJ (zJ (zJ (uJ J 97 3 1) 98) 99) 100) 101) 102) 103) 104) 105) 106) 107) 108) 109) 110) 111) 112) 47 0 = 0 := JZ.z jz144 rfl
  have jf155 : ∀ k, k < 22 → (zJ (zJ (zJ (zJ (zJ (zJ (zJ (zJ (zJ (zJ (zJ (zJ (zJ (zJ (zJ (uJ J 97 3 1) 98) 99) 100) 101) 102) 103) 104) 105) 106) 107) 108) 109) 110) 111) 112) 5 k = rsv.getD k 0 := J5.z jf145 rfl
  have hK156 : RK ((97, 38, 111) :: ((97, 37, 110) :: ((97, 36, 109) :: ((97, 35, 108) :: ((97, 30, 107) :: ((97, 29, 106) :: ((97, 28, 105) :: ((97, 22, 104) :: ((97, 21, 103) :: ((97, 20, 102) :: ((97, 7, 101) :: ((97, 6, 100) :: ((97, 5, 99) :: ((97, 4, 98) :: ([]))))))))))))))) (zR (uR (zR (uR (zR (uR (zR (uR (zR (uR (zR (uR (zR (uR (zR (uR (zR (uR (zR (uR (zR (uR (zR (uR (zR (uR (zR (uR (zR R 98) 97 4 98) 99) 97 5 99) 100) 97 6 100) 101) 97 7 101) 102) 97 20 102) 103) 97 21 103) 104) 97 22 104) 105) 97 28 105) 106) 97 29 106) 107) 97 30 107) 108) 97 35 108) 109) 97 36 109) 110) 97 37 110) 111) 97 38 111) 112) := hK148.z rfl
  have hF157 : FR 97 R (zR (uR (zR (uR (zR (uR (zR (uR (zR (uR (zR (uR (zR (uR (zR (uR (zR (uR (zR (uR (zR (uR (zR (uR (zR (uR (zR (uR (zR R 98) 97 4 98) 99) 97 5 99) 100) 97 6 100) 101) 97 7 101) 102) 97 20 102) 103) 97 21 103) 104) 97 22 104) 105) 97 28 105) 106) 97 29 106) 107) 97 30 107) 108) 97 35 108) 109) 97 36 109) 110) 97 37 110) 111) 97 38 111) 112) := hF149.z rfl
  have hK158 : RK ((97, 39, 112) :: ((97, 38, 111) :: ((97, 37, 110) :: ((97, 36, 109) :: ((97, 35, 108) :: ((97, 30, 107) :: ((97, 29, 106) :: ((97, 28, 105) :: ((97, 22, 104) :: ((97, 21, 103) :: ((97, 20, 102) :: ((97, 7, 101) :: ((97, 6, 100) :: ((97, 5, 99) :: ((97, 4, 98) :: ([])))))))))))))))) (uR (zR (uR (zR (uR (zR (uR (zR (uR (zR (uR (zR (uR (zR (uR (zR (uR (zR (uR (zR (uR (zR (uR (zR (uR (zR (uR (zR (uR (zR R 98) 97 4 98) 99) 97 5 99) 100) 97 6 100) 101) 97 7 101) 102) 97 20 102) 103) 97 21 103) 104) 97 22 104) 105) 97 28 105) 106) 97 29 106) 107) 97 30 107) 108) 97 35 108) 109) 97 36 109) 110) 97 37 110) 111) 97 38 111) 112) 97 39 112) := hK156.u rfl
  have hF159 : FR 97 R (uR (zR (uR (zR (uR (zR (uR (zR (uR (zR (uR (zR (uR (zR (uR (zR (uR (zR (uR (zR (uR (zR (uR (zR (uR (zR (uR (zR (uR (zR R 98) 97 4 98) 99) 97 5 99) 100) 97 6 100) 101) 97 7 101) 102) 97 20 102) 103) 97 21 103) 104) 97 22 104) 105) 97 28 105) 106) 97 29 106) 107) 97 30 107) 108) 97 35 108) 109) 97 36 109) 110) 97 37 110) 111) 97 38 111) 112) 97 39 112) := hF157.u rfl
  refine cs_X12_init_97_140_112 hc 0 _ _ _ ?_
  refine ⟨fun c => absurd c (by decide), fun _ => ?_⟩
  refine ⟨hK158.ne (show lkq ((97, 39, 112) :: ((97, 38, 111) :: ((97, 37, 110) :: ((97, 36, 109) :: ((97, 35, 108) :: ((97, 30, 107) :: ((97, 29, 106) :: ((97, 28, 105) :: ((97, 22, 104) :: ((97, 21, 103) :: ((97, 20, 102) :: ((97, 7, 101) :: ((97, 6, 100) :: ((97, 5, 99) :: ((97, 4, 98) :: ([])))))))))))))))) 97 5 = true from rfl), ?_⟩
  refine ⟨vp_of rfl (by decide) (by decide), ?_⟩
  have hB160 : BZ (uI (zI (zI (zI (zI (zI (zI (zI (zI (zI (zI (zI (uI (uI (zI (zI (zI (zI I 98) 99) 100) 101) 97 10 (-1)) 97 11 (-1)) 102) 103) 104) 105) 106) 107) 108) 109) 110) 111) 112) 99 (Int32.toNatClampNeg 0) (-1)) := hB150.kw rfl rfl rfl
  have hZ161 : KI ((99, 0, -1) :: ((97, 11, -1) :: ((97, 10, -1) :: (zk_X11_init_1)))) (uI (zI (zI (zI (zI (zI (zI (zI (zI (zI (zI (zI (uI (uI (zI (zI (zI (zI I 98) 99) 100) 101) 97 10 (-1)) 97 11 (-1)) 102) 103) 104) 105) 106) 107) 108) 109) 110) 111) 112) 99 (Int32.toNatClampNeg 0) (-1)) := hZ151.u rfl
  have hI162 : FI 97 I (uI (zI (zI (zI (zI (zI (zI (zI (zI (zI (zI (zI (uI (uI (zI (zI (zI (zI I 98) 99) 100) 101) 97 10 (-1)) 97 11 (-1)) 102) 103) 104) 105) 106) 107) 108) 109) 110) 111) 112) 99 (Int32.toNatClampNeg 0) (-1)) := hI152.w rfl
  refine cs_X12_init_97_140_112 hc (0 + 1) _ _ _ ?_
  refine ⟨fun c => absurd c (by decide), fun _ => ?_⟩
  refine ⟨hK158.ne (show lkq ((97, 39, 112) :: ((97, 38, 111) :: ((97, 37, 110) :: ((97, 36, 109) :: ((97, 35, 108) :: ((97, 30, 107) :: ((97, 29, 106) :: ((97, 28, 105) :: ((97, 22, 104) :: ((97, 21, 103) :: ((97, 20, 102) :: ((97, 7, 101) :: ((97, 6, 100) :: ((97, 5, 99) :: ((97, 4, 98) :: ([])))))))))))))))) 97 5 = true from rfl), ?_⟩
  refine ⟨vp_of rfl (by decide) (by decide), ?_⟩
  have hB163 : BZ (uI (uI (zI (zI (zI (zI (zI (zI (zI (zI (zI (zI (zI (uI (uI (zI (zI (zI (zI I 98) 99) 100) 101) 97 10 (-1)) 97 11 (-1)) 102) 103) 104) 105) 106) 107) 108) 109) 110) 111) 112) 99 (Int32.toNatClampNeg 0) (-1)) 99 (Int32.toNatClampNeg (0 + 1)) (-1)) := hB160.kw rfl rfl rfl
  have hZ164 : KI ((99, 1, -1) :: ((99, 0, -1) :: ((97, 11, -1) :: ((97, 10, -1) :: (zk_X11_init_1))))) (uI (uI (zI (zI (zI (zI (zI (zI (zI (zI (zI (zI (zI (uI (uI (zI (zI (zI (zI I 98) 99) 100) 101) 97 10 (-1)) 97 11 (-1)) 102) 103) 104) 105) 106) 107) 108) 109) 110) 111) 112) 99 (Int32.toNatClampNeg 0) (-1)) 99 (Int32.toNatClampNeg (0 + 1)) (-1)) := hZ161.u rfl
  have hI165 : FI 97 I (uI (uI (zI (zI (zI (zI (zI (zI (zI (zI (zI (zI (zI (uI (uI (zI (zI (zI (zI I 98) 99) 100) 101) 97 10 (-1)) 97 11 (-1)) 102) 103) 104) 105) 106) 107) 108) 109) 110) 111) 112) 99 (Int32.toNatClampNeg 0) (-1)) 99 (Int32.toNatClampNeg (0 + 1)) (-1)) := hI162.w rfl
  refine cs_X12_init_97_140_112 hc ((0 + 1) + 1) _ _ _ ?_
  refine ⟨fun c => absurd c (by decide), fun _ => ?_⟩
  refine ⟨hK158.ne (show lkq ((97, 39, 112) :: ((97, 38, 111) :: ((97, 37, 110) :: ((97, 36, 109) :: ((97, 35, 108) :: ((97, 30, 107) :: ((97, 29, 106) :: ((97, 28, 105) :: ((97, 22, 104) :: ((97, 21, 103) :: ((97, 20, 102) :: ((97, 7, 101) :: ((97, 6, 100) :: ((97, 5, 99) :: ((97, 4, 98) :: ([])))))))))))))))) 97 5 = true from rfl), ?_⟩
  refine ⟨vp_of rfl (by decide) (by decide), ?_⟩
  have hB166 : BZ (uI (uI (uI (zI (zI (zI (zI (zI (zI (zI (zI (zI (zI (zI (uI (uI (zI (zI (zI (zI I 98) 99) 100) 101) 97 10 (-1)) 97 11 (-1)) 102) 103) 104) 105) 106) 107) 108) 109) 110) 111) 112) 99 (Int32.toNatClampNeg 0) (-1)) 99 (Int32.toNatClampNeg (0 + 1)) (-1)) 99 (Int32.toNatClampNeg ((0 + 1) + 1)) (-1)) := hB163.kw rfl rfl rfl
  have hZ167 : KI ((99, 2, -1) :: ((99, 1, -1) :: ((99, 0, -1) :: ((97, 11, -1) :: ((97, 10, -1) :: (zk_X11_init_1)))))) (uI (uI (uI (zI (zI (zI (zI (zI (zI (zI (zI (zI (zI (zI (uI (uI (zI (zI (zI (zI I 98) 99) 100) 101) 97 10 (-1)) 97 11 (-1)) 102) 103) 104) 105) 106) 107) 108) 109) 110) 111) 112) 99 (Int32.toNatClampNeg 0) (-1)) 99 (Int32.toNatClampNeg (0 + 1)) (-1)) 99 (Int32.toNatClampNeg ((0 + 1) + 1)) (-1)) := hZ164.u rfl
  have hI168 : FI 97 I (uI (uI (uI (zI (zI (zI (zI (zI (zI (zI (zI (zI (zI (zI (uI (uI (zI (zI (zI (zI I 98) 99) 100) 101) 97 10 (-1)) 97 11 (-1)) 102) 103) 104) 105) 106) 107) 108) 109) 110) 111) 112) 99 (Int32.toNatClampNeg 0) (-1)) 99 (Int32.toNatClampNeg (0 + 1)) (-1)) 99 (Int32.toNatClampNeg ((0 + 1) + 1)) (-1)) := hI165.w rfl
  refine cs_X12_init_97_140_112 hc (((0 + 1) + 1) + 1) _ _ _ ?_
  refine ⟨fun c => absurd c (by decide), fun _ => ?_⟩
  refine ⟨hK158.ne (show lkq ((97, 39, 112) :: ((97, 38, 111) :: ((97, 37, 110) :: ((97, 36, 109) :: ((97, 35, 108) :: ((97, 30, 107) :: ((97, 29, 106) :: ((97, 28, 105) :: ((97, 22, 104) :: ((97, 21, 103) :: ((97, 20, 102) :: ((97, 7, 101) :: ((97, 6, 100) :: ((97, 5, 99) :: ((97, 4, 98) :: ([])))))))))))))))) 97 5 = true from rfl), ?_⟩
  refine ⟨vp_of rfl (by decide) (by decide), ?_⟩
  have hB169 : BZ (uI (uI (uI (uI (zI (zI (zI (zI (zI (zI (zI (zI (zI (zI (zI (uI (uI (zI (zI (zI (zI I 98) 99) 100) 101) 97 10 (-1)) 97 11 (-1)) 102) 103) 104) 105) 106) 107) 108) 109) 110) 111) 112) 99 (Int32.toNatClampNeg 0) (-1)) 99 (Int32.toNatClampNeg (0 + 1)) (-1)) 99 (Int32.toNatClampNeg ((0 + 1) + 1)) (-1)) 99 (Int32.toNatClampNeg (((0 + 1) + 1) + 1)) (-1)) := hB166.kw rfl rfl rfl
  have hZ170 : KI ((99, 3, -1) :: ((99, 2, -1) :: ((99, 1, -1) :: ((99, 0, -1) :: ((97, 11, -1) :: ((97, 10, -1) :: (zk_X11_init_1))))))) (uI (uI (uI (uI (zI (zI (zI (zI (zI (zI (zI (zI (zI (zI (zI (uI (uI (zI (zI (zI (zI I 98) 99) 100) 101) 97 10 (-1)) 97 11 (-1)) 102) 103) 104) 105) 106) 107) 108) 109) 110) 111) 112) 99 (Int32.toNatClampNeg 0) (-1)) 99 (Int32.toNatClampNeg (0 + 1)) (-1)) 99 (Int32.toNatClampNeg ((0 + 1) + 1)) (-1)) 99 (Int32.toNatClampNeg (((0 + 1) + 1) + 1)) (-1)) := hZ167.u rfl
  have hI171 : FI 97 I (uI (uI (uI (uI (zI (zI (zI (zI (zI (zI (zI (zI (zI (zI (zI (uI (uI (zI (zI (zI (zI I 98) 99) 100) 101) 97 10 (-1)) 97 11 (-1)) 102) 103) 104) 105) 106) 107) 108) 109) 110) 111) 112) 99 (Int32.toNatClampNeg 0) (-1)) 99 (Int32.toNatClampNeg (0 + 1)) (-1)) 99 (Int32.toNatClampNeg ((0 + 1) + 1)) (-1)) 99 (Int32.toNatClampNeg (((0 + 1) + 1) + 1)) (-1)) := hI168.w rfl
  refine cs_X12_init_97_140_112 hc ((((0 + 1) + 1) + 1) + 1) _ _ _ ?_
  refine ⟨fun _ => ?_, fun c => absurd (by decide) c⟩
  refine ⟨⟨fl_of (RK.app (show RK lk_X12_init_97 (uR (zR (uR (zR (uR (zR (uR (zR (uR (zR (uR (zR (uR (zR (uR (zR (uR (zR (uR (zR (uR (zR (uR (zR (uR (zR (uR (zR (uR (zR R 98) 97 4 98) 99) 97 5 99) 100) 97 6 100) 101) 97 7 101) 102) 97 20 102) 103) 97 21 103) 104) 97 22 104) 105) 97 28 105) 106) 97 29 106) 107) 97 30 107) 108) 97 35 108) 109) 97 36 109) 110) 97 37 110) 111) 97 38 111) 112) 97 39 112) from hK158) (RK.fr hL hF159 rfl)), rfl⟩, ?_⟩
  refine kx (px_empties (b := 0) (Q := fun _ _ I2 _ _ => (∀ c, ¬ c = 102 → I2 c = (uI (uI (uI (uI (zI (zI (zI (zI (zI (zI (zI (zI (zI (zI (zI (uI (uI (zI (zI (zI (zI I 98) 99) 100) 101) 97 10 (-1)) 97 11 (-1)) 102) 103) 104) 105) 106) 107) 108) 109) 110) 111) 112) 99 (Int32.toNatClampNeg 0) (-1)) 99 (Int32.toNatClampNeg (0 + 1)) (-1)) 99 (Int32.toNatClampNeg ((0 + 1) + 1)) (-1)) 99 (Int32.toNatClampNeg (((0 + 1) + 1) + 1)) (-1)) c) ∧ I2 102 0 = 0 ∧ I2 102 3 = 1073741823 ∧ ∀ k, k < 324 → I2 102 k = emC k) rfl (by decide) (fun I2 e1 _ e3 => ⟨e1, e3 0 (by decide), e3 3 (by decide), fun k hk => (congrArg (I2 102) (show k = 324 * 0 + k by omega)).trans (e3 k hk)⟩)) (kp7 rfl (ri_of (RK.app (show RK lk_X12_init_97 (uR (zR (uR (zR (uR (zR (uR (zR (uR (zR (uR (zR (uR (zR (uR (zR (uR (zR (uR (zR (uR (zR (uR (zR (uR (zR (uR (zR (uR (zR R 98) 97 4 98) 99) 97 5 99) 100) 97 6 100) 101) 97 7 101) 102) 97 20 102) 103) 97 21 103) 104) 97 22 104) 105) 97 28 105) 106) 97 29 106) 107) 97 30 107) 108) 97 35 108) 109) 97 36 109) 110) 97 37 110) 111) 97 38 111) 112) 97 39 112) from hK158) (RK.fr hL hF159 rfl))) rfl (kp6 rfl (ri_of (RK.app (show RK lk_X12_init_97 (uR (zR (uR (zR (uR (zR (uR (zR (uR (zR (uR (zR (uR (zR (uR (zR (uR (zR (uR (zR (uR (zR (uR (zR (uR (zR (uR (zR (uR (zR R 98) 97 4 98) 99) 97 5 99) 100) 97 6 100) 101) 97 7 101) 102) 97 20 102) 103) 97 21 103) 104) 97 22 104) 105) 97 28 105) 106) 97 29 106) 107) 97 30 107) 108) 97 35 108) 109) 97 36 109) 110) 97 37 110) 111) 97 38 111) 112) 97 39 112) from hK158) (RK.fr hL hF159 rfl))) rfl (kp0 rfl (kp1 rfl (kp2 rfl (kp3 rfl (kp4 rfl (kp5 rfl (ri_of (RK.app (show RK lk_X12_init_97 (uR (zR (uR (zR (uR (zR (uR (zR (uR (zR (uR (zR (uR (zR (uR (zR (uR (zR (uR (zR (uR (zR (uR (zR (uR (zR (uR (zR (uR (zR R 98) 97 4 98) 99) 97 5 99) 100) 97 6 100) 101) 97 7 101) 102) 97 20 102) 103) 97 21 103) 104) 97 22 104) 105) 97 28 105) 106) 97 29 106) 107) 97 30 107) 108) 97 35 108) 109) 97 36 109) 110) 97 37 110) 111) 97 38 111) 112) 97 39 112) from hK158) (RK.fr hL hF159 rfl))) rfl (emp_b (b := 0) hB169.1 rfl (by decide) (fun x y I2 J2 hB2 _ k9 k4 k3 k2 k1 k0 k6 k7 ke => ⟨rfl, fun z => absurd z (by decide), hQ _ _ _ hB2 hF159 hK158 ⟨?_, ?_, RT.kp (fun t ht => ?_) k4 k9, (congrFun k6 0).trans jz154⟩ ⟨fun i => by rw [k7.1, (hB169.2.2 i).1]; decide, fun i hi => absurd hi (by have e : I2 3 1 = 0 := k0.trans (hB169.at (by decide)); unfold fl; rw [e, show (0 : Int32).toInt.toNat = 0 from rfl]; omega), fun k hk => by rw [k7.2.2]; exact jf155 k hk⟩ ⟨(congrFun (ke.1 9 (by decide)) 4).trans (hB169.at (by decide)), (congrFun (ke.1 9 (by decide)) 2).trans (KI.at (o := 9) (k := 2) (v := 1073741823) hZ170 (by decide +kernel)), ke.2.1, ke.2.2.1, k3.trans (hB169.at (by decide)), (congrFun (ke.1 3 (by decide)) 3).trans (hB169.at (by decide)), (congrFun (ke.1 97 (by decide)) 10).trans (KI.at (o := 97) (k := 10) (v := -1) hZ170 (by decide +kernel)), (congrFun (ke.1 97 (by decide)) 11).trans (KI.at (o := 97) (k := 11) (v := -1) hZ170 (by decide +kernel))⟩ ⟨(congrFun (ke.1 9 (by decide)) 1).trans (KI.at (o := 9) (k := 1) (v := 4) hZ170 (by decide +kernel)), (congrFun (ke.1 9 (by decide)) 3).trans (hB169.at (by decide)), fun k => (congrFun (ke.1 10 (by decide)) k).trans (hB169.2.2 k).2, (congrFun (ke.1 21 (by decide)) 0).trans (hB169.at (by decide)), ke.2.2.2⟩⟩))))))))))
  · exact congrArg Int32.toInt ((k0.trans (hB169.at (by decide))).trans (k1.trans (hB169.at (by decide))).symm)
  · exact congrArg Int32.toInt ((k2.trans (hB169.at (by decide))).trans (k3.trans (hB169.at (by decide))).symm)
  · rcases (show t = 0 ∨ t = 1 ∨ t = 2 ∨ t = 3 by omega) with q | q | q | q <;> subst q
    · exact ⟨(hB169.at (o := 53) (by decide)).trans (hB169.at (o := 98) (by decide)).symm, (KI.at (o := 53) (k := 1) (v := -1) hZ170 (by decide +kernel)).trans (KI.at (o := 99) (k := 0) (v := -1) hZ170 (by decide +kernel)).symm⟩
    · exact ⟨(hB169.at (o := 55) (by decide)).trans (hB169.at (o := 98) (by decide)).symm, (KI.at (o := 55) (k := 1) (v := -1) hZ170 (by decide +kernel)).trans (KI.at (o := 99) (k := 1) (v := -1) hZ170 (by decide +kernel)).symm⟩
    · exact ⟨(hB169.at (o := 57) (by decide)).trans (hB169.at (o := 98) (by decide)).symm, (KI.at (o := 57) (k := 1) (v := -1) hZ170 (by decide +kernel)).trans (KI.at (o := 99) (k := 2) (v := -1) hZ170 (by decide +kernel)).symm⟩
    · exact ⟨(hB169.at (o := 59) (by decide)).trans (hB169.at (o := 98) (by decide)).symm, (KI.at (o := 59) (k := 1) (v := -1) hZ170 (by decide +kernel)).trans (KI.at (o := 99) (k := 3) (v := -1) hZ170 (by decide +kernel)).symm⟩
