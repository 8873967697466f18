section PT4x0
/-! printed by grp.py: places that all methods but few keep -/
noncomputable def pul : List Nat := [3, 5, 6, 7, 8, 9, 10, 11, 12, 13, 16, 44, 45, 57, 59, 80, 81, 87, 92, 93, 95, 97, 100, 101, 102, 110, 156, 157, 158, 159, 160, 161, 162, 163, 164, 165, 166, 167, 168, 169, 170, 171, 178, 180, 182, 183, 187, 188, 189, 190, 191, 192, 193, 194, 196, 197, 198, 199, 200, 201, 202, 203, 204, 205, 206, 207, 208, 209, 210, 211, 226, 238, 239, 240, 241, 242, 243, 244, 245, 246, 247, 255, 256, 283, 284, 288, 296, 300, 301, 309, 319]
set_option maxRecDepth 100000 in
theorem pul_kk : PuT pul := PuT.of (by decide +kernel)
theorem nb_refl (n : Nat) : Nat.beq n n = true := by
  induction n with
  | zero => rfl
  | succ n ih => exact ih
theorem stg_fld {c ci0 k0 : Nat} {v : Int32} (hc : (shl.getD (c - 1) (999, 0)).1 = ci0) (hci : ci0 < 100) : StG (fun _ => false) (fun ci k => !(Nat.beq ci ci0 && Nat.beq k k0)) (fun I _ _ => I c k0 = v) := by
  refine ⟨fun I J R o ci k x h1 h2 h3 hF => ?_, fun I J R o ci k x h1 h2 h3 hF => hF, fun I J R a t j x h1 h2 hF => ?_, fun I J R a t j x h1 h2 hF => hF, fun I J R a0 a1 t p q m h1 h2 hF => ?_, fun I J R a0 a1 t p q m h1 h2 hF => hF, fun I J R o ci k x h1 h2 hF => hF⟩
  · change I c k0 = v at hF
    change (!(Nat.beq ci ci0 && Nat.beq k k0)) = true at h3
    show uI I o k x c k0 = v
    by_cases ho : c = o
    · subst ho
      have hcc : ci = ci0 := h1.symm.trans hc
      subst hcc
      have hk : ¬ k0 = k := fun q => by
        subst q
        rw [nb_refl, nb_refl] at h3
        exact absurd h3 (by decide)
      simpa [uI, upd, hk] using hF
    · rw [uI_ne ho]; exact hF
  · have ho : ¬ c = a := fun q => by subst q; omega
    change I c k0 = v at hF
    show uI I a j x c k0 = v
    rw [uI_ne ho]; exact hF
  · have ho : ¬ c = a1 := fun q => by subst q; omega
    show (if c = a1 then va_cpy (I a0) (I a1) p q m else I c) k0 = v
    rw [if_neg ho]; exact hF
theorem gf_none {okg : Nat → Nat → Bool} : ∀ o ci k, 0 < o → (shl.getD (o - 1) (999, 0)).1 = ci → fkd ci k = 4 → okg ci k = true → (fun _ : Nat => false) (o + fof ci k) = false := fun _ _ _ _ _ _ _ => rfl
theorem kvS_none {as : List Value} : kvS (fun _ => false) as := fun _ _ _ _ => rfl
theorem HRf_none {R : Rm} : HRf (fun _ => false) R := ⟨fun _ _ _ _ _ _ => rfl, fun _ _ _ _ _ => rfl⟩
/-- all that may write at place 1 of cell 3: X11_bakery, X11_days, X11_feed, X6_append, X6_open -/
noncomputable def dty0 : List Nat := [0, 27, 32, 40, 53, 58, 60, 61, 74, 85, 88, 94, 99, 107, 108, 109, 172]
set_option maxRecDepth 100000 in
theorem cl0 : ClT pul dty0 (fun _ _ => true) (fun ci k => !(Nat.beq ci 6 && Nat.beq k 1)) := ClT.ef (by decide +kernel)
theorem kp0 {d mi n : Nat} {as : List Value} {I : Im} {J : Jm} {R : Rm} {Q : Qt} (hd : dty0.elem mi = false) (h : AM d mi n as I J R (fun x y I' J' R' => I' 3 1 = I 3 1 → Q x y I' J' R')) : AM d mi n as I J R Q :=
  AM_w (F := fun I' _ _ => I' 3 1 = I 3 1) pul_kk cl0 gf_none (stg_fld rfl (by decide)) hd kvS_none HRf_none rfl h
/-- all that may write at place 8 of cell 97: X12_bakery, X12_days, X12_feed, X12_lay, X12_starts -/
noncomputable def dty1 : List Nat := [0, 27, 32, 40, 53, 58, 74, 85, 88, 94, 99, 172, 220, 221, 222, 233, 237]
set_option maxRecDepth 100000 in
theorem cl1 : ClT pul dty1 (fun _ _ => true) (fun ci k => !(Nat.beq ci 12 && Nat.beq k 8)) := ClT.ef (by decide +kernel)
theorem kp1 {d mi n : Nat} {as : List Value} {I : Im} {J : Jm} {R : Rm} {Q : Qt} (hd : dty1.elem mi = false) (h : AM d mi n as I J R (fun x y I' J' R' => I' 97 8 = I 97 8 → Q x y I' J' R')) : AM d mi n as I J R Q :=
  AM_w (F := fun I' _ _ => I' 97 8 = I 97 8) pul_kk cl1 gf_none (stg_fld rfl (by decide)) hd kvS_none HRf_none rfl h
/-- all that may write at place 13 of cell 1: X11_back, X11_mark -/
noncomputable def dty2 : List Nat := [0, 27, 32, 40, 53, 58, 74, 85, 88, 94, 99, 147, 148, 172]
set_option maxRecDepth 100000 in
theorem cl2 : ClT pul dty2 (fun _ _ => true) (fun ci k => !(Nat.beq ci 11 && Nat.beq k 13)) := ClT.ef (by decide +kernel)
theorem kp2 {d mi n : Nat} {as : List Value} {I : Im} {J : Jm} {R : Rm} {Q : Qt} (hd : dty2.elem mi = false) (h : AM d mi n as I J R (fun x y I' J' R' => I' 1 13 = I 1 13 → Q x y I' J' R')) : AM d mi n as I J R Q :=
  AM_w (F := fun I' _ _ => I' 1 13 = I 1 13) pul_kk cl2 gf_none (stg_fld rfl (by decide)) hd kvS_none HRf_none rfl h
/-- all that may write at place 23 of cell 97: X12_back, X12_mark -/
noncomputable def dty3 : List Nat := [0, 27, 32, 40, 53, 58, 74, 85, 88, 94, 99, 172, 317, 318]
set_option maxRecDepth 100000 in
theorem cl3 : ClT pul dty3 (fun _ _ => true) (fun ci k => !(Nat.beq ci 12 && Nat.beq k 23)) := ClT.ef (by decide +kernel)
theorem kp3 {d mi n : Nat} {as : List Value} {I : Im} {J : Jm} {R : Rm} {Q : Qt} (hd : dty3.elem mi = false) (h : AM d mi n as I J R (fun x y I' J' R' => I' 97 23 = I 97 23 → Q x y I' J' R')) : AM d mi n as I J R Q :=
  AM_w (F := fun I' _ _ => I' 97 23 = I 97 23) pul_kk cl3 gf_none (stg_fld rfl (by decide)) hd kvS_none HRf_none rfl h
/-- the cells of the four trays -/
noncomputable def TC : List Nat := [53, 55, 57, 59]
noncomputable def KT (I I2 : Im) : Prop := ∀ c, c ∈ TC → I2 c = I c
noncomputable def K9 (I I2 : Im) : Prop := I2 98 = I 98 ∧ I2 99 = I 99
theorem K9.tr {a b c : Im} (h : K9 a b) (h2 : K9 b c) : K9 a c := ⟨h2.1.trans h.1, h2.2.trans h.2⟩
theorem K9.rf {a : Im} : K9 a a := ⟨rfl, rfl⟩
theorem KT.tr {a b c : Im} (h : KT a b) (h2 : KT b c) : KT a c := fun q hq => (h2 q hq).trans (h q hq)
theorem TC_sh : ∀ c, c ∈ TC → (shl.getD (c - 1) (999, 0)).1 = 10 := by decide
theorem stg_TC {I0 : Im} : StG (fun _ => false) (fun ci _ => !Nat.beq ci 10) (fun I _ _ => KT I0 I) := by
  refine ⟨fun I J R o ci k x h1 h2 h3 hF c hc => ?_, fun I J R o ci k x h1 h2 h3 hF => hF, fun I J R a t j x h1 h2 hF c hc => ?_, fun I J R a t j x h1 h2 hF => hF, fun I J R a0 a1 t p q m h1 h2 hF c hc => ?_, fun I J R a0 a1 t p q m h1 h2 hF => hF, fun I J R o ci k x h1 h2 hF => hF⟩
  · have ho : ¬ c = o := fun q => by
      subst q
      have e : ci = 10 := h1.symm.trans (TC_sh c hc)
      subst e
      exact absurd (show (!Nat.beq 10 10) = true from h3) (by decide)
    rw [uI_ne ho]; exact hF c hc
  · have h4 := TC_sh c hc
    have ho : ¬ c = a := fun q => by subst q; omega
    rw [uI_ne ho]; exact hF c hc
  · have h4 := TC_sh c hc
    have ho : ¬ c = a1 := fun q => by subst q; omega
    show (if c = a1 then va_cpy (I a0) (I a1) p q m else I c) = I0 c
    rw [if_neg ho]; exact hF c hc
/-- all that may write the trays' sorts and lengths: X10_lay, X11_tray -/
noncomputable def dty4 : List Nat := [0, 27, 32, 40, 53, 58, 74, 85, 88, 94, 96, 99, 103, 172]
set_option maxRecDepth 100000 in
theorem cl4 : ClT pul dty4 (fun _ _ => true) (fun ci _ => !Nat.beq ci 10) := ClT.ef (by decide +kernel)
theorem kp4 {d mi n : Nat} {as : List Value} {I : Im} {J : Jm} {R : Rm} {Q : Qt} (hd : dty4.elem mi = false) (h : AM d mi n as I J R (fun x y I' J' R' => KT I I' → Q x y I' J' R')) : AM d mi n as I J R Q :=
  AM_w (F := fun I' _ _ => KT I I') pul_kk cl4 gf_none stg_TC hd kvS_none HRf_none (fun _ _ => rfl) h
/-- the reference's sorts and lengths, to which few come -/
noncomputable def bad9 (a : Nat) : Bool := Nat.beq a 98 || Nat.beq a 99
noncomputable def okg9 (ci k : Nat) : Bool := !(Nat.beq ci 12 && (Nat.beq k 4 || Nat.beq k 5))
theorem bad9_f {a : Nat} (h : bad9 a = false) : ¬ a = 98 ∧ ¬ a = 99 := by
  constructor <;> intro q <;> subst q <;> exact absurd h (by decide)
theorem bad9_o {a ci : Nat} (h : (shl.getD (a - 1) (999, 0)).1 = ci) (hc : ¬ ci = 100) : bad9 a = false := by
  have h1 : ¬ a = 98 := fun q => by subst q; exact hc h.symm
  have h2 : ¬ a = 99 := fun q => by subst q; exact hc h.symm
  unfold bad9
  rw [Bool.or_eq_false_iff]
  exact ⟨by cases q : Nat.beq a 98 with
    | false => rfl
    | true => exact absurd (Nat.eq_of_beq_eq_true q) h1, by cases q : Nat.beq a 99 with
    | false => rfl
    | true => exact absurd (Nat.eq_of_beq_eq_true q) h2⟩
theorem stg_98 {I0 : Im} : StG bad9 (fun _ _ => true) (fun I _ _ => K9 I0 I) := by
  refine ⟨fun I J R o ci k x h1 h2 h3 hF => ?_, fun I J R o ci k x h1 h2 h3 hF => hF, fun I J R a t j x h1 h2 hF => ?_, fun I J R a t j x h1 h2 hF => hF, fun I J R a0 a1 t p q m h1 h2 hF => ?_, fun I J R a0 a1 t p q m h1 h2 hF => hF, fun I J R o ci k x h1 h2 hF => hF⟩
  · have hb := bad9_f (bad9_o h1 (by omega))
    exact ⟨(uI_ne (fun q => hb.1 q.symm)).trans hF.1, (uI_ne (fun q => hb.2 q.symm)).trans hF.2⟩
  · have hb := bad9_f h2
    exact ⟨(uI_ne (fun q => hb.1 q.symm)).trans hF.1, (uI_ne (fun q => hb.2 q.symm)).trans hF.2⟩
  · have hb := bad9_f h2
    exact ⟨(if_neg (fun q => hb.1 q.symm)).trans hF.1, (if_neg (fun q => hb.2 q.symm)).trans hF.2⟩
theorem shl_in {o ci : Nat} (h : (shl.getD (o - 1) (999, 0)).1 = ci) (hc : ¬ ci = 999) : o < 113 := by
  rcases Nat.lt_or_ge o 113 with q | q
  · exact q
  · have hl : shl.length = 112 := by decide +kernel
    rw [List.getD_eq_getElem?_getD, List.getElem?_eq_none (by omega)] at h
    exact absurd h.symm hc
theorem fkd_in {ci k v : Nat} (h : fkd ci k = v) (hv : ¬ v = 9) : ci < 13 ∧ k < 60 := by
  have hl : fkl.length = 13 := by decide +kernel
  have h1 : ci < 13 := by
    rcases Nat.lt_or_ge ci 13 with q | q
    · exact q
    · unfold fkd at h
      rw [List.getD_eq_getElem?_getD (l := fkl), List.getElem?_eq_none (by omega)] at h
      exact absurd h.symm hv
  refine ⟨h1, ?_⟩
  have h2 : ∀ ci, ci < 13 → (fkl.getD ci []).length ≤ 60 := by decide +kernel
  rcases Nat.lt_or_ge k 60 with q | q
  · exact q
  · unfold fkd at h
    have h3 := h2 ci h1
    rw [List.getD_eq_getElem?_getD, List.getElem?_eq_none (by omega)] at h
    exact absurd h.symm hv
/-- the final references: cell, field -/
noncomputable def fk4L : List (Nat × Nat) := [(1, 3), (1, 4), (1, 5), (1, 6), (1, 11), (1, 12), (1, 14), (1, 15), (1, 16), (1, 17), (1, 18), (1, 19), (3, 0), (3, 2), (7, 0), (9, 0), (9, 5), (9, 6), (9, 7), (9, 8), (15, 0), (15, 5), (15, 6), (15, 7), (15, 8), (21, 3), (21, 4), (21, 5), (21, 6), (21, 7), (27, 3), (27, 4), (27, 5), (27, 6), (27, 7), (35, 3), (35, 4), (35, 7), (39, 0), (39, 1), (42, 0), (42, 1), (45, 0), (45, 2), (45, 3), (49, 8), (51, 8), (53, 2), (55, 2), (57, 2), (59, 2), (61, 0), (61, 5), (61, 6), (61, 7), (61, 8), (67, 3), (67, 4), (67, 5), (67, 6), (67, 7), (73, 0), (73, 5), (73, 6), (73, 7), (73, 8), (79, 3), (79, 4), (79, 5), (79, 6), (79, 7), (85, 0), (85, 5), (85, 6), (85, 7), (85, 8), (91, 3), (91, 4), (91, 5), (91, 6), (91, 7), (97, 4), (97, 5), (97, 6), (97, 7), (97, 20), (97, 21), (97, 22), (97, 28), (97, 29), (97, 30), (97, 35), (97, 36), (97, 37), (97, 38), (97, 39)]
/-- by class -/
noncomputable def fk4C : List (Nat × Nat) := [(0, 0), (0, 5), (0, 6), (0, 7), (0, 8), (2, 3), (2, 4), (2, 5), (2, 6), (2, 7), (3, 0), (4, 8), (5, 0), (5, 1), (6, 0), (6, 2), (7, 3), (7, 4), (7, 7), (8, 0), (8, 1), (9, 0), (9, 2), (9, 3), (10, 2), (11, 3), (11, 4), (11, 5), (11, 6), (11, 11), (11, 12), (11, 14), (11, 15), (11, 16), (11, 17), (11, 18), (11, 19), (12, 4), (12, 5), (12, 6), (12, 7), (12, 20), (12, 21), (12, 22), (12, 28), (12, 29), (12, 30), (12, 35), (12, 36), (12, 37), (12, 38), (12, 39)]
set_option maxRecDepth 100000 in
theorem fk4_cl : ((List.range 13).all fun ci => (List.range 60).all fun k => !(Nat.beq (fkd ci k) 4) || fk4C.contains (ci, k)) = true := by decide +kernel
set_option maxRecDepth 100000 in
theorem fk4_ob : ((List.range 113).all fun o => Nat.beq o 0 || (fk4C.all fun q => !(Nat.beq (shl.getD (o - 1) (999, 0)).1 q.1) || fk4L.contains (o, q.2))) = true := by decide +kernel
theorem fk4_all : ∀ o, o < 113 → 0 < o → ∀ k, k < 60 → fkd (shl.getD (o - 1) (999, 0)).1 k = 4 → fk4L.contains (o, k) = true := by
  intro o ho h0 k hk h4
  have hci := (fkd_in h4 (by decide)).1
  have a : (!(Nat.beq (fkd (shl.getD (o - 1) (999, 0)).1 k) 4) || fk4C.contains ((shl.getD (o - 1) (999, 0)).1, k)) = true := List.all_eq_true.mp (List.all_eq_true.mp fk4_cl _ (List.mem_range.mpr hci)) k (List.mem_range.mpr hk)
  have a2 : fk4C.contains ((shl.getD (o - 1) (999, 0)).1, k) = true := by rw [h4] at a; exact a
  have b : (Nat.beq o 0 || (fk4C.all fun q => !(Nat.beq (shl.getD (o - 1) (999, 0)).1 q.1) || fk4L.contains (o, q.2))) = true := List.all_eq_true.mp fk4_ob o (List.mem_range.mpr ho)
  have z : Nat.beq o 0 = false := by
    cases e : Nat.beq o 0 with
    | false => rfl
    | true => exact absurd (Nat.eq_of_beq_eq_true e) (by omega)
  rw [z, Bool.false_or] at b
  have c : (!(Nat.beq (shl.getD (o - 1) (999, 0)).1 (shl.getD (o - 1) (999, 0)).1) || fk4L.contains (o, k)) = true := List.all_eq_true.mp b _ (List.contains_iff_mem.mp a2)
  rw [Nat.beq_refl] at c
  exact c
set_option maxRecDepth 100000 in
theorem gf_9 : ∀ o ci k, 0 < o → (shl.getD (o - 1) (999, 0)).1 = ci → fkd ci k = 4 → okg9 ci k = true → bad9 (o + fof ci k) = false := by
  have each : ∀ q ∈ fk4L, okg9 (shl.getD (q.1 - 1) (999, 0)).1 q.2 = true → bad9 (q.1 + fof (shl.getD (q.1 - 1) (999, 0)).1 q.2) = false := by decide +kernel
  intro o ci k h0 h1 h2 h3
  obtain ⟨i1, i2⟩ := fkd_in h2 (by decide)
  subst h1
  exact each (o, k) (List.contains_iff_mem.mp (fk4_all o (shl_in rfl (by omega)) h0 k i2 h2)) h3
noncomputable def okH9 (o k : Nat) : Bool := Nat.beq o 1 && (Nat.beq k 7 || (Nat.beq k 8 || (Nat.beq k 9 || Nat.beq k 10)))
theorem okH9_s {o k : Nat} (h : okH9 o k = true) : o = 1 ∧ (k = 7 ∨ k = 8 ∨ k = 9 ∨ k = 10) := by
  unfold okH9 at h
  rw [Bool.and_eq_true, Bool.or_eq_true, Bool.or_eq_true, Bool.or_eq_true] at h
  refine ⟨Nat.eq_of_beq_eq_true h.1, ?_⟩
  rcases h.2 with q | q | q | q
  · exact Or.inl (Nat.eq_of_beq_eq_true q)
  · exact Or.inr (Or.inl (Nat.eq_of_beq_eq_true q))
  · exact Or.inr (Or.inr (Or.inl (Nat.eq_of_beq_eq_true q)))
  · exact Or.inr (Or.inr (Or.inr (Nat.eq_of_beq_eq_true q)))
set_option maxRecDepth 100000 in
theorem fk3_cl : ((List.range 13).all fun ci => (List.range 60).all fun k => !(Nat.beq (fkd ci k) 3) || (Nat.beq ci 11 && (Nat.beq k 7 || (Nat.beq k 8 || (Nat.beq k 9 || Nat.beq k 10))))) = true := by decide +kernel
set_option maxRecDepth 100000 in
theorem sh11_o : ((List.range 113).all fun o => Nat.beq o 0 || (!(Nat.beq (shl.getD (o - 1) (999, 0)).1 11) || Nat.beq o 1)) = true := by decide +kernel
theorem okH9_all : ∀ o, o < 113 → 0 < o → ∀ k, k < 60 → fkd (shl.getD (o - 1) (999, 0)).1 k = 3 → okH9 o k = true := by
  intro o ho h0 k hk h3
  have hci := (fkd_in h3 (by decide)).1
  have a : (!(Nat.beq (fkd (shl.getD (o - 1) (999, 0)).1 k) 3) || (Nat.beq (shl.getD (o - 1) (999, 0)).1 11 && (Nat.beq k 7 || (Nat.beq k 8 || (Nat.beq k 9 || Nat.beq k 10))))) = true := List.all_eq_true.mp (List.all_eq_true.mp fk3_cl _ (List.mem_range.mpr hci)) k (List.mem_range.mpr hk)
  have a2 : (Nat.beq (shl.getD (o - 1) (999, 0)).1 11 && (Nat.beq k 7 || (Nat.beq k 8 || (Nat.beq k 9 || Nat.beq k 10)))) = true := by rw [h3] at a; exact a
  rw [Bool.and_eq_true] at a2
  have b : (Nat.beq o 0 || (!(Nat.beq (shl.getD (o - 1) (999, 0)).1 11) || Nat.beq o 1)) = true := List.all_eq_true.mp sh11_o o (List.mem_range.mpr ho)
  have z : Nat.beq o 0 = false := by
    cases e : Nat.beq o 0 with
    | false => rfl
    | true => exact absurd (Nat.eq_of_beq_eq_true e) (by omega)
  rw [z, Bool.false_or, a2.1] at b
  have c : Nat.beq o 1 = true := b
  unfold okH9
  rw [c, Bool.true_and]
  exact a2.2
set_option maxRecDepth 100000 in
theorem arr9_all : ∀ a, a < 113 → 103 ≤ (shl.getD (a - 1) (999, 0)).1 → (shl.getD (a - 1) (999, 0)).1 < 999 → (a = 2 ∧ aL a = 4) ∨ (a = 33 ∧ aL a = 3) ∨ (a = 34 ∧ aL a = 3) := by decide +kernel
set_option maxRecDepth 100000 in
theorem shl9_lt : ∀ a, a < 113 → (shl.getD (a - 1) (999, 0)).1 < 999 := by decide +kernel
set_option maxRecDepth 100000 in
theorem HRf_9 {R : Rm} (h : RI R) : HRf bad9 R := by
  constructor
  · intro o ci k h0 h1 h2
    have all : ∀ o, o < 113 → 0 < o → ∀ k, k < 60 → fkd (shl.getD (o - 1) (999, 0)).1 k = 3 → okH9 o k = true := okH9_all
    obtain ⟨i1, i2⟩ := fkd_in h2 (by decide)
    subst h1
    obtain ⟨rfl, hk⟩ := okH9_s (all o (shl_in rfl (by omega)) h0 k i2 h2)
    rcases hk with rfl | rfl | rfl | rfl
    · exact bad9_o (isO_spec h.now.1).2.2 (by decide)
    · exact bad9_o (isO_spec h.spare.1).2.2 (by decide)
    · exact bad9_o (isO_spec h.plan.1).2.2 (by decide)
    · exact bad9_o (isO_spec h.splan.1).2.2 (by decide)
  · intro a t j h1 h2
    have ha : a < 113 := by
      rcases Nat.lt_or_ge a 113 with q | q
      · exact q
      · have hl : shl.length = 112 := by decide +kernel
        unfold aL at h2
        rw [List.getD_eq_getElem?_getD, List.getElem?_eq_none (by omega)] at h2
        exact absurd h2 (Nat.not_lt_zero _)
    have all : ∀ a, a < 113 → 103 ≤ (shl.getD (a - 1) (999, 0)).1 → (shl.getD (a - 1) (999, 0)).1 < 999 → (a = 2 ∧ aL a = 4) ∨ (a = 33 ∧ aL a = 3) ∨ (a = 34 ∧ aL a = 3) := arr9_all
    have lt : (shl.getD (a - 1) (999, 0)).1 < 999 := by
      have h3 : ∀ a, a < 113 → (shl.getD (a - 1) (999, 0)).1 < 999 := shl9_lt
      exact h3 a ha
    rcases all a ha (by omega) lt with ⟨rfl, e⟩ | ⟨rfl, e⟩ | ⟨rfl, e⟩
    · exact bad9_o (isO_spec (h.tray j (by omega)).2).2.2 (by decide)
    · exact bad9_o (isO_spec (h.kb j (by omega)).2).2.2 (by decide)
    · exact bad9_o (isO_spec (h.kd j (by omega)).2).2.2 (by decide)
noncomputable def okas : List Value → Bool
  | [] => true
  | .ref a :: r => !bad9 a && okas r
  | _ :: r => okas r
theorem okas_kv : ∀ as : List Value, okas as = true → kvS bad9 as := by
  intro as
  induction as with
  | nil => intro _; exact kvS.n
  | cons v r ih =>
    intro h
    cases v with
    | ref a =>
      unfold okas at h
      rw [Bool.and_eq_true, Bool.not_eq_true'] at h
      exact kvS.c (kvO.rf h.1) (ih h.2)
    | _ => exact kvS.c (fun _ q => by cases q) (ih h)
/-- all that reads or writes those two arrays and is not pure: X12_copyStore, X12_pour, X12_tray, X12_write -/
noncomputable def dty5 : List Nat := [0, 27, 32, 40, 53, 58, 74, 85, 88, 94, 99, 172, 181, 184, 186, 254]
set_option maxRecDepth 100000 in
theorem cl5 : ClT pul dty5 okg9 (fun _ _ => true) := ClT.ef (by decide +kernel)
theorem kp5 {d mi n : Nat} {as : List Value} {I : Im} {J : Jm} {R : Rm} {Q : Qt} (hd : dty5.elem mi = false) (hR : RI R) (ha : okas as = true) (h : AM d mi n as I J R (fun x y I' J' R' => K9 I I' → Q x y I' J' R')) : AM d mi n as I J R Q :=
  AM_w (F := fun I' _ _ => K9 I I') pul_kk cl5 gf_9 stg_98 hd (okas_kv as ha) (HRf_9 hR) K9.rf h
end PT4x0
