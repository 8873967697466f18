section PT4x0
/-! printed by grp.py: places that all methods but few keep -/
noncomputable def pul : List Nat := [3, 5, 6, 7, 8, 9, 10, 11, 12, 13, 16, 44, 45, 57, 59, 80, 81, 87, 92, 93, 95, 97, 100, 101, 102, 110, 156, 157, 158, 159, 160, 161, 162, 163, 164, 165, 166, 167, 168, 169, 170, 171, 178, 180, 182, 183, 187, 188, 189, 190, 191, 192, 193, 194, 196, 197, 198, 199, 200, 201, 202, 203, 204, 205, 206, 207, 208, 209, 210, 211, 226, 238, 239, 240, 241, 242, 243, 244, 245, 246, 247, 255, 256, 283, 284, 288, 296, 300, 301, 309, 319]
set_option maxRecDepth 100000 in
theorem pul_kk : PuT pul := PuT.of (by decide +kernel)
theorem nb_refl (n : Nat) : Nat.beq n n = true := by
  induction n with
  | zero => rfl
  | succ n ih => exact ih
theorem stg_fld {c ci0 k0 : Nat} {v : Int32} (hc : (shl.getD (c - 1) (999, 0)).1 = ci0) (hci : ci0 < 100) : StG (fun _ => false) (fun ci k => !(Nat.beq ci ci0 && Nat.beq k k0)) (fun I _ _ => I c k0 = v) := by
  refine ⟨fun I J R o ci k x h1 h2 h3 hF => ?_, fun I J R o ci k x h1 h2 h3 hF => hF, fun I J R a t j x h1 h2 hF => ?_, fun I J R a t j x h1 h2 hF => hF, fun I J R a0 a1 t p q m h1 h2 hF => ?_, fun I J R a0 a1 t p q m h1 h2 hF => hF, fun I J R o ci k x h1 h2 hF => hF⟩
  · change I c k0 = v at hF
    change (!(Nat.beq ci ci0 && Nat.beq k k0)) = true at h3
    show uI I o k x c k0 = v
    by_cases ho : c = o
    · subst ho
      have hcc : ci = ci0 := h1.symm.trans hc
      subst hcc
      have hk : ¬ k0 = k := fun q => by
        subst q
        rw [nb_refl, nb_refl] at h3
        exact absurd h3 (by decide)
      simpa [uI, upd, hk] using hF
    · rw [uI_ne ho]; exact hF
  · have ho : ¬ c = a := fun q => by subst q; omega
    change I c k0 = v at hF
    show uI I a j x c k0 = v
    rw [uI_ne ho]; exact hF
  · have ho : ¬ c = a1 := fun q => by subst q; omega
    show (if c = a1 then va_cpy (I a0) (I a1) p q m else I c) k0 = v
    rw [if_neg ho]; exact hF
theorem gf_none {okg : Nat → Nat → Bool} : ∀ o ci k, 0 < o → (shl.getD (o - 1) (999, 0)).1 = ci → fkd ci k = 4 → okg ci k = true → (fun _ : Nat => false) (o + fof ci k) = false := fun _ _ _ _ _ _ _ => rfl
theorem kvS_none {as : List Value} : kvS (fun _ => false) as := fun _ _ _ _ => rfl
theorem HRf_none {R : Rm} : HRf (fun _ => false) R := ⟨fun _ _ _ _ _ _ => rfl, fun _ _ _ _ _ => rfl⟩
/-- all that may write at place 1 of cell 3: X11_bakery, X11_days, X11_feed, X6_append, X6_open -/
noncomputable def dty0 : List Nat := [0, 27, 32, 40, 53, 58, 60, 61, 74, 85, 88, 94, 99, 107, 108, 109, 172]
set_option maxRecDepth 100000 in
theorem cl0 : ClT pul dty0 (fun _ _ => true) (fun ci k => !(Nat.beq ci 6 && Nat.beq k 1)) := ClT.ef (by decide +kernel)
theorem kp0 {d mi n : Nat} {as : List Value} {I : Im} {J : Jm} {R : Rm} {Q : Qt} (hd : dty0.elem mi = false) (h : AM d mi n as I J R (fun x y I' J' R' => I' 3 1 = I 3 1 → Q x y I' J' R')) : AM d mi n as I J R Q :=
  AM_w (F := fun I' _ _ => I' 3 1 = I 3 1) pul_kk cl0 gf_none (stg_fld rfl (by decide)) hd kvS_none HRf_none rfl h
/-- all that may write at place 8 of cell 97: X12_bakery, X12_days, X12_feed, X12_lay, X12_starts -/
noncomputable def dty1 : List Nat := [0, 27, 32, 40, 53, 58, 74, 85, 88, 94, 99, 172, 220, 221, 222, 233, 237]
set_option maxRecDepth 100000 in
theorem cl1 : ClT pul dty1 (fun _ _ => true) (fun ci k => !(Nat.beq ci 12 && Nat.beq k 8)) := ClT.ef (by decide +kernel)
theorem kp1 {d mi n : Nat} {as : List Value} {I : Im} {J : Jm} {R : Rm} {Q : Qt} (hd : dty1.elem mi = false) (h : AM d mi n as I J R (fun x y I' J' R' => I' 97 8 = I 97 8 → Q x y I' J' R')) : AM d mi n as I J R Q :=
  AM_w (F := fun I' _ _ => I' 97 8 = I 97 8) pul_kk cl1 gf_none (stg_fld rfl (by decide)) hd kvS_none HRf_none rfl h
/-- all that may write at place 13 of cell 1: X11_back, X11_mark -/
noncomputable def dty2 : List Nat := [0, 27, 32, 40, 53, 58, 74, 85, 88, 94, 99, 147, 148, 172]
set_option maxRecDepth 100000 in
theorem cl2 : ClT pul dty2 (fun _ _ => true) (fun ci k => !(Nat.beq ci 11 && Nat.beq k 13)) := ClT.ef (by decide +kernel)
theorem kp2 {d mi n : Nat} {as : List Value} {I : Im} {J : Jm} {R : Rm} {Q : Qt} (hd : dty2.elem mi = false) (h : AM d mi n as I J R (fun x y I' J' R' => I' 1 13 = I 1 13 → Q x y I' J' R')) : AM d mi n as I J R Q :=
  AM_w (F := fun I' _ _ => I' 1 13 = I 1 13) pul_kk cl2 gf_none (stg_fld rfl (by decide)) hd kvS_none HRf_none rfl h
/-- all that may write at place 23 of cell 97: X12_back, X12_mark -/
noncomputable def dty3 : List Nat := [0, 27, 32, 40, 53, 58, 74, 85, 88, 94, 99, 172, 317, 318]
set_option maxRecDepth 100000 in
theorem cl3 : ClT pul dty3 (fun _ _ => true) (fun ci k => !(Nat.beq ci 12 && Nat.beq k 23)) := ClT.ef (by decide +kernel)
theorem kp3 {d mi n : Nat} {as : List Value} {I : Im} {J : Jm} {R : Rm} {Q : Qt} (hd : dty3.elem mi = false) (h : AM d mi n as I J R (fun x y I' J' R' => I' 97 23 = I 97 23 → Q x y I' J' R')) : AM d mi n as I J R Q :=
  AM_w (F := fun I' _ _ => I' 97 23 = I 97 23) pul_kk cl3 gf_none (stg_fld rfl (by decide)) hd kvS_none HRf_none rfl h
/-- the cells of the four trays -/
noncomputable def TC : List Nat := [53, 55, 57, 59]
noncomputable def KT (I I2 : Im) : Prop := ∀ c, c ∈ TC → I2 c = I c
noncomputable def K9 (I I2 : Im) : Prop := I2 98 = I 98 ∧ I2 99 = I 99
theorem K9.tr {a b c : Im} (h : K9 a b) (h2 : K9 b c) : K9 a c := ⟨h2.1.trans h.1, h2.2.trans h.2⟩
theorem K9.rf {a : Im} : K9 a a := ⟨rfl, rfl⟩
theorem KT.tr {a b c : Im} (h : KT a b) (h2 : KT b c) : KT a c := fun q hq => (h2 q hq).trans (h q hq)
theorem TC_sh : ∀ c, c ∈ TC → (shl.getD (c - 1) (999, 0)).1 = 10 := by decide
theorem stg_TC {I0 : Im} : StG (fun _ => false) (fun ci _ => !Nat.beq ci 10) (fun I _ _ => KT I0 I) := by
  refine ⟨fun I J R o ci k x h1 h2 h3 hF c hc => ?_, fun I J R o ci k x h1 h2 h3 hF => hF, fun I J R a t j x h1 h2 hF c hc => ?_, fun I J R a t j x h1 h2 hF => hF, fun I J R a0 a1 t p q m h1 h2 hF c hc => ?_, fun I J R a0 a1 t p q m h1 h2 hF => hF, fun I J R o ci k x h1 h2 hF => hF⟩
  · have ho : ¬ c = o := fun q => by
      subst q
      have e : ci = 10 := h1.symm.trans (TC_sh c hc)
      subst e
      exact absurd (show (!Nat.beq 10 10) = true from h3) (by decide)
    rw [uI_ne ho]; exact hF c hc
  · have h4 := TC_sh c hc
    have ho : ¬ c = a := fun q => by subst q; omega
    rw [uI_ne ho]; exact hF c hc
  · have h4 := TC_sh c hc
    have ho : ¬ c = a1 := fun q => by subst q; omega
    show (if c = a1 then va_cpy (I a0) (I a1) p q m else I c) = I0 c
    rw [if_neg ho]; exact hF c hc
/-- all that may write the trays' sorts and lengths: X10_lay, X11_tray -/
noncomputable def dty4 : List Nat := [0, 27, 32, 40, 53, 58, 74, 85, 88, 94, 96, 99, 103, 172]
set_option maxRecDepth 100000 in
theorem cl4 : ClT pul dty4 (fun _ _ => true) (fun ci _ => !Nat.beq ci 10) := ClT.ef (by decide +kernel)
theorem kp4 {d mi n : Nat} {as : List Value} {I : Im} {J : Jm} {R : Rm} {Q : Qt} (hd : dty4.elem mi = false) (h : AM d mi n as I J R (fun x y I' J' R' => KT I I' → Q x y I' J' R')) : AM d mi n as I J R Q :=
  AM_w (F := fun I' _ _ => KT I I') pul_kk cl4 gf_none stg_TC hd kvS_none HRf_none (fun _ _ => rfl) h
/-- the reference's sorts and lengths, to which few come -/
noncomputable def bad9 (a : Nat) : Bool := Nat.beq a 98 || Nat.beq a 99
noncomputable def okg9 (ci k : Nat) : Bool := !(Nat.beq ci 12 && (Nat.beq k 4 || Nat.beq k 5))
theorem bad9_f {a : Nat} (h : bad9 a = false) : ¬ a = 98 ∧ ¬ a = 99 := by
  constructor <;> intro q <;> subst q <;> exact absurd h (by decide)
theorem bad9_o {a ci : Nat} (h : (shl.getD (a - 1) (999, 0)).1 = ci) (hc : ¬ ci = 100) : bad9 a = false := by
  have h1 : ¬ a = 98 := fun q => by subst q; exact hc h.symm
  have h2 : ¬ a = 99 := fun q => by subst q; exact hc h.symm
  unfold bad9
  rw [Bool.or_eq_false_iff]
  exact ⟨by cases q : Nat.beq a 98 with
    | false => rfl
    | true => exact absurd (Nat.eq_of_beq_eq_true q) h1, by cases q : Nat.beq a 99 with
    | false => rfl
    | true => exact absurd (Nat.eq_of_beq_eq_true q) h2⟩
theorem stg_98 {I0 : Im} : StG bad9 (fun _ _ => true) (fun I _ _ => K9 I0 I) := by
  refine ⟨fun I J R o ci k x h1 h2 h3 hF => ?_, fun I J R o ci k x h1 h2 h3 hF => hF, fun I J R a t j x h1 h2 hF => ?_, fun I J R a t j x h1 h2 hF => hF, fun I J R a0 a1 t p q m h1 h2 hF => ?_, fun I J R a0 a1 t p q m h1 h2 hF => hF, fun I J R o ci k x h1 h2 hF => hF⟩
  · have hb := bad9_f (bad9_o h1 (by omega))
    exact ⟨(uI_ne (fun q => hb.1 q.symm)).trans hF.1, (uI_ne (fun q => hb.2 q.symm)).trans hF.2⟩
  · have hb := bad9_f h2
    exact ⟨(uI_ne (fun q => hb.1 q.symm)).trans hF.1, (uI_ne (fun q => hb.2 q.symm)).trans hF.2⟩
  · have hb := bad9_f h2
    exact ⟨(if_neg (fun q => hb.1 q.symm)).trans hF.1, (if_neg (fun q => hb.2 q.symm)).trans hF.2⟩
theorem shl_in {o ci : Nat} (h : (shl.getD (o - 1) (999, 0)).1 = ci) (hc : ¬ ci = 999) : o < 113 := by
  rcases Nat.lt_or_ge o 113 with q | q
  · exact q
  · rw [sh_out (by omega)] at h
    exact absurd h.symm hc
theorem fkd_in {ci k v : Nat} (h : fkd ci k = v) (hv : ¬ v = 9) : ci < 13 ∧ k < 60 := by
  have hl : fkl.length = 13 := by decide +kernel
  have h1 : ci < 13 := by
    rcases Nat.lt_or_ge ci 13 with q | q
    · exact q
    · unfold fkd at h
      rw [List.getD_eq_getElem?_getD (l := fkl), List.getElem?_eq_none (by omega)] at h
      exact absurd h.symm hv
  refine ⟨h1, ?_⟩
  have h2 : ∀ ci, ci < 13 → (fkl.getD ci []).length ≤ 60 := by decide +kernel
  rcases Nat.lt_or_ge k 60 with q | q
  · exact q
  · unfold fkd at h
    have h3 := h2 ci h1
    rw [List.getD_eq_getElem?_getD, List.getElem?_eq_none (by omega)] at h
    exact absurd h.symm hv
/-- the final references: cell, field -/
noncomputable def fk4L : List (Nat × Nat) := [(1, 3), (1, 4), (1, 5), (1, 6), (1, 11), (1, 12), (1, 14), (1, 15), (1, 16), (1, 17), (1, 18), (1, 19), (3, 0), (3, 2), (7, 0), (9, 0), (9, 5), (9, 6), (9, 7), (9, 8), (15, 0), (15, 5), (15, 6), (15, 7), (15, 8), (21, 3), (21, 4), (21, 5), (21, 6), (21, 7), (27, 3), (27, 4), (27, 5), (27, 6), (27, 7), (35, 3), (35, 4), (35, 7), (39, 0), (39, 1), (42, 0), (42, 1), (45, 0), (45, 2), (45, 3), (49, 8), (51, 8), (53, 2), (55, 2), (57, 2), (59, 2), (61, 0), (61, 5), (61, 6), (61, 7), (61, 8), (67, 3), (67, 4), (67, 5), (67, 6), (67, 7), (73, 0), (73, 5), (73, 6), (73, 7), (73, 8), (79, 3), (79, 4), (79, 5), (79, 6), (79, 7), (85, 0), (85, 5), (85, 6), (85, 7), (85, 8), (91, 3), (91, 4), (91, 5), (91, 6), (91, 7), (97, 4), (97, 5), (97, 6), (97, 7), (97, 20), (97, 21), (97, 22), (97, 28), (97, 29), (97, 30), (97, 35), (97, 36), (97, 37), (97, 38), (97, 39)]
/-- by class -/
noncomputable def fk4C : List (Nat × Nat) := [(0, 0), (0, 5), (0, 6), (0, 7), (0, 8), (2, 3), (2, 4), (2, 5), (2, 6), (2, 7), (3, 0), (4, 8), (5, 0), (5, 1), (6, 0), (6, 2), (7, 3), (7, 4), (7, 7), (8, 0), (8, 1), (9, 0), (9, 2), (9, 3), (10, 2), (11, 3), (11, 4), (11, 5), (11, 6), (11, 11), (11, 12), (11, 14), (11, 15), (11, 16), (11, 17), (11, 18), (11, 19), (12, 4), (12, 5), (12, 6), (12, 7), (12, 20), (12, 21), (12, 22), (12, 28), (12, 29), (12, 30), (12, 35), (12, 36), (12, 37), (12, 38), (12, 39)]
set_option maxRecDepth 100000 in
theorem fk4_cl : ((List.range 13).all fun ci => (List.range 60).all fun k => !(Nat.beq (fkd ci k) 4) || fk4C.contains (ci, k)) = true := by decide +kernel
set_option maxRecDepth 100000 in
theorem fk4_ob : ((List.range 113).all fun o => Nat.beq o 0 || (fk4C.all fun q => !(Nat.beq (shl.getD (o - 1) (999, 0)).1 q.1) || fk4L.contains (o, q.2))) = true := by decide +kernel
theorem fk4_all : ∀ o, o < 113 → 0 < o → ∀ k, k < 60 → fkd (shl.getD (o - 1) (999, 0)).1 k = 4 → fk4L.contains (o, k) = true := by
  intro o ho h0 k hk h4
  have hci := (fkd_in h4 (by decide)).1
  have a : (!(Nat.beq (fkd (shl.getD (o - 1) (999, 0)).1 k) 4) || fk4C.contains ((shl.getD (o - 1) (999, 0)).1, k)) = true := List.all_eq_true.mp (List.all_eq_true.mp fk4_cl _ (List.mem_range.mpr hci)) k (List.mem_range.mpr hk)
  have a2 : fk4C.contains ((shl.getD (o - 1) (999, 0)).1, k) = true := by rw [h4] at a; exact a
  have b : (Nat.beq o 0 || (fk4C.all fun q => !(Nat.beq (shl.getD (o - 1) (999, 0)).1 q.1) || fk4L.contains (o, q.2))) = true := List.all_eq_true.mp fk4_ob o (List.mem_range.mpr ho)
  have z : Nat.beq o 0 = false := by
    cases e : Nat.beq o 0 with
    | false => rfl
    | true => exact absurd (Nat.eq_of_beq_eq_true e) (by omega)
  rw [z, Bool.false_or] at b
  have c : (!(Nat.beq (shl.getD (o - 1) (999, 0)).1 (shl.getD (o - 1) (999, 0)).1) || fk4L.contains (o, k)) = true := List.all_eq_true.mp b _ (List.contains_iff_mem.mp a2)
  rw [Nat.beq_refl] at c
  exact c
set_option maxRecDepth 100000 in
theorem gf_9 : ∀ o ci k, 0 < o → (shl.getD (o - 1) (999, 0)).1 = ci → fkd ci k = 4 → okg9 ci k = true → bad9 (o + fof ci k) = false := by
  have each : ∀ q ∈ fk4L, okg9 (shl.getD (q.1 - 1) (999, 0)).1 q.2 = true → bad9 (q.1 + fof (shl.getD (q.1 - 1) (999, 0)).1 q.2) = false := by decide +kernel
  intro o ci k h0 h1 h2 h3
  obtain ⟨i1, i2⟩ := fkd_in h2 (by decide)
  subst h1
  exact each (o, k) (List.contains_iff_mem.mp (fk4_all o (shl_in rfl (by omega)) h0 k i2 h2)) h3
noncomputable def okH9 (o k : Nat) : Bool := Nat.beq o 1 && (Nat.beq k 7 || (Nat.beq k 8 || (Nat.beq k 9 || Nat.beq k 10)))
theorem okH9_s {o k : Nat} (h : okH9 o k = true) : o = 1 ∧ (k = 7 ∨ k = 8 ∨ k = 9 ∨ k = 10) := by
  unfold okH9 at h
  rw [Bool.and_eq_true, Bool.or_eq_true, Bool.or_eq_true, Bool.or_eq_true] at h
  refine ⟨Nat.eq_of_beq_eq_true h.1, ?_⟩
  rcases h.2 with q | q | q | q
  · exact Or.inl (Nat.eq_of_beq_eq_true q)
  · exact Or.inr (Or.inl (Nat.eq_of_beq_eq_true q))
  · exact Or.inr (Or.inr (Or.inl (Nat.eq_of_beq_eq_true q)))
  · exact Or.inr (Or.inr (Or.inr (Nat.eq_of_beq_eq_true q)))
set_option maxRecDepth 100000 in
theorem fk3_cl : ((List.range 13).all fun ci => (List.range 60).all fun k => !(Nat.beq (fkd ci k) 3) || (Nat.beq ci 11 && (Nat.beq k 7 || (Nat.beq k 8 || (Nat.beq k 9 || Nat.beq k 10))))) = true := by decide +kernel
set_option maxRecDepth 100000 in
theorem sh11_o : ((List.range 113).all fun o => Nat.beq o 0 || (!(Nat.beq (shl.getD (o - 1) (999, 0)).1 11) || Nat.beq o 1)) = true := by decide +kernel
theorem okH9_all : ∀ o, o < 113 → 0 < o → ∀ k, k < 60 → fkd (shl.getD (o - 1) (999, 0)).1 k = 3 → okH9 o k = true := by
  intro o ho h0 k hk h3
  have hci := (fkd_in h3 (by decide)).1
  have a : (!(Nat.beq (fkd (shl.getD (o - 1) (999, 0)).1 k) 3) || (Nat.beq (shl.getD (o - 1) (999, 0)).1 11 && (Nat.beq k 7 || (Nat.beq k 8 || (Nat.beq k 9 || Nat.beq k 10))))) = true := List.all_eq_true.mp (List.all_eq_true.mp fk3_cl _ (List.mem_range.mpr hci)) k (List.mem_range.mpr hk)
  have a2 : (Nat.beq (shl.getD (o - 1) (999, 0)).1 11 && (Nat.beq k 7 || (Nat.beq k 8 || (Nat.beq k 9 || Nat.beq k 10)))) = true := by rw [h3] at a; exact a
  rw [Bool.and_eq_true] at a2
  have b : (Nat.beq o 0 || (!(Nat.beq (shl.getD (o - 1) (999, 0)).1 11) || Nat.beq o 1)) = true := List.all_eq_true.mp sh11_o o (List.mem_range.mpr ho)
  have z : Nat.beq o 0 = false := by
    cases e : Nat.beq o 0 with
    | false => rfl
    | true => exact absurd (Nat.eq_of_beq_eq_true e) (by omega)
  rw [z, Bool.false_or, a2.1] at b
  have c : Nat.beq o 1 = true := b
  unfold okH9
  rw [c, Bool.true_and]
  exact a2.2
set_option maxRecDepth 100000 in
theorem arr9_all : ∀ a, a < 113 → 103 ≤ (shl.getD (a - 1) (999, 0)).1 → (shl.getD (a - 1) (999, 0)).1 < 999 → (a = 2 ∧ aL a = 4) ∨ (a = 33 ∧ aL a = 3) ∨ (a = 34 ∧ aL a = 3) := by decide +kernel
set_option maxRecDepth 100000 in
theorem shl9_lt : ∀ a, a < 113 → (shl.getD (a - 1) (999, 0)).1 < 999 := by decide +kernel
set_option maxRecDepth 100000 in
theorem HRf_9 {R : Rm} (h : RI R) : HRf bad9 R := by
  constructor
  · intro o ci k h0 h1 h2
    have all : ∀ o, o < 113 → 0 < o → ∀ k, k < 60 → fkd (shl.getD (o - 1) (999, 0)).1 k = 3 → okH9 o k = true := okH9_all
    obtain ⟨i1, i2⟩ := fkd_in h2 (by decide)
    subst h1
    obtain ⟨rfl, hk⟩ := okH9_s (all o (shl_in rfl (by omega)) h0 k i2 h2)
    rcases hk with rfl | rfl | rfl | rfl
    · exact bad9_o (isO_spec h.now.1).2.2 (by decide)
    · exact bad9_o (isO_spec h.spare.1).2.2 (by decide)
    · exact bad9_o (isO_spec h.plan.1).2.2 (by decide)
    · exact bad9_o (isO_spec h.splan.1).2.2 (by decide)
  · intro a t j h1 h2
    have ha : a < 113 := by
      rcases Nat.lt_or_ge a 113 with q | q
      · exact q
      · unfold aL at h2
        rw [sh_out (by omega)] at h2
        exact absurd h2 (Nat.not_lt_zero _)
    have all : ∀ a, a < 113 → 103 ≤ (shl.getD (a - 1) (999, 0)).1 → (shl.getD (a - 1) (999, 0)).1 < 999 → (a = 2 ∧ aL a = 4) ∨ (a = 33 ∧ aL a = 3) ∨ (a = 34 ∧ aL a = 3) := arr9_all
    have lt : (shl.getD (a - 1) (999, 0)).1 < 999 := by
      have h3 : ∀ a, a < 113 → (shl.getD (a - 1) (999, 0)).1 < 999 := shl9_lt
      exact h3 a ha
    rcases all a ha (by omega) lt with ⟨rfl, e⟩ | ⟨rfl, e⟩ | ⟨rfl, e⟩
    · exact bad9_o (isO_spec (h.tray j (by omega)).2).2.2 (by decide)
    · exact bad9_o (isO_spec (h.kb j (by omega)).2).2.2 (by decide)
    · exact bad9_o (isO_spec (h.kd j (by omega)).2).2.2 (by decide)
noncomputable def okas : List Value → Bool
  | [] => true
  | .ref a :: r => !bad9 a && okas r
  | _ :: r => okas r
theorem okas_kv : ∀ as : List Value, okas as = true → kvS bad9 as := by
  intro as
  induction as with
  | nil => intro _; exact kvS.n
  | cons v r ih =>
    intro h
    cases v with
    | ref a =>
      unfold okas at h
      rw [Bool.and_eq_true, Bool.not_eq_true'] at h
      exact kvS.c (kvO.rf h.1) (ih h.2)
    | _ => exact kvS.c (fun _ q => by cases q) (ih h)
/-- all that reads or writes those two arrays and is not pure: X12_copyStore, X12_pour, X12_tray, X12_write -/
noncomputable def dty5 : List Nat := [0, 27, 32, 40, 53, 58, 74, 85, 88, 94, 99, 172, 181, 184, 186, 254]
set_option maxRecDepth 100000 in
theorem cl5 : ClT pul dty5 okg9 (fun _ _ => true) := ClT.ef (by decide +kernel)
theorem kp5 {d mi n : Nat} {as : List Value} {I : Im} {J : Jm} {R : Rm} {Q : Qt} (hd : dty5.elem mi = false) (hR : RI R) (ha : okas as = true) (h : AM d mi n as I J R (fun x y I' J' R' => K9 I I' → Q x y I' J' R')) : AM d mi n as I J R Q :=
  AM_w (F := fun I' _ _ => K9 I I') pul_kk cl5 gf_9 stg_98 hd (okas_kv as ha) (HRf_9 hR) K9.rf h
/-! the relation of the trays -/
noncomputable def RT (I : Im) : Prop := ∀ t, t < 4 → I (53 + 2 * t) 0 = I 98 t ∧ I (53 + 2 * t) 1 = I 99 t
theorem TC_in : ∀ t, t < 4 → 53 + 2 * t ∈ TC := by decide
theorem TC1 : ∀ c, c ∈ TC → ¬ c = 1 := by decide
/-- what both sides have alike -/
noncomputable def RLk (I : Im) (J : Jm) : Prop := (I 3 1).toInt = (I 97 8).toInt ∧ (I 1 13).toInt = (I 97 23).toInt ∧ RT I ∧ J 47 0 = 0
theorem RT.kp {I I2 : Im} (h : RT I) (k4 : KT I I2) (k9 : K9 I I2) : RT I2 := fun t ht => by
  rw [k4 _ (TC_in t ht), k9.1, k9.2]; exact h t ht
noncomputable def TL (I I2 : Im) (o : Nat) (a b : Int32) : Prop := ∀ c, c ∈ TC → I2 c = uI (uI I o 0 a) o 1 b c
noncomputable def TE (I I2 : Im) (v a b : Int32) : Prop := I2 98 = upd (I 98) (Int32.toNatClampNeg v) a ∧ I2 99 = upd (I 99) (Int32.toNatClampNeg v) b
theorem RT.a1 {I I1 : Im} {R : Rm} {v : Int32} (h : RT I) (hR : RI R) (k : K9 I I1) (h0 : 0 ≤ v.toInt) (h3 : v.toInt ≤ 3) : (I (R 2 (Int32.toNatClampNeg v)) 1).toInt = (I1 99 (Int32.toNatClampNeg v)).toInt := by
  have hn : Int32.toNatClampNeg v < 4 := by show v.toInt.toNat < 4; omega
  rw [hR.tr _ hn, k.2, (h _ hn).2]
theorem RT.a0 {I I1 : Im} {R : Rm} {v : Int32} (h : RT I) (hR : RI R) (k : K9 I I1) (h0 : 0 ≤ v.toInt) (h3 : v.toInt ≤ 3) : (I (R 2 (Int32.toNatClampNeg v)) 0).toInt = (I1 98 (Int32.toNatClampNeg v)).toInt := by
  have hn : Int32.toNatClampNeg v < 4 := by show v.toInt.toNat < 4; omega
  rw [hR.tr _ hn, k.1, (h _ hn).1]
theorem RT.tray {I I1 I2 : Im} {R : Rm} {v a b : Int32} {x x2 : Int} (h : RT I) (hR : RI R) (p : (x = 1 ∧ TL I I1 (R 2 (Int32.toNatClampNeg v)) a b) ∨ (x = 0 ∧ KT I I1)) (p2 : (x2 = 1 ∧ TE I1 I2 v a b) ∨ (x2 = 0 ∧ K9 I1 I2)) (hx : x = x2) (hv : x = 1 → 0 ≤ v.toInt ∧ v.toInt ≤ 3) (k9 : K9 I I1) (k4 : KT I1 I2) : RT I2 := by
  rcases p with ⟨x1, p⟩ | ⟨x1, p⟩
  · rcases p2 with ⟨x3, p2⟩ | ⟨x3, p2⟩
    · intro t ht
      have hv1 := hv x1
      have hn : Int32.toNatClampNeg v < 4 := by show v.toInt.toNat < 4; omega
      rw [k4 _ (TC_in t ht), p _ (TC_in t ht), hR.tr _ hn, p2.1, p2.2, k9.1, k9.2]
      by_cases ht2 : t = Int32.toNatClampNeg v
      · rw [← ht2]
        constructor <;> simp [uI, upd]
      · have ho : ¬ 53 + 2 * t = 53 + 2 * Int32.toNatClampNeg v := by omega
        rw [uI_ne ho, uI_ne ho]
        have e : ∀ (f : Nat → Int32) (z : Int32), upd f (Int32.toNatClampNeg v) z t = f t := fun f z => by simp [upd, ht2]
        rw [e, e]
        exact h t ht
    · omega
  · rcases p2 with ⟨x3, p2⟩ | ⟨x3, p2⟩
    · omega
    · exact (h.kp p k9).kp k4 p2
/-- the scribe's sums, a whole array of longs, to which few come -/
noncomputable def bad47 (a : Nat) : Bool := Nat.beq a 47
noncomputable def okg47 (ci k : Nat) : Bool := !(Nat.beq ci 9 && Nat.beq k 2)
theorem sh47 : 100 ≤ (shl.getD (47 - 1) (999, 0)).1 := by decide
theorem bad47_f {a : Nat} (h : bad47 a = false) : ¬ a = 47 := by
  intro q; subst q; exact absurd h (by decide)
theorem bad47_o {a ci : Nat} (h : (shl.getD (a - 1) (999, 0)).1 = ci) (hc : ci < 100) : bad47 a = false := by
  cases q : bad47 a with
  | false => rfl
  | true =>
    have e : a = 47 := Nat.eq_of_beq_eq_true q
    subst e
    have := sh47
    omega
theorem stg_47 {J0 : Jm} : StG bad47 (fun _ _ => true) (fun _ J _ => J 47 = J0 47) := by
  refine ⟨fun I J R o ci k x h1 h2 h3 hF => hF, fun I J R o ci k x h1 h2 h3 hF => ?_, fun I J R a t j x h1 h2 hF => hF, fun I J R a t j x h1 h2 hF => ?_, fun I J R a0 a1 t p q m h1 h2 hF => hF, fun I J R a0 a1 t p q m h1 h2 hF => ?_, fun I J R o ci k x h1 h2 hF => hF⟩
  · exact (if_neg (fun q => bad47_f (bad47_o h1 h2) q.symm)).trans hF
  · exact (if_neg (fun q => bad47_f h2 q.symm)).trans hF
  · exact (if_neg (fun q => bad47_f h2 q.symm)).trans hF
set_option maxRecDepth 100000 in
theorem gf_47 : ∀ o ci k, 0 < o → (shl.getD (o - 1) (999, 0)).1 = ci → fkd ci k = 4 → okg47 ci k = true → bad47 (o + fof ci k) = false := by
  have each : ∀ q ∈ fk4L, okg47 (shl.getD (q.1 - 1) (999, 0)).1 q.2 = true → bad47 (q.1 + fof (shl.getD (q.1 - 1) (999, 0)).1 q.2) = false := by decide +kernel
  intro o ci k h0 h1 h2 h3
  obtain ⟨i1, i2⟩ := fkd_in h2 (by decide)
  subst h1
  exact each (o, k) (List.contains_iff_mem.mp (fk4_all o (shl_in rfl (by omega)) h0 k i2 h2)) h3
set_option maxRecDepth 100000 in
theorem HRf_47 {R : Rm} (h : RI R) : HRf bad47 R := by
  constructor
  · intro o ci k h0 h1 h2
    have all : ∀ o, o < 113 → 0 < o → ∀ k, k < 60 → fkd (shl.getD (o - 1) (999, 0)).1 k = 3 → okH9 o k = true := okH9_all
    obtain ⟨i1, i2⟩ := fkd_in h2 (by decide)
    subst h1
    obtain ⟨rfl, hk⟩ := okH9_s (all o (shl_in rfl (by omega)) h0 k i2 h2)
    rcases hk with rfl | rfl | rfl | rfl
    · exact bad47_o (isO_spec h.now.1).2.2 (by decide)
    · exact bad47_o (isO_spec h.spare.1).2.2 (by decide)
    · exact bad47_o (isO_spec h.plan.1).2.2 (by decide)
    · exact bad47_o (isO_spec h.splan.1).2.2 (by decide)
  · intro a t j h1 h2
    have ha : a < 113 := by
      rcases Nat.lt_or_ge a 113 with q | q
      · exact q
      · unfold aL at h2
        rw [sh_out (by omega)] at h2
        exact absurd h2 (Nat.not_lt_zero _)
    have all : ∀ a, a < 113 → 103 ≤ (shl.getD (a - 1) (999, 0)).1 → (shl.getD (a - 1) (999, 0)).1 < 999 → (a = 2 ∧ aL a = 4) ∨ (a = 33 ∧ aL a = 3) ∨ (a = 34 ∧ aL a = 3) := arr9_all
    have lt : (shl.getD (a - 1) (999, 0)).1 < 999 := by
      have h3 : ∀ a, a < 113 → (shl.getD (a - 1) (999, 0)).1 < 999 := shl9_lt
      exact h3 a ha
    rcases all a ha (by omega) lt with ⟨rfl, e⟩ | ⟨rfl, e⟩ | ⟨rfl, e⟩
    · exact bad47_o (isO_spec (h.tray j (by omega)).2).2.2 (by decide)
    · exact bad47_o (isO_spec (h.kb j (by omega)).2).2.2 (by decide)
    · exact bad47_o (isO_spec (h.kd j (by omega)).2).2.2 (by decide)
noncomputable def okas47 : List Value → Bool
  | [] => true
  | .ref a :: r => !bad47 a && okas47 r
  | _ :: r => okas47 r
theorem okas47_kv : ∀ as : List Value, okas47 as = true → kvS bad47 as := by
  intro as
  induction as with
  | nil => intro _; exact kvS.n
  | cons v r ih =>
    intro h
    cases v with
    | ref a =>
      unfold okas47 at h
      rw [Bool.and_eq_true, Bool.not_eq_true'] at h
      exact kvS.c (kvO.rf h.1) (ih h.2)
    | _ => exact kvS.c (fun _ q => by cases q) (ih h)
/-- all that reads or writes that array and is not pure: X11_luck, X11_plate, X11_plateMove, X9_addSlice, X9_firstWinning, X9_lay -/
noncomputable def dty6 : List Nat := [0, 27, 32, 40, 53, 58, 74, 85, 88, 89, 90, 91, 94, 99, 140, 141, 142, 172]
set_option maxRecDepth 100000 in
theorem cl6 : ClT pul dty6 okg47 (fun _ _ => true) := ClT.ef (by decide +kernel)
theorem kp6 {d mi n : Nat} {as : List Value} {I : Im} {J : Jm} {R : Rm} {Q : Qt} (hd : dty6.elem mi = false) (hR : RI R) (ha : okas47 as = true) (h : AM d mi n as I J R (fun x y I' J' R' => J' 47 = J 47 → Q x y I' J' R')) : AM d mi n as I J R Q :=
  AM_w (F := fun _ J' _ => J' 47 = J 47) pul_kk cl6 gf_47 stg_47 hd (okas47_kv as ha) (HRf_47 hR) rfl h
theorem kpp {d mi n : Nat} {as : List Value} {I : Im} {J : Jm} {R : Rm} {Q : Qt} (hd : pul.elem mi = true) (h : AM d mi n as I J R (fun x y I' J' R' => I' = I → J' = J → R' = R → Q x y I' J' R')) : AM d mi n as I J R Q :=
  AM_m d _ _ _ _ _ _ _ _ (fun x y I' J' R' q => q.2.2.2 q.1 q.2.1 q.2.2.1) (AM_p pul_kk d mi n as I J R _ hd h)
noncomputable def bad102 (a : Nat) : Bool := Nat.beq a 102 || (Nat.beq a 103)
noncomputable def okg102 (ci k : Nat) : Bool := !(Nat.beq ci 12 && (Nat.beq k 20 || Nat.beq k 21))
noncomputable def K102 (I : Im) (J : Jm) (I2 : Im) (J2 : Jm) : Prop := I2 102 = I 102 ∧ I2 103 = I 103
theorem K102.rf {I : Im} {J : Jm} : K102 I J I J := ⟨rfl, rfl⟩
theorem bad102_f {a : Nat} (h : bad102 a = false) : ¬ a = 102 ∧ ¬ a = 103 := by
  refine ⟨?_, ?_⟩ <;> intro q <;> subst q <;> exact absurd h (by decide)
theorem bad102_i {a : Nat} (h : ¬ a = 102 ∧ ¬ a = 103) : bad102 a = false := by
  cases q : bad102 a with
  | false => rfl
  | true =>
    unfold bad102 at q
    rw [Bool.or_eq_true] at q
    rcases q with q | q
    · exact absurd (Nat.eq_of_beq_eq_true q) h.1
    exact absurd (Nat.eq_of_beq_eq_true q) h.2
theorem bad102_o {a ci : Nat} (h : (shl.getD (a - 1) (999, 0)).1 = ci) (hc : ci < 100) : bad102 a = false := by
  refine bad102_i ⟨fun q => ?_, fun q => ?_⟩ <;> subst q
  · have : (shl.getD (102 - 1) (999, 0)).1 = 100 := rfl
    omega
  · have : (shl.getD (103 - 1) (999, 0)).1 = 100 := rfl
    omega
theorem stg_102 {I0 : Im} {J0 : Jm} : StG bad102 (fun _ _ => true) (fun I J _ => K102 I0 J0 I J) := by
  refine ⟨fun I J R o ci k x h1 h2 h3 hF => ?_, fun I J R o ci k x h1 h2 h3 hF => ?_, fun I J R a t j x h1 h2 hF => ?_, fun I J R a t j x h1 h2 hF => ?_, fun I J R a0 a1 t p q m h1 h2 hF => ?_, fun I J R a0 a1 t p q m h1 h2 hF => ?_, fun I J R o ci k x h1 h2 hF => hF⟩
  · have hb := bad102_f (bad102_o h1 h2)
    exact ⟨(uI_ne (fun q => hb.1 q.symm)).trans hF.1, (uI_ne (fun q => hb.2 q.symm)).trans hF.2⟩
  · exact hF
  · have hb := bad102_f h2
    exact ⟨(uI_ne (fun q => hb.1 q.symm)).trans hF.1, (uI_ne (fun q => hb.2 q.symm)).trans hF.2⟩
  · exact hF
  · have hb := bad102_f h2
    exact ⟨(if_neg (fun q => hb.1 q.symm)).trans hF.1, (if_neg (fun q => hb.2 q.symm)).trans hF.2⟩
  · exact hF
set_option maxRecDepth 100000 in
theorem gf_102 : ∀ o ci k, 0 < o → (shl.getD (o - 1) (999, 0)).1 = ci → fkd ci k = 4 → okg102 ci k = true → bad102 (o + fof ci k) = false := by
  have each : ∀ q ∈ fk4L, okg102 (shl.getD (q.1 - 1) (999, 0)).1 q.2 = true → bad102 (q.1 + fof (shl.getD (q.1 - 1) (999, 0)).1 q.2) = false := by decide +kernel
  have all : ∀ o, o < 113 → 0 < o → ∀ k, k < 60 → fkd (shl.getD (o - 1) (999, 0)).1 k = 4 → okg102 (shl.getD (o - 1) (999, 0)).1 k = true → bad102 (o + fof (shl.getD (o - 1) (999, 0)).1 k) = false := fun o h1 h0 k h2 h3 h4 => each (o, k) (List.contains_iff_mem.mp (fk4_all o h1 h0 k h2 h3)) h4
  intro o ci k h0 h1 h2 h3
  obtain ⟨i1, i2⟩ := fkd_in h2 (by decide)
  subst h1
  exact all o (shl_in rfl (by omega)) h0 k i2 h2 h3
set_option maxRecDepth 100000 in
theorem HRf_102 {R : Rm} (h : RI R) : HRf bad102 R := by
  constructor
  · intro o ci k h0 h1 h2
    have all : ∀ o, o < 113 → 0 < o → ∀ k, k < 60 → fkd (shl.getD (o - 1) (999, 0)).1 k = 3 → okH9 o k = true := okH9_all
    obtain ⟨i1, i2⟩ := fkd_in h2 (by decide)
    subst h1
    obtain ⟨rfl, hk⟩ := okH9_s (all o (shl_in rfl (by omega)) h0 k i2 h2)
    rcases hk with rfl | rfl | rfl | rfl
    · exact bad102_o (isO_spec h.now.1).2.2 (by decide)
    · exact bad102_o (isO_spec h.spare.1).2.2 (by decide)
    · exact bad102_o (isO_spec h.plan.1).2.2 (by decide)
    · exact bad102_o (isO_spec h.splan.1).2.2 (by decide)
  · intro a t j h1 h2
    have ha : a < 113 := by
      rcases Nat.lt_or_ge a 113 with q | q
      · exact q
      · unfold aL at h2
        rw [sh_out (by omega)] at h2
        exact absurd h2 (Nat.not_lt_zero _)
    have all : ∀ a, a < 113 → 103 ≤ (shl.getD (a - 1) (999, 0)).1 → (shl.getD (a - 1) (999, 0)).1 < 999 → (a = 2 ∧ aL a = 4) ∨ (a = 33 ∧ aL a = 3) ∨ (a = 34 ∧ aL a = 3) := arr9_all
    have lt : (shl.getD (a - 1) (999, 0)).1 < 999 := by
      have h3 : ∀ a, a < 113 → (shl.getD (a - 1) (999, 0)).1 < 999 := shl9_lt
      exact h3 a ha
    rcases all a ha (by omega) lt with ⟨rfl, e⟩ | ⟨rfl, e⟩ | ⟨rfl, e⟩
    · exact bad102_o (isO_spec (h.tray j (by omega)).2).2.2 (by decide)
    · exact bad102_o (isO_spec (h.kb j (by omega)).2).2.2 (by decide)
    · exact bad102_o (isO_spec (h.kd j (by omega)).2).2.2 (by decide)
noncomputable def okas102 : List Value → Bool
  | [] => true
  | .ref a :: r => !bad102 a && okas102 r
  | _ :: r => okas102 r
theorem okas102_kv : ∀ as : List Value, okas102 as = true → kvS bad102 as := by
  intro as
  induction as with
  | nil => intro _; exact kvS.n
  | cons v r ih =>
    intro h
    cases v with
    | ref a =>
      unfold okas102 at h
      rw [Bool.and_eq_true, Bool.not_eq_true'] at h
      exact kvS.c (kvO.rf h.1) (ih h.2)
    | _ => exact kvS.c (fun _ q => by cases q) (ih h)
/-- all that comes to the blocks and is not pure -/
noncomputable def dty102 : List Nat := [0, 27, 32, 40, 53, 58, 74, 85, 88, 94, 99, 172, 225, 228, 229, 230, 231, 232, 233, 234, 235, 236, 237, 248, 249, 250, 251, 253, 254, 257, 258, 259, 260, 261, 262, 263, 264, 265, 266, 267, 268, 269, 270, 275, 276, 277, 278, 279, 280, 281, 290, 291, 292, 293, 294, 295, 303, 305, 306, 307, 308, 310, 311, 312, 313, 315, 316, 317, 318]
set_option maxRecDepth 100000 in
theorem cl102 : ClT pul dty102 okg102 (fun _ _ => true) := ClT.ef (by decide +kernel)
theorem kp102 {d mi n : Nat} {as : List Value} {I : Im} {J : Jm} {R : Rm} {Q : Qt} (hd : dty102.elem mi = false) (hR : RI R) (ha : okas102 as = true) (h : AM d mi n as I J R (fun x y I' J' R' => K102 I J I' J' → Q x y I' J' R')) : AM d mi n as I J R Q :=
  AM_w (F := fun I' J' _ => K102 I J I' J') pul_kk cl102 gf_102 stg_102 hd (okas102_kv as ha) (HRf_102 hR) K102.rf h
end PT4x0
section PT4x1
/-! ===== two walks of one run hold at once ===== -/
theorem lgt_flt {f : Nat × Value → Bool} {k : Nat} {v : Value} : ∀ {c : Lv}, lgt c k = v → ¬ v = .null → f (k, v) = true → lgt (c.filter f) k = v := by
  intro c
  induction c with
  | nil => intro h hv _; exact absurd h.symm hv
  | cons q r ih =>
    intro h hv hf
    obtain ⟨j, w⟩ := q
    unfold lgt at h
    cases hb : Nat.beq j k with
    | true =>
      rw [hb] at h
      have hj := Nat.eq_of_beq_eq_true hb
      subst hj
      change w = v at h
      subst h
      rw [List.filter_cons, if_pos hf]
      unfold lgt
      rw [hb]; rfl
    | false =>
      rw [hb] at h
      have h2 := ih h hv hf
      rw [List.filter_cons]
      split
      · unfold lgt
        rw [hb]; exact h2
      · exact h2
theorem pk_cs {i : Nat} {r : List Nat} {lv : Lv} {v : Value} (h : lgt lv i = v) (hv : ¬ v = .null) : pk (i :: r) lv = (i, v) :: pk r lv := by
  conv => lhs; unfold pk
  rw [h]
  cases v <;> first | rfl | exact absurd rfl hv
theorem pk_nl {i : Nat} {r : List Nat} {lv : Lv} (h : lgt lv i = .null) : pk (i :: r) lv = pk r lv := by
  conv => lhs; unfold pk
  rw [h]
noncomputable def nnl (v : Value) : Bool := match v with
  | .null => false
  | _ => true
theorem nnl_t {v : Value} (h : ¬ v = .null) : nnl v = true := by
  cases v <;> first | rfl | exact absurd rfl h
theorem pk_flt {f : Nat × Value → Bool} {c : Lv} : ∀ ks : List Nat, (pk ks c).filter f = pk (ks.filter (fun k => nnl (lgt c k) && f (k, lgt c k))) (c.filter f) := by
  intro ks
  induction ks with
  | nil => rfl
  | cons k r ih =>
    by_cases q : lgt c k = .null
    · rw [pk_nl q, ih, List.filter_cons, if_neg (by rw [q]; exact fun z => absurd (show false = true from z) (by decide))]
    · rw [pk_cs rfl q, List.filter_cons, List.filter_cons, nnl_t q, Bool.true_and]
      by_cases q2 : f (k, lgt c k) = true
      · rw [if_pos q2, if_pos q2, pk_cs (lgt_flt rfl q q2) q, ih]
      · rw [if_neg q2, if_neg q2, ih]
theorem pk_hd {i : Nat} {v : Value} {c : Lv} : ∀ ks : List Nat, (∀ k ∈ ks, ¬ k = i) → pk ks ((i, v) :: c) = pk ks c := by
  intro ks
  induction ks with
  | nil => intro _; rfl
  | cons k r ih =>
    intro h
    have hb : Nat.beq i k = false := by
      cases e : Nat.beq i k with
      | false => rfl
      | true => exact absurd (Nat.eq_of_beq_eq_true e).symm (h k List.mem_cons_self)
    have e : lgt ((i, v) :: c) k = lgt c k := by
      conv => lhs; unfold lgt
      rw [hb]; rfl
    have ih2 := ih (fun k hk => h k (List.mem_cons_of_mem _ hk))
    by_cases q : lgt c k = .null
    · rw [pk_nl q, pk_nl (e.trans q), ih2]
    · rw [pk_cs rfl q, pk_cs e q, ih2]
theorem lgt_pk {c : Lv} {k : Nat} : ∀ ks : List Nat, lgt (pk ks c) k = if k ∈ ks then lgt c k else .null := by
  intro ks
  induction ks with
  | nil => rfl
  | cons j r ih =>
    by_cases q : lgt c j = .null
    · rw [pk_nl q, ih]
      by_cases z : k = j
      · subst z
        rw [if_pos List.mem_cons_self, q]
        split <;> rfl
      · by_cases z2 : k ∈ r
        · rw [if_pos z2, if_pos (List.mem_cons_of_mem _ z2)]
        · rw [if_neg z2, if_neg (fun w => (List.mem_cons.mp w).elim z z2)]
    · rw [pk_cs rfl q]
      by_cases z : k = j
      · subst z
        rw [if_pos List.mem_cons_self]
        show (bif Nat.beq k k then lgt c k else lgt (pk r c) k) = lgt c k
        rw [Nat.beq_refl k]; rfl
      · have hb : Nat.beq j k = false := by
          cases e : Nat.beq j k with
          | false => rfl
          | true => exact absurd (Nat.eq_of_beq_eq_true e).symm z
        conv => lhs; unfold lgt
        rw [hb]
        show lgt (pk r c) k = _
        rw [ih]
        by_cases z2 : k ∈ r
        · rw [if_pos z2, if_pos (List.mem_cons_of_mem _ z2)]
        · rw [if_neg z2, if_neg (fun w => (List.mem_cons.mp w).elim z z2)]
/-- some of the locals -/
noncomputable def Sub (a c : Lv) : Prop := a = c ∨ ∃ ks, a = pk ks c
theorem Sub.rf {a : Lv} : Sub a a := Or.inl rfl
theorem pk_pk {c : Lv} {ks : List Nat} : ∀ js : List Nat, pk js (pk ks c) = pk (js.filter (fun j => decide (j ∈ ks))) c := by
  intro js
  induction js with
  | nil => rfl
  | cons j r ih =>
    have e := lgt_pk (c := c) (k := j) ks
    by_cases z : j ∈ ks
    · rw [if_pos z] at e
      rw [List.filter_cons, if_pos (by simpa using z)]
      by_cases q : lgt c j = .null
      · rw [pk_nl (e.trans q), pk_nl q, ih]
      · rw [pk_cs e q, pk_cs rfl q, ih]
    · rw [if_neg z] at e
      rw [List.filter_cons, if_neg (by simpa using z), pk_nl e, ih]
theorem Sub.k {a c : Lv} (h : Sub a c) (js : List Nat) : Sub (pk js a) c := by
  rcases h with rfl | ⟨ks, rfl⟩
  · exact Or.inr ⟨js, rfl⟩
  · exact Or.inr ⟨_, pk_pk js⟩
theorem Sub.tr {a b c : Lv} (h : Sub a b) (h2 : Sub b c) : Sub a c := by
  rcases h with rfl | ⟨ks, rfl⟩
  · exact h2
  · exact h2.k ks
theorem Sub.g {a c : Lv} (h : Sub a c) {i : Nat} {v : Value} (e : lgt a i = v) (hv : ¬ v = .null) : lgt c i = v := by
  rcases h with rfl | ⟨ks, rfl⟩
  · exact e
  · rw [lgt_pk] at e
    split at e
    · exact e
    · exact absurd e.symm hv
theorem Sub.fl {a c : Lv} (h : Sub a c) {i : Nat} {v : Value} {f : Nat × Value → Bool} (hv : ¬ v = .null) (hf : ∀ q, f q = true → ¬ q.1 = i) : Sub ((i, v) :: a.filter f) ((i, v) :: c.filter f) := by
  rcases h with rfl | ⟨ks, rfl⟩
  · exact Sub.rf
  · refine Or.inr ⟨i :: ks.filter (fun k => nnl (lgt c k) && f (k, lgt c k)), ?_⟩
    have hb : lgt ((i, v) :: c.filter f) i = v := by
      unfold lgt
      rw [show Nat.beq i i = true from Nat.beq_refl i]; rfl
    rw [pk_cs hb hv, pk_flt, pk_hd]
    intro k hk
    have := (List.mem_filter.mp hk).2
    rw [Bool.and_eq_true] at this
    exact hf _ this.2
theorem Sub.p {a c : Lv} (h : Sub a c) {i : Nat} {v : Value} (hv : ¬ v = .null) : Sub (lpt a i v) (lpt c i v) := h.fl hv (fun q hq => by
  rw [Bool.and_eq_true] at hq
  simpa using hq.1)
theorem Sub.p2 {a c : Lv} (h : Sub a c) {i : Nat} {v : Value} (hv : ¬ v = .null) : Sub (lpt2 a i v) (lpt2 c i v) := h.fl hv (fun q hq => by
  rw [Bool.and_eq_true] at hq
  simpa using hq.1)
theorem cond_2 {b : Bool} {p p' p'' q q' q'' : Prop} (k1 : p → p' → p'') (k2 : q → q' → q'') (h : bif b then p else q) (h2 : bif b then p' else q') : bif b then p'' else q'' := by
  cases b
  · exact k2 h h2
  · exact k1 h h2
theorem f_2 {q : Prop} (h : False) (_ : False) : q := h.elim
theorem and_2 {a b b' b'' : Prop} (k : b → b' → b'') (h : a ∧ b) (h2 : a ∧ b') : a ∧ b'' := ⟨h.1, k h.2 h2.2⟩
theorem sI_2 {st : List Value} {f g k : Int32 → List Value → Prop} (hm : ∀ x r, f x r → g x r → k x r) (h : sI st f) (h2 : sI st g) : sI st k := by
  unfold sI at h h2 ⊢
  split at h
  · exact hm _ _ h h2
  · exact h.elim
theorem sII_2 {st : List Value} {f g k : Int32 → Int32 → List Value → Prop} (hm : ∀ x y r, f x y r → g x y r → k x y r) (h : sII st f) (h2 : sII st g) : sII st k := by
  unfold sII at h h2 ⊢
  split at h
  · exact hm _ _ _ h h2
  · exact h.elim
theorem sL_2 {st : List Value} {f g k : Int64 → List Value → Prop} (hm : ∀ x r, f x r → g x r → k x r) (h : sL st f) (h2 : sL st g) : sL st k := by
  unfold sL at h h2 ⊢
  split at h
  · exact hm _ _ h h2
  · exact h.elim
theorem sLL_2 {st : List Value} {f g k : Int64 → Int64 → List Value → Prop} (hm : ∀ x y r, f x y r → g x y r → k x y r) (h : sLL st f) (h2 : sLL st g) : sLL st k := by
  unfold sLL at h h2 ⊢
  split at h
  · exact hm _ _ _ h h2
  · exact h.elim
theorem sLI_2 {st : List Value} {f g k : Int64 → Int32 → List Value → Prop} (hm : ∀ x y r, f x y r → g x y r → k x y r) (h : sLI st f) (h2 : sLI st g) : sLI st k := by
  unfold sLI at h h2 ⊢
  split at h
  · exact hm _ _ _ h h2
  · exact h.elim
theorem sR_2 {st : List Value} {f g k : Nat → List Value → Prop} (hm : ∀ a r, f a r → g a r → k a r) (h : sR st f) (h2 : sR st g) : sR st k := by
  unfold sR at h h2 ⊢
  split at h
  · exact hm _ _ h h2
  · exact h.elim
theorem sRI_2 {st : List Value} {f g k : Nat → Int32 → List Value → Prop} (hm : ∀ a x r, f a x r → g a x r → k a x r) (h : sRI st f) (h2 : sRI st g) : sRI st k := by
  unfold sRI at h h2 ⊢
  split at h
  · exact hm _ _ _ h h2
  · exact h.elim
theorem sRL_2 {st : List Value} {f g k : Nat → Int64 → List Value → Prop} (hm : ∀ a x r, f a x r → g a x r → k a x r) (h : sRL st f) (h2 : sRL st g) : sRL st k := by
  unfold sRL at h h2 ⊢
  split at h
  · exact hm _ _ _ h h2
  · exact h.elim
theorem sRR_2 {st : List Value} {f g k : Nat → Nat → List Value → Prop} (hm : ∀ a v r, f a v r → g a v r → k a v r) (h : sRR st f) (h2 : sRR st g) : sRR st k := by
  unfold sRR at h h2 ⊢
  split at h
  · exact hm _ _ _ h h2
  · exact h.elim
theorem sRII_2 {st : List Value} {f g k : Nat → Int32 → Int32 → List Value → Prop} (hm : ∀ a i x r, f a i x r → g a i x r → k a i x r) (h : sRII st f) (h2 : sRII st g) : sRII st k := by
  unfold sRII at h h2 ⊢
  split at h
  · exact hm _ _ _ _ h h2
  · exact h.elim
theorem sRIL_2 {st : List Value} {f g k : Nat → Int32 → Int64 → List Value → Prop} (hm : ∀ a i x r, f a i x r → g a i x r → k a i x r) (h : sRIL st f) (h2 : sRIL st g) : sRIL st k := by
  unfold sRIL at h h2 ⊢
  split at h
  · exact hm _ _ _ _ h h2
  · exact h.elim
theorem sRIR_2 {st : List Value} {f g k : Nat → Int32 → Nat → List Value → Prop} (hm : ∀ a i v r, f a i v r → g a i v r → k a i v r) (h : sRIR st f) (h2 : sRIR st g) : sRIR st k := by
  unfold sRIR at h h2 ⊢
  split at h
  · exact hm _ _ _ _ h h2
  · exact h.elim
theorem sCpy_2 {st : List Value} {f g k : Nat → Int32 → Nat → Int32 → Int32 → List Value → Prop} (hm : ∀ a sp a1 dp n r, f a sp a1 dp n r → g a sp a1 dp n r → k a sp a1 dp n r) (h : sCpy st f) (h2 : sCpy st g) : sCpy st k := by
  unfold sCpy at h h2 ⊢
  split at h
  · exact hm _ _ _ _ _ _ h h2
  · exact h.elim
theorem lI_2 {a b c : Lv} {i : Nat} {f g k : Int32 → Prop} (ha : Sub a c) (hb : Sub b c) (hm : ∀ x, f x → g x → k x) (h : lI a i f) (h2 : lI b i g) : lI c i k := by
  unfold lI at h h2 ⊢
  split at h
  · rename_i x e
    split at h2
    · rename_i y e2
      have e3 := ha.g e (by intro q; cases q)
      have e4 := hb.g e2 (by intro q; cases q)
      rw [e3] at e4 ⊢
      cases e4
      exact hm _ h h2
    · exact h2.elim
  · exact h.elim
theorem lL_2 {a b c : Lv} {i : Nat} {f g k : Int64 → Prop} (ha : Sub a c) (hb : Sub b c) (hm : ∀ x, f x → g x → k x) (h : lL a i f) (h2 : lL b i g) : lL c i k := by
  unfold lL at h h2 ⊢
  split at h
  · rename_i x e
    split at h2
    · rename_i y e2
      have e3 := ha.g e (by intro q; cases q)
      have e4 := hb.g e2 (by intro q; cases q)
      rw [e3] at e4 ⊢
      cases e4
      exact hm _ h h2
    · exact h2.elim
  · exact h.elim
theorem lR_2 {a b c : Lv} {i : Nat} {f g k : Nat → Prop} (ha : Sub a c) (hb : Sub b c) (hm : ∀ x, f x → g x → k x) (h : lR a i f) (h2 : lR b i g) : lR c i k := by
  unfold lR at h h2 ⊢
  split at h
  · rename_i x e
    split at h2
    · rename_i y e2
      have e3 := ha.g e (by intro q; cases q)
      have e4 := hb.g e2 (by intro q; cases q)
      rw [e3] at e4 ⊢
      cases e4
      exact hm _ h h2
    · exact h2.elim
  · exact h.elim
theorem icz_2 {c : Jvm.ClassFile.Cond} {x : Int32} {T F T1 F1 T2 F2 : Prop} (k1 : T → T1 → T2) (k2 : F → F1 → F2) (h : icz c x T F) (g : icz c x T1 F1) : icz c x T2 F2 := by
  cases c <;> exact ⟨fun q => by first | exact k1 (h.1 q) (g.1 q) | exact k2 (h.1 q) (g.1 q), fun q => by first | exact k1 (h.2 q) (g.2 q) | exact k2 (h.2 q) (g.2 q)⟩
theorem icc_2 {c : Jvm.ClassFile.Cond} {x y : Int32} {T F T1 F1 T2 F2 : Prop} (k1 : T → T1 → T2) (k2 : F → F1 → F2) (h : icc c x y T F) (g : icc c x y T1 F1) : icc c x y T2 F2 := by
  cases c <;> exact ⟨fun q => by first | exact k1 (h.1 q) (g.1 q) | exact k2 (h.1 q) (g.1 q), fun q => by first | exact k1 (h.2 q) (g.2 q) | exact k2 (h.2 q) (g.2 q)⟩
theorem swT_2 {T T1 T2 : Nat → Prop} {d d1 d2 : Prop} (k1 : ∀ t, T t → T1 t → T2 t) (k2 : d → d1 → d2) : ∀ (ks : List Int32) (ts : List Nat) (x : Int32), swT ks ts x T d → swT ks ts x T1 d1 → swT ks ts x T2 d2
  | [], _, _, h, g => k2 h g
  | _ :: _, [], _, h, g => k2 h g
  | _ :: ks, _ :: ts, x, h, g => ⟨fun q => k1 _ (h.1 q) (g.1 q), fun q => swT_2 k1 k2 ks ts x (h.2 q) (g.2 q)⟩
theorem bf_2 {rk : Nat} {x : Int32} {P P1 P2 : Prop} (k : P → P1 → P2) (h : bf rk x P) (g : bf rk x P1) : bf rk x P2 := cond_2 (fun q1 q2 z => k (q1 z) (q2 z)) k h g
/-- what holds of a run by two ways holds at once -/
noncomputable def Conj (M : Mc) : Prop := ∀ (mi n : Nat) (as : List Value) (I : Im) (J : Jm) (R : Rm) (Q Q1 Q2 : Qt), (∀ x y I J R, Q x y I J R → Q1 x y I J R → Q2 x y I J R) → M mi n as I J R Q → M mi n as I J R Q1 → M mi n as I J R Q2
theorem cal_2 {M : Mc} (hM : Conj M) {ph : Bool} {nend : Nat} {K K1 K2 : Kt} {a b c : Lv} (hK : ∀ pc n st I J R, K pc n a st I J R → K1 pc n b st I J R → K2 pc n c st I J R) {pc n : Nat} {st : List Value} {I : Im} {J : Jm} {R : Rm} {kind mi na rk al ci ph1 kr : Nat} (h : cal M ph nend K pc n a st I J R kind mi na rk al ci ph1 kr) (g : cal M ph nend K1 pc n b st I J R kind mi na rk al ci ph1 kr) : cal M ph nend K2 pc n c st I J R kind mi na rk al ci ph1 kr :=
  cond_2 (cond_2 (and_2 (hM _ _ _ _ _ _ _ _ _ (fun x y I J R => bf_2 (hK _ _ _ _ _ _)))) (hM _ _ _ _ _ _ _ _ _ (fun x y I J R => bf_2 (hK _ _ _ _ _ _)))) f_2 h g
theorem fgt_2 {n : Nat} {ph : Bool} {ci k kd of : Nat} {st : List Value} {I : Im} {J : Jm} {R : Rm} {K K1 K2 : List Value → Prop} (hK : ∀ r, K r → K1 r → K2 r) (h : fgt n ph ci k kd of st I J R K) (g : fgt n ph ci k kd of st I J R K1) : fgt n ph ci k kd of st I J R K2 := by
  refine sR_2 (fun o r => cond_2 (fun q q2 => ?_) f_2) h g
  rcases kd with _ | _ | _ | _ | _ | kd
  · exact hK _ q q2
  · exact hK _ q q2
  · exact hK _ q q2
  · exact and_2 (hK _) q q2
  · exact cond_2 (hK _) (and_2 (hK _)) q q2
  · exact q
theorem fpt_2 {n : Nat} {ph : Bool} {ci k kd of : Nat} {st : List Value} {I : Im} {J : Jm} {R : Rm} {K K1 K2 : List Value → Im → Jm → Rm → Prop} (hK : ∀ r I J R, K r I J R → K1 r I J R → K2 r I J R) (h : fpt n ph ci k kd of st I J R K) (g : fpt n ph ci k kd of st I J R K1) : fpt n ph ci k kd of st I J R K2 := by
  rcases kd with _ | _ | _ | _ | _ | kd
  · exact sRI_2 (fun o x r => cond_2 (hK _ _ _ _) f_2) h g
  · exact sRI_2 (fun o x r => cond_2 (and_2 (hK _ _ _ _)) f_2) h g
  · exact sRL_2 (fun o x r => cond_2 (hK _ _ _ _) f_2) h g
  · exact sRR_2 (fun o x r => cond_2 (and_2 (hK _ _ _ _)) f_2) h g
  · exact sRR_2 (fun o x r => cond_2 (cond_2 f_2 (cond_2 (hK _ _ _ _) f_2)) f_2) h g
  · exact h
set_option maxHeartbeats 4000000 in
theorem stI_2 {M : Mc} (hM : Conj M) {ph isl : Bool} {L : Nat} {xs : Nat → Int32} {rk nend : Nat} {Q Q1 Q2 : Nat → Qt} (hQ : ∀ n x y I J R, Q n x y I J R → Q1 n x y I J R → Q2 n x y I J R) {K K1 K2 : Kt} (hK : ∀ pc n a b c st I J R, Sub a c → Sub b c → K pc n a st I J R → K1 pc n b st I J R → K2 pc n c st I J R) {pc : Nat} {ax : List Nat} {ks : List Int32} {lz : Int64} {n : Nat} {a b c : Lv} (ha : Sub a c) (hb : Sub b c) {st : List Value} {I : Im} {J : Jm} {R : Rm} (i : Jvm.ClassFile.Instr) (h : stI M ph isl L xs rk nend Q K pc ax ks lz n a st I J R i) (g : stI M ph isl L xs rk nend Q1 K1 pc ax ks lz n b st I J R i) : stI M ph isl L xs rk nend Q2 K2 pc ax ks lz n c st I J R i := by
  have k0 : ∀ {pc n st I J R}, K pc n a st I J R → K1 pc n b st I J R → K2 pc n c st I J R := fun h g => hK _ _ _ _ _ _ _ _ _ ha hb h g
  cases i with
  | iconst _ =>
    exact k0 h g
  | bipush _ =>
    exact k0 h g
  | sipush _ =>
    exact k0 h g
  | ldc _ =>
    exact k0 h g
  | ldc_w _ =>
    exact k0 h g
  | ldc2_w _ =>
    exact k0 h g
  | lconst _ =>
    exact k0 h g
  | goto _ =>
    exact k0 h g
  | iload_n _ =>
    exact lI_2 ha hb (fun x => k0) h g
  | iload _ =>
    exact lI_2 ha hb (fun x => k0) h g
  | lload_n _ =>
    exact lL_2 ha hb (fun x => k0) h g
  | lload _ =>
    exact lL_2 ha hb (fun x => k0) h g
  | aload_n _ =>
    exact lR_2 ha hb (fun x => k0) h g
  | aload _ =>
    exact lR_2 ha hb (fun x => k0) h g
  | istore_n _ =>
    exact sI_2 (fun x r => hK _ _ _ _ _ _ _ _ _ (ha.p (by intro q; cases q)) (hb.p (by intro q; cases q))) h g
  | istore _ =>
    exact sI_2 (fun x r => hK _ _ _ _ _ _ _ _ _ (ha.p (by intro q; cases q)) (hb.p (by intro q; cases q))) h g
  | lstore_n _ =>
    exact sL_2 (fun x r => hK _ _ _ _ _ _ _ _ _ (ha.p2 (by intro q; cases q)) (hb.p2 (by intro q; cases q))) h g
  | lstore _ =>
    exact sL_2 (fun x r => hK _ _ _ _ _ _ _ _ _ (ha.p2 (by intro q; cases q)) (hb.p2 (by intro q; cases q))) h g
  | astore_n _ =>
    exact sR_2 (fun x r => hK _ _ _ _ _ _ _ _ _ (ha.p (by intro q; cases q)) (hb.p (by intro q; cases q))) h g
  | astore _ =>
    exact sR_2 (fun x r => hK _ _ _ _ _ _ _ _ _ (ha.p (by intro q; cases q)) (hb.p (by intro q; cases q))) h g
  | iinc _ _ =>
    exact lI_2 ha hb (fun x => hK _ _ _ _ _ _ _ _ _ (ha.p (by intro q; cases q)) (hb.p (by intro q; cases q))) h g
  | iadd =>
    exact sII_2 (fun x y r => k0) h g
  | isub =>
    exact sII_2 (fun x y r => k0) h g
  | imul =>
    exact sII_2 (fun x y r => k0) h g
  | iand =>
    exact sII_2 (fun x y r => k0) h g
  | ior =>
    exact sII_2 (fun x y r => k0) h g
  | ixor =>
    exact sII_2 (fun x y r => k0) h g
  | ishl =>
    exact sII_2 (fun x y r => k0) h g
  | ishr =>
    exact sII_2 (fun x y r => k0) h g
  | iushr =>
    exact sII_2 (fun x y r => k0) h g
  | idiv =>
    exact sII_2 (fun x y r => and_2 k0) h g
  | irem =>
    exact sII_2 (fun x y r => and_2 k0) h g
  | ladd =>
    exact sLL_2 (fun x y r => k0) h g
  | lsub =>
    exact sLL_2 (fun x y r => k0) h g
  | lmul =>
    exact sLL_2 (fun x y r => k0) h g
  | land =>
    exact sLL_2 (fun x y r => k0) h g
  | lor =>
    exact sLL_2 (fun x y r => k0) h g
  | lcmp =>
    exact sLL_2 (fun x y r => k0) h g
  | ldiv =>
    exact sLL_2 (fun x y r => and_2 k0) h g
  | lrem =>
    exact sLL_2 (fun x y r => and_2 k0) h g
  | lneg =>
    exact sL_2 (fun x r => k0) h g
  | l2i =>
    exact sL_2 (fun x r => k0) h g
  | pop2 =>
    exact sL_2 (fun x r => k0) h g
  | lshl =>
    exact sLI_2 (fun x y r => k0) h g
  | i2l =>
    exact sI_2 (fun x r => k0) h g
  | i2b =>
    exact sI_2 (fun x r => k0) h g
  | i2s =>
    exact sI_2 (fun x r => k0) h g
  | dup =>
    unfold stI at h g ⊢
    dsimp only at h g ⊢
    split at h
    · exact k0 h g
    · exact k0 h g
    · exact h.elim
  | pop =>
    unfold stI at h g ⊢
    dsimp only at h g ⊢
    split at h
    · exact k0 h g
    · exact k0 h g
    · exact h.elim
  | dup2 =>
    unfold stI at h g ⊢
    dsimp only at h g ⊢
    split at h
    · exact k0 h g
    · exact h.elim
  | ifCond _ _ =>
    exact sI_2 (fun x r => icz_2 k0 k0) h g
  | if_icmp _ _ =>
    exact sII_2 (fun x y r => icc_2 k0 k0) h g
  | tableswitch _ _ _ _ =>
    exact sI_2 (fun x r => swT_2 (fun t => k0) k0 _ _ _) h g
  | lookupswitch _ _ =>
    exact sI_2 (fun x r => swT_2 (fun t => k0) k0 _ _ _) h g
  | getfield _ =>
    unfold stI at h g ⊢
    dsimp only at h g ⊢
    split at h
    · exact fgt_2 (fun r => k0) h g
    · exact h.elim
  | putfield _ =>
    unfold stI at h g ⊢
    dsimp only at h g ⊢
    split at h
    · exact fpt_2 (fun r I J R => k0) h g
    · exact h.elim
  | iaload =>
    exact sRI_2 (fun a x r => cond_2 (and_2 k0) (cond_2 (and_2 k0) f_2)) h g
  | baload =>
    exact sRI_2 (fun a x r => cond_2 (and_2 k0) f_2) h g
  | laload =>
    exact sRI_2 (fun a x r => cond_2 (and_2 k0) f_2) h g
  | aaload =>
    unfold stI at h g ⊢
    dsimp only at h g ⊢
    split at h
    · exact sRI_2 (fun a x r => cond_2 (and_2 (and_2 k0)) f_2) h g
    · exact h.elim
  | iastore =>
    exact sRII_2 (fun a i x r => cond_2 (and_2 k0) f_2) h g
  | bastore =>
    exact sRII_2 (fun a i x r => cond_2 (and_2 k0) f_2) h g
  | lastore =>
    exact sRIL_2 (fun a i x r => cond_2 (and_2 k0) f_2) h g
  | aastore =>
    unfold stI at h g ⊢
    dsimp only at h g ⊢
    split at h
    · exact sRIR_2 (fun a i x r => cond_2 (and_2 k0) f_2) h g
    · exact h.elim
  | arraylength =>
    exact sR_2 (fun a r => cond_2 k0 (cond_2 k0 (cond_2 k0 f_2))) h g
  | new _ =>
    unfold stI at h g ⊢
    dsimp only at h g ⊢
    split at h
    · exact cond_2 k0 f_2 h g
    · exact h.elim
  | newarray _ =>
    unfold stI at h g ⊢
    dsimp only at h g ⊢
    split at h
    · exact sI_2 (fun x r => cond_2 (and_2 k0) f_2) h g
    · exact h.elim
  | anewarray _ =>
    unfold stI at h g ⊢
    dsimp only at h g ⊢
    split at h
    · exact sI_2 (fun x r => cond_2 (and_2 k0) f_2) h g
    · exact h.elim
  | invokevirtual _ =>
    unfold stI at h g ⊢
    dsimp only at h g ⊢
    split at h
    · exact cond_2 (cal_2 hM (fun _ _ _ _ _ _ => k0)) f_2 h g
    · exact h.elim
  | invokespecial _ =>
    unfold stI at h g ⊢
    dsimp only at h g ⊢
    split at h
    · exact cond_2 (cal_2 hM (fun _ _ _ _ _ _ => k0)) f_2 h g
    · exact sR_2 (fun a r => cond_2 k0 f_2) h g
    · exact h.elim
  | invokestatic _ =>
    unfold stI at h g ⊢
    dsimp only at h g ⊢
    split at h
    · exact cond_2 (cal_2 hM (fun _ _ _ _ _ _ => k0)) f_2 h g
    · try dsimp only at h g ⊢
      split at h
      · exact sCpy_2 (fun a sp a1 dp n r => cond_2 (and_2 k0) f_2) h g
      · exact sCpy_2 (fun a sp a1 dp n r => cond_2 (and_2 k0) f_2) h g
      · exact sII_2 (fun x y r => cond_2 k0 f_2) h g
      · exact sII_2 (fun x y r => cond_2 k0 f_2) h g
      · exact sL_2 (fun x r => cond_2 k0 f_2) h g
      · exact h.elim
    · exact h.elim
  | return_ =>
    refine cond_2 (fun h g => ?_) f_2 h g
    try dsimp only at h g ⊢
    split at h
    · exact hQ _ _ _ _ _ _ h g
    · exact h.elim
  | lreturn =>
    refine cond_2 (fun h g => ?_) f_2 h g
    try dsimp only at h g ⊢
    split at h
    · exact hQ _ _ _ _ _ _ h g
    · exact h.elim
  | ireturn =>
    refine cond_2 (fun h g => ?_) (cond_2 (fun h g => ?_) f_2) h g
    · try dsimp only at h g ⊢
      split at h
      · exact hQ _ _ _ _ _ _ h g
      · exact h.elim
    · try dsimp only at h g ⊢
      split at h
      · exact ⟨h.1, hQ _ _ _ _ _ _ h.2 g.2⟩
      · exact h.elim
  | _ => exact h.elim
/-- each place of a code stands once -/
noncomputable def onc : List En → Bool
  | [] => true
  | e :: r => r.all (fun q => Nat.blt e.1 q.1) && onc r
theorem onc_s {code : List En} (h : onc code = true) : ∀ e ∈ code, ∀ q ∈ code, e.1 = q.1 → e = q := by
  induction code with
  | nil => intro e he; cases he
  | cons x r ih =>
    unfold onc at h
    rw [Bool.and_eq_true] at h
    have lt : ∀ q ∈ r, x.1 < q.1 := fun q hq => Nat.le_of_ble_eq_true (List.all_eq_true.mp h.1 q hq)
    intro e he q hq heq
    rcases List.mem_cons.mp he with h1 | h1
    · rcases List.mem_cons.mp hq with h2 | h2
      · rw [h1, h2]
      · have := lt q h2; rw [h1] at heq; omega
    · rcases List.mem_cons.mp hq with h2 | h2
      · have := lt e h1; rw [h2] at heq; omega
      · exact ih h.2 e h1 q h2 heq
theorem AW_st {M : Mc} {ph isl : Bool} {L : Nat} {xs : Nat → Int32} {rk nend : Nat} {code : List En} {Q : Nat → Qt} {n : Nat} {lv : Lv} {st : List Value} {I : Im} {J : Jm} {R : Rm} (hM : Mono M) {e : En} (he : e ∈ code) (h : stI M ph isl L xs rk nend Q (fun pc n lv st I J R => AW M ph isl L xs rk nend code Q pc n lv st I J R) e.1 e.2.2.2.1 e.2.2.2.2.1 e.2.2.2.2.2 n lv st I J R e.2.1) : AW M ph isl L xs rk nend code Q e.1 n lv st I J R := fun P hP => hP.1 e he n lv st I J R (stI_m hM (fun _ _ _ _ _ _ q => q) (fun _ _ _ _ _ _ _ q => q P hP) _ h)
theorem AW_x {M : Mc} (hM : Mono M) (hC : Conj M) {ph isl : Bool} {L : Nat} {xs : Nat → Int32} {rk nend : Nat} {code : List En} {Q : Nat → Qt} {pc n : Nat} {b c : Lv} {st : List Value} {I : Im} {J : Jm} {R : Rm} (h : AW M ph isl L xs rk nend code Q pc n b st I J R) (hbc : Sub b c) : AW M ph isl L xs rk nend code Q pc n c st I J R := by
  refine h (fun pc n b st I J R => ∀ c, Sub b c → AW M ph isl L xs rk nend code Q pc n c st I J R) ⟨fun e he n b st I J R hs c hbc => ?_, fun pc n ks lv st I J R q c hc => q c (hc.k ks)⟩ c hbc
  exact AW_st hM he (stI_2 (K1 := fun pc n b st I J R => ∀ c, Sub b c → AW M ph isl L xs rk nend code Q pc n c st I J R) (Q1 := Q) hC (fun _ _ _ _ _ _ q _ => q) (fun pc n a b c st I J R hac _ k1 _ => k1 c hac) hbc hbc _ hs hs)
theorem AW_inv {M : Mc} (hM : Mono M) (hC : Conj M) {ph isl : Bool} {L : Nat} {xs : Nat → Int32} {rk nend : Nat} {code : List En} (ho : onc code = true) {Q : Nat → Qt} {pc n : Nat} {c : Lv} {st : List Value} {I : Im} {J : Jm} {R : Rm} (h : AW M ph isl L xs rk nend code Q pc n c st I J R) : ∀ q ∈ code, q.1 = pc → stI M ph isl L xs rk nend Q (fun pc n lv st I J R => AW M ph isl L xs rk nend code Q pc n lv st I J R) q.1 q.2.2.2.1 q.2.2.2.2.1 q.2.2.2.2.2 n c st I J R q.2.1 := by
  have key := h (fun pc n b st I J R => AW M ph isl L xs rk nend code Q pc n b st I J R ∧ ∀ c, Sub b c → ∀ q ∈ code, q.1 = pc → stI M ph isl L xs rk nend Q (fun pc n lv st I J R => AW M ph isl L xs rk nend code Q pc n lv st I J R) q.1 q.2.2.2.1 q.2.2.2.2.1 q.2.2.2.2.2 n c st I J R q.2.1) ⟨fun e he n b st I J R hs => ?_, fun pc n ks lv st I J R q => ⟨AW_x hM hC q.1 (Or.inr ⟨ks, rfl⟩), fun c hc => q.2 c (hc.k ks)⟩⟩
  · exact key.2 c Sub.rf
  · have hs2 := stI_m hM (Q' := Q) (fun _ _ _ _ _ _ q => q) (K' := fun pc n lv st I J R => AW M ph isl L xs rk nend code Q pc n lv st I J R) (fun _ _ _ _ _ _ _ q => q.1) _ hs
    refine ⟨AW_st hM he hs2, fun c hbc q hq e2 => ?_⟩
    have := onc_s ho q hq e he e2
    rw [this]
    exact stI_2 (K := fun pc n lv st I J R => AW M ph isl L xs rk nend code Q pc n lv st I J R) (K1 := fun pc n lv st I J R => AW M ph isl L xs rk nend code Q pc n lv st I J R) (Q1 := Q) hC (fun _ _ _ _ _ _ q _ => q) (fun pc n a b c st I J R hac _ k1 _ => AW_x hM hC k1 hac) hbc hbc _ hs2 hs2
theorem AW_2 {M : Mc} (hM : Mono M) (hC : Conj M) {ph isl : Bool} {L : Nat} {xs : Nat → Int32} {rk nend : Nat} {code : List En} (ho : onc code = true) {Q Q1 Q2 : Nat → Qt} (hQ : ∀ n x y I J R, Q n x y I J R → Q1 n x y I J R → Q2 n x y I J R) {pc n : Nat} {lv : Lv} {st : List Value} {I : Im} {J : Jm} {R : Rm} (h : AW M ph isl L xs rk nend code Q pc n lv st I J R) (g : AW M ph isl L xs rk nend code Q1 pc n lv st I J R) : AW M ph isl L xs rk nend code Q2 pc n lv st I J R := by
  have key := h (fun pc n a st I J R => ∀ c, Sub a c → AW M ph isl L xs rk nend code Q1 pc n c st I J R → AW M ph isl L xs rk nend code Q2 pc n c st I J R) ⟨fun e he n a st I J R hs c hac hg => ?_, fun pc n ks lv st I J R q c hc hg => q c (hc.k ks) hg⟩
  · exact key lv Sub.rf g
  · exact AW_st hM he (stI_2 (K1 := fun pc n lv st I J R => AW M ph isl L xs rk nend code Q1 pc n lv st I J R) hC hQ (fun pc n a b c st I J R hac hbc k1 k2 => k1 c hac (AW_x hM hC k2 hbc)) hac Sub.rf _ hs (AW_inv hM hC ho hg e he rfl))
/-- the places rise -/
noncomputable def inc9 : List En → Bool
  | [] => true
  | e :: r => (match r with
    | [] => true
    | q :: _ => Nat.blt e.1 q.1) && inc9 r
theorem inc9_lt : ∀ (r : List En) (e : En), inc9 (e :: r) = true → ∀ q ∈ r, e.1 < q.1 := by
  intro r
  induction r with
  | nil => intro e _ q hq; cases hq
  | cons x r ih =>
    intro e h q hq
    have h' : (Nat.blt e.1 x.1 && inc9 (x :: r)) = true := h
    rw [Bool.and_eq_true] at h'
    have h1 : e.1 < x.1 := Nat.le_of_ble_eq_true h'.1
    rcases List.mem_cons.mp hq with q1 | q1
    · rw [q1]; exact h1
    · exact Nat.lt_trans h1 (ih x h'.2 q q1)
theorem inc9_o : ∀ code, inc9 code = true → onc code = true := by
  intro code
  induction code with
  | nil => intro _; rfl
  | cons e r ih =>
    intro h
    have h2 : inc9 r = true := by
      cases r with
      | nil => rfl
      | cons x r =>
        have h' : (Nat.blt e.1 x.1 && inc9 (x :: r)) = true := h
        rw [Bool.and_eq_true] at h'
        exact h'.2
    show (r.all (fun q => Nat.blt e.1 q.1) && onc r) = true
    rw [ih h2, Bool.and_true]
    exact List.all_eq_true.mpr (fun q hq => Nat.ble_eq_true_of_le (inc9_lt r e h q hq))
set_option maxRecDepth 100000 in
theorem inc_all : ∀ mi, mi < 322 → inc9 (mQ mi).1 = true := by decide +kernel
theorem onc_all : ∀ mi, mi < 322 → onc (mQ mi).1 = true := fun mi h => inc9_o _ (inc_all mi h)
theorem onc_mQ (mi : Nat) : onc (mQ mi).1 = true := by
  rcases Nat.lt_or_ge mi 322 with h | h
  · exact onc_all mi h
  · unfold mQ
    rw [mt_out (show nMth ≤ mi from h)]
    try rfl
theorem AM_2 : ∀ d, Conj (AM d)
  | 0 => fun _ _ _ _ _ _ _ _ _ _ h _ => h.elim
  | d + 1 => fun mi n as I J R Q Q1 Q2 hQ h g => by
    unfold AM at h g ⊢
    refine cond_2 (cond_2 (fun h g => ?_) f_2) (and_2 (AW_2 (AM_m d) (AM_2 d) (onc_mQ mi) (fun n x y I J R q q2 => ⟨q.1, q.2.1, hQ _ _ _ _ _ q.2.2 q2.2.2⟩))) h g
    obtain ⟨o, h1, h2, h3, h4⟩ := h
    obtain ⟨o2, g1, g2, g3, g4⟩ := g
    rw [h1] at g1
    cases g1
    exact ⟨o, h1, h2, h3, fun I' J' R' a1 a2 a3 a4 => hQ _ _ _ _ _ (h4 I' J' R' a1 a2 a3 a4) (g4 I' J' R' a1 a2 a3 a4)⟩
end PT4x1
section PT4x2
/-! ===== rows of bytes and of longs stay where no instruction writes such ===== -/
noncomputable def knd (a : Nat) : Nat := (shl.getD (a - 1) (999, 0)).1
/-- rows of bytes, rows of longs are as they were -/
noncomputable def ST (I0 : Im) (J0 : Jm) (I : Im) (J : Jm) : Prop := (∀ a, knd a = 102 → I a = I0 a) ∧ ∀ a, knd a = 101 → J a = J0 a
theorem ST.rf {I : Im} {J : Jm} : ST I J I J := ⟨fun _ _ => rfl, fun _ _ => rfl⟩
theorem ST.tr {I I1 I2 : Im} {J J1 J2 : Jm} (h : ST I J I1 J1) (h2 : ST I1 J1 I2 J2) : ST I J I2 J2 := ⟨fun a q => (h2.1 a q).trans (h.1 a q), fun a q => (h2.2 a q).trans (h.2 a q)⟩
theorem ST.u {I0 I : Im} {J0 J : Jm} {o k : Nat} {v : Int32} (h : ST I0 J0 I J) (ho : ¬ knd o = 102) : ST I0 J0 (uI I o k v) J := ⟨fun a q => (uI_ne (fun z => ho (by rw [← z]; exact q))).trans (h.1 a q), h.2⟩
theorem ST.c {I0 I : Im} {J0 J : Jm} {a0 a1 p q m : Nat} (h : ST I0 J0 I J) (ho : ¬ knd a1 = 102) : ST I0 J0 (cI I a0 a1 p q m) J := ⟨fun a q => (if_neg (fun z => ho (by rw [← z]; exact q))).trans (h.1 a q), h.2⟩
theorem ST.j {I0 I : Im} {J0 J : Jm} {o k : Nat} {v : Int64} (h : ST I0 J0 I J) (ho : ¬ knd o = 101) : ST I0 J0 I (uJ J o k v) := ⟨h.1, fun a q => (uJ_ne (fun z => ho (by rw [← z]; exact q))).trans (h.2 a q)⟩
theorem isO_k {n o ci : Nat} (h : isO n o ci = true) : knd o = ci := (isO_spec h).2.2
theorem isA_k {n a t : Nat} (h : isA n a t = true) : knd a = 100 + t := (isA_spec h).2.2
noncomputable def nobE (pl : List Nat) (i : Jvm.ClassFile.Instr) (ax : List Nat) : Bool := match i with
  | .new _ => false
  | .newarray _ => false
  | .anewarray _ => false
  | .bastore => false
  | .lastore => false
  | .putfield _ => match ax with
    | [ci, _, _, _] => Nat.blt ci 100
    | _ => true
  | .invokevirtual _ => match ax with
    | [_, mi, _, _, _, _, _, _] => pl.elem mi
    | _ => true
  | .invokestatic _ => match ax with
    | [_, mi, _, _, _, _, _, _] => pl.elem mi
    | [kind, _] => !(Nat.beq kind 5)
    | _ => true
  | .invokespecial _ => match ax with
    | [_, mi, _, _, _, _, _, _] => pl.elem mi
    | _ => true
  | _ => true
noncomputable def Mkt (pl : List Nat) (M : Mc) : Prop := ∀ (mi n : Nat) (as : List Value) (I : Im) (J : Jm) (R : Rm) (Q : Qt), pl.elem mi = true → M mi n as I J R Q → M mi n as I J R (fun x y I' J' R' => ST I J I' J' ∧ Q x y I' J' R')
theorem cal_t {M : Mc} (hM : Mono M) {pl : List Nat} (hMp : Mkt pl M) {ph : Bool} {nend n : Nat} {I0 I : Im} {J0 J : Jm} {R : Rm} (hS : ST I0 J0 I J) {K K' : Kt} (hK : ∀ pc n lv st I J R, ST I0 J0 I J → K pc n lv st I J R → K' pc n lv st I J R) {pc : Nat} {lv : Lv} {st : List Value} {kind mi na rk al ci ph1 kr : Nat} (hk : pl.elem mi = true) (h : cal M ph nend K pc n lv st I J R kind mi na rk al ci ph1 kr) : cal M ph nend K' pc n lv st I J R kind mi na rk al ci ph1 kr := by
  have key : M mi n (st.take na).reverse I J R (fun x y I' J' R' => bf rk x (K (pc + 3) (n + al) lv (psh rk x y (st.drop na)) I' J' (bif Nat.beq kr 1 then R else R'))) → M mi n (st.take na).reverse I J R (fun x y I' J' R' => bf rk x (K' (pc + 3) (n + al) lv (psh rk x y (st.drop na)) I' J' (bif Nat.beq kr 1 then R else R'))) := fun q => hM _ _ _ _ _ _ _ _ (fun x y I' J' R' w => bf_m (hK _ _ _ _ _ _ _ (hS.tr w.1)) w.2) (hMp mi n _ I J R _ hk q)
  exact cond_m (cond_m (and_m key) key) id h
theorem fpt_t {n : Nat} {ph : Bool} {ci k kd of : Nat} {st : List Value} {I0 I : Im} {J0 J : Jm} {R : Rm} (hc : Nat.blt ci 100 = true) (hS : ST I0 J0 I J) {K K' : List Value → Im → Jm → Rm → Prop} (hK : ∀ r I J R, ST I0 J0 I J → K r I J R → K' r I J R) (h : fpt n ph ci k kd of st I J R K) : fpt n ph ci k kd of st I J R K' := by
  have hc2 : ci < 100 := Nat.le_of_ble_eq_true hc
  rcases kd with _ | _ | _ | _ | _ | kd
  · exact sRI_m (fun o x r => cond_g (fun b => hK _ _ _ _ (hS.u (by rw [isO_k b]; omega)))) h
  · exact sRI_m (fun o x r => cond_g (fun b => and_m (hK _ _ _ _ (hS.u (by rw [isO_k b]; omega))))) h
  · exact sRL_m (fun o x r => cond_g (fun b => hK _ _ _ _ (hS.j (by rw [isO_k b]; omega)))) h
  · exact sRR_m (fun o x r => cond_m (and_m (hK _ _ _ _ hS)) id) h
  · exact sRR_m (fun o x r => cond_m (cond_m id (cond_m (hK _ _ _ _ hS) id)) id) h
  · exact h
set_option maxHeartbeats 4000000 in
theorem stI_t {M : Mc} (hM : Mono M) {pl : List Nat} (hMp : Mkt pl M) {ph isl : Bool} {L : Nat} {xs : Nat → Int32} {rk nend n : Nat} {I0 I : Im} {J0 J : Jm} {R : Rm} (hS : ST I0 J0 I J) {Q Q' : Nat → Qt} (hQ : ∀ n x y R, Q n x y I J R → Q' n x y I J R) {K K' : Kt} (hK : ∀ pc n lv st I J R, ST I0 J0 I J → K pc n lv st I J R → K' pc n lv st I J R) {pc : Nat} {ax : List Nat} {ks : List Int32} {lz : Int64} {lv : Lv} {st : List Value} (i : Jvm.ClassFile.Instr) (hk : nobE pl i ax = true) (h : stI M ph isl L xs rk nend Q K pc ax ks lz n lv st I J R i) : stI M ph isl L xs rk nend Q' K' pc ax ks lz n lv st I J R i := by
  have k0 : ∀ {pc n lv st R}, K pc n lv st I J R → K' pc n lv st I J R := fun h => hK _ _ _ _ _ _ _ hS h
  cases i with
  | iconst _ =>
    exact k0 h
  | bipush _ =>
    exact k0 h
  | sipush _ =>
    exact k0 h
  | ldc _ =>
    exact k0 h
  | ldc_w _ =>
    exact k0 h
  | ldc2_w _ =>
    exact k0 h
  | lconst _ =>
    exact k0 h
  | goto _ =>
    exact k0 h
  | iload_n _ =>
    exact lI_m (fun x => k0) h
  | iload _ =>
    exact lI_m (fun x => k0) h
  | lload_n _ =>
    exact lL_m (fun x => k0) h
  | lload _ =>
    exact lL_m (fun x => k0) h
  | aload_n _ =>
    exact lR_m (fun x => k0) h
  | aload _ =>
    exact lR_m (fun x => k0) h
  | istore_n _ =>
    exact sI_m (fun x r => k0) h
  | istore _ =>
    exact sI_m (fun x r => k0) h
  | lstore_n _ =>
    exact sL_m (fun x r => k0) h
  | lstore _ =>
    exact sL_m (fun x r => k0) h
  | astore_n _ =>
    exact sR_m (fun x r => k0) h
  | astore _ =>
    exact sR_m (fun x r => k0) h
  | iinc _ _ =>
    exact lI_m (fun x => k0) h
  | iadd =>
    exact sII_m (fun x y r => k0) h
  | isub =>
    exact sII_m (fun x y r => k0) h
  | imul =>
    exact sII_m (fun x y r => k0) h
  | iand =>
    exact sII_m (fun x y r => k0) h
  | ior =>
    exact sII_m (fun x y r => k0) h
  | ixor =>
    exact sII_m (fun x y r => k0) h
  | ishl =>
    exact sII_m (fun x y r => k0) h
  | ishr =>
    exact sII_m (fun x y r => k0) h
  | iushr =>
    exact sII_m (fun x y r => k0) h
  | idiv =>
    exact sII_m (fun x y r => and_m k0) h
  | irem =>
    exact sII_m (fun x y r => and_m k0) h
  | ladd =>
    exact sLL_m (fun x y r => k0) h
  | lsub =>
    exact sLL_m (fun x y r => k0) h
  | lmul =>
    exact sLL_m (fun x y r => k0) h
  | land =>
    exact sLL_m (fun x y r => k0) h
  | lor =>
    exact sLL_m (fun x y r => k0) h
  | lcmp =>
    exact sLL_m (fun x y r => k0) h
  | ldiv =>
    exact sLL_m (fun x y r => and_m k0) h
  | lrem =>
    exact sLL_m (fun x y r => and_m k0) h
  | lneg =>
    exact sL_m (fun x r => k0) h
  | l2i =>
    exact sL_m (fun x r => k0) h
  | pop2 =>
    exact sL_m (fun x r => k0) h
  | lshl =>
    exact sLI_m (fun x y r => k0) h
  | i2l =>
    exact sI_m (fun x r => k0) h
  | i2b =>
    exact sI_m (fun x r => k0) h
  | i2s =>
    exact sI_m (fun x r => k0) h
  | dup =>
    unfold stI at h ⊢
    dsimp only at h ⊢
    split at h
    · exact k0 h
    · exact k0 h
    · exact h.elim
  | pop =>
    unfold stI at h ⊢
    dsimp only at h ⊢
    split at h
    · exact k0 h
    · exact k0 h
    · exact h.elim
  | dup2 =>
    unfold stI at h ⊢
    dsimp only at h ⊢
    split at h
    · exact k0 h
    · exact h.elim
  | ifCond _ _ =>
    exact sI_m (fun x r => icz_m k0 k0) h
  | if_icmp _ _ =>
    exact sII_m (fun x y r => icc_m k0 k0) h
  | tableswitch _ _ _ _ =>
    exact sI_m (fun x r => swT_m (fun t => k0) k0 _ _ _) h
  | lookupswitch _ _ =>
    exact sI_m (fun x r => swT_m (fun t => k0) k0 _ _ _) h
  | getfield _ =>
    unfold stI at h ⊢
    dsimp only at h ⊢
    split at h
    · exact fgt_m (fun r => k0) h
    · exact h.elim
  | putfield _ =>
    unfold stI at h ⊢
    dsimp only at h ⊢
    split at h
    · exact fpt_t hk hS (fun r I J R q => hK _ _ _ _ _ _ _ q) h
    · exact h.elim
  | iaload =>
    exact sRI_m (fun a x r => cond_m (and_m k0) (cond_m (and_m k0) id)) h
  | baload =>
    exact sRI_m (fun a x r => cond_m (and_m k0) id) h
  | laload =>
    exact sRI_m (fun a x r => cond_m (and_m k0) id) h
  | aaload =>
    unfold stI at h ⊢
    dsimp only at h ⊢
    split at h
    · exact sRI_m (fun a x r => cond_m (and_m (and_m k0)) id) h
    · exact h.elim
  | iastore =>
    exact sRII_m (fun a i x r => cond_g (fun b => and_m (hK _ _ _ _ _ _ _ (hS.u (by rw [isA_k b]; omega))))) h
  | bastore =>
    cases hk
  | lastore =>
    cases hk
  | aastore =>
    unfold stI at h ⊢
    dsimp only at h ⊢
    split at h
    · exact sRIR_m (fun a i x r => cond_m (and_m k0) id) h
    · exact h.elim
  | arraylength =>
    exact sR_m (fun a r => cond_m k0 (cond_m k0 (cond_m k0 id))) h
  | new _ =>
    cases hk
  | newarray _ =>
    cases hk
  | anewarray _ =>
    cases hk
  | invokevirtual _ =>
    unfold stI at h ⊢
    dsimp only at h ⊢
    split at h
    · exact cond_m (cal_t hM hMp hS hK hk) id h
    · exact h.elim
  | invokespecial _ =>
    unfold stI at h ⊢
    dsimp only at h ⊢
    split at h
    · exact cond_m (cal_t hM hMp hS hK hk) id h
    · exact sR_m (fun a r => cond_m k0 id) h
    · exact h.elim
  | invokestatic _ =>
    unfold stI at h ⊢
    dsimp only at h ⊢
    split at h
    · exact cond_m (cal_t hM hMp hS hK hk) id h
    · try dsimp only at h ⊢
      split at h
      · exact sCpy_m (fun a sp a1 dp n r => cond_g (fun b => and_m (hK _ _ _ _ _ _ _ (hS.c (by rw [Bool.and_eq_true, Bool.and_eq_true] at b; rw [isA_k b.2.2]; omega))))) h
      · exact Bool.noConfusion (show false = true from hk)
      · exact sII_m (fun x y r => cond_m k0 id) h
      · exact sII_m (fun x y r => cond_m k0 id) h
      · exact sL_m (fun x r => cond_m k0 id) h
      · exact h.elim
    · exact h.elim
  | return_ =>
    refine cond_m (fun h => ?_) id h
    try dsimp only at h ⊢
    split at h
    · exact hQ _ _ _ _ h
    · exact h.elim
  | lreturn =>
    refine cond_m (fun h => ?_) id h
    try dsimp only at h ⊢
    split at h
    · exact hQ _ _ _ _ h
    · exact h.elim
  | ireturn =>
    refine cond_m (fun h => ?_) (cond_m (fun h => ?_) id) h
    · try dsimp only at h ⊢
      split at h
      · exact hQ _ _ _ _ h
      · exact h.elim
    · try dsimp only at h ⊢
      split at h
      · exact ⟨h.1, hQ _ _ _ _ h.2⟩
      · exact h.elim
  | _ => exact h.elim
theorem AW_t {M : Mc} (hM : Mono M) {pl : List Nat} (hMp : Mkt pl M) {ph isl : Bool} {L : Nat} {xs : Nat → Int32} {rk nend : Nat} {code : List En} (hk : ∀ e ∈ code, nobE pl e.2.1 e.2.2.2.1 = true) {Q : Nat → Qt} {pc n : Nat} {lv : Lv} {st : List Value} {I : Im} {J : Jm} {R : Rm} (h : AW M ph isl L xs rk nend code Q pc n lv st I J R) : AW M ph isl L xs rk nend code (fun n' x y I' J' R' => ST I J I' J' ∧ Q n' x y I' J' R') pc n lv st I J R := by
  intro P hP
  refine h (fun pc n' lv st I' J' R' => ST I J I' J' → P pc n' lv st I' J' R') ⟨fun e he n' lv st I' J' R' hs h1 => ?_, fun pc n' ks lv st I' J' R' q h1 => hP.2 _ _ ks _ _ _ _ _ (q h1)⟩ ST.rf
  exact hP.1 e he _ lv st _ _ _ (stI_t hM hMp h1 (fun n x y R q => ⟨h1, q⟩) (fun pc n lv st I J R z q => q z) e.2.1 (hk e he) hs)
noncomputable def NbT (pl : List Nat) : Prop := ∀ mi, pl.elem mi = true → Nat.beq mi mReader = false ∧ (mQ mi).1.all (fun e => nobE pl e.2.1 e.2.2.2.1) = true
theorem NbT.of {pl : List Nat} (h : pl.all (fun mi => !Nat.beq mi mReader && (mQ mi).1.all (fun e => nobE pl e.2.1 e.2.2.2.1)) = true) : NbT pl := by
  intro mi hm
  have h1 := List.all_eq_true.mp h mi (List.elem_iff.mp hm)
  simp only [Bool.and_eq_true, Bool.not_eq_true'] at h1
  exact h1
theorem AM_t {pl : List Nat} (hp : NbT pl) : ∀ d, Mkt pl (AM d) := by
  intro d
  induction d with
  | zero => intro mi n as I J R Q hd h; exact h.elim
  | succ d ih =>
    intro mi n as I J R Q hd h
    obtain ⟨c1, c2⟩ := hp mi hd
    unfold AM at h ⊢
    rw [c1] at h ⊢
    exact ⟨h.1, AW_m (AM_m d) (fun n x y I' J' R' q => ⟨q.2.1, q.2.2.1, q.1, q.2.2.2⟩) (AW_t (AM_m d) ih (List.all_eq_true.mp c2) h.2)⟩
end PT4x2
section PT4x3
/-! ===== rows of ints stay where no instruction writes such ===== -/
noncomputable def SI (I0 : Im) (I : Im) : Prop := ∀ a, knd a = 100 → I a = I0 a
theorem SI.rf {I : Im} : SI I I := fun _ _ => rfl
theorem SI.tr {I I1 I2 : Im} (h : SI I I1) (h2 : SI I1 I2) : SI I I2 := fun a q => (h2 a q).trans (h a q)
theorem SI.u {I0 I : Im} {o k : Nat} {v : Int32} (h : SI I0 I) (ho : ¬ knd o = 100) : SI I0 (uI I o k v) := fun a q => (uI_ne (fun z => ho (by rw [← z]; exact q))).trans (h a q)
noncomputable def noiE (pl : List Nat) (i : Jvm.ClassFile.Instr) (ax : List Nat) : Bool := match i with
  | .new _ => false
  | .newarray _ => false
  | .anewarray _ => false
  | .iastore => false
  | .putfield _ => match ax with
    | [ci, _, _, _] => Nat.blt ci 100
    | _ => true
  | .invokevirtual _ => match ax with
    | [_, mi, _, _, _, _, _, _] => pl.elem mi
    | _ => true
  | .invokestatic _ => match ax with
    | [_, mi, _, _, _, _, _, _] => pl.elem mi
    | [kind, _] => !(Nat.beq kind 4)
    | _ => true
  | .invokespecial _ => match ax with
    | [_, mi, _, _, _, _, _, _] => pl.elem mi
    | _ => true
  | _ => true
noncomputable def Mki (pl : List Nat) (M : Mc) : Prop := ∀ (mi n : Nat) (as : List Value) (I : Im) (J : Jm) (R : Rm) (Q : Qt), pl.elem mi = true → M mi n as I J R Q → M mi n as I J R (fun x y I' J' R' => SI I I' ∧ Q x y I' J' R')
theorem cal_i {M : Mc} (hM : Mono M) {pl : List Nat} (hMp : Mki pl M) {ph : Bool} {nend n : Nat} {I0 I : Im} {J : Jm} {R : Rm} (hS : SI I0 I) {K K' : Kt} (hK : ∀ pc n lv st I J R, SI I0 I → K pc n lv st I J R → K' pc n lv st I J R) {pc : Nat} {lv : Lv} {st : List Value} {kind mi na rk al ci ph1 kr : Nat} (hk : pl.elem mi = true) (h : cal M ph nend K pc n lv st I J R kind mi na rk al ci ph1 kr) : cal M ph nend K' pc n lv st I J R kind mi na rk al ci ph1 kr := by
  have key : M mi n (st.take na).reverse I J R (fun x y I' J' R' => bf rk x (K (pc + 3) (n + al) lv (psh rk x y (st.drop na)) I' J' (bif Nat.beq kr 1 then R else R'))) → M mi n (st.take na).reverse I J R (fun x y I' J' R' => bf rk x (K' (pc + 3) (n + al) lv (psh rk x y (st.drop na)) I' J' (bif Nat.beq kr 1 then R else R'))) := fun q => hM _ _ _ _ _ _ _ _ (fun x y I' J' R' w => bf_m (hK _ _ _ _ _ _ _ (hS.tr w.1)) w.2) (hMp mi n _ I J R _ hk q)
  exact cond_m (cond_m (and_m key) key) id h
theorem fpt_i {n : Nat} {ph : Bool} {ci k kd of : Nat} {st : List Value} {I0 I : Im} {J : Jm} {R : Rm} (hc : Nat.blt ci 100 = true) (hS : SI I0 I) {K K' : List Value → Im → Jm → Rm → Prop} (hK : ∀ r I J R, SI I0 I → K r I J R → K' r I J R) (h : fpt n ph ci k kd of st I J R K) : fpt n ph ci k kd of st I J R K' := by
  have hc2 : ci < 100 := Nat.le_of_ble_eq_true hc
  rcases kd with _ | _ | _ | _ | _ | kd
  · exact sRI_m (fun o x r => cond_g (fun b => hK _ _ _ _ (hS.u (by rw [isO_k b]; omega)))) h
  · exact sRI_m (fun o x r => cond_g (fun b => and_m (hK _ _ _ _ (hS.u (by rw [isO_k b]; omega))))) h
  · exact sRL_m (fun o x r => cond_m (hK _ _ _ _ hS) id) h
  · exact sRR_m (fun o x r => cond_m (and_m (hK _ _ _ _ hS)) id) h
  · exact sRR_m (fun o x r => cond_m (cond_m id (cond_m (hK _ _ _ _ hS) id)) id) h
  · exact h
set_option maxHeartbeats 4000000 in
theorem stI_i {M : Mc} (hM : Mono M) {pl : List Nat} (hMp : Mki pl M) {ph isl : Bool} {L : Nat} {xs : Nat → Int32} {rk nend n : Nat} {I0 I : Im} {J : Jm} {R : Rm} (hS : SI I0 I) {Q Q' : Nat → Qt} (hQ : ∀ n x y R, Q n x y I J R → Q' n x y I J R) {K K' : Kt} (hK : ∀ pc n lv st I J R, SI I0 I → K pc n lv st I J R → K' pc n lv st I J R) {pc : Nat} {ax : List Nat} {ks : List Int32} {lz : Int64} {lv : Lv} {st : List Value} (i : Jvm.ClassFile.Instr) (hk : noiE pl i ax = true) (h : stI M ph isl L xs rk nend Q K pc ax ks lz n lv st I J R i) : stI M ph isl L xs rk nend Q' K' pc ax ks lz n lv st I J R i := by
  have k0 : ∀ {pc n lv st R}, K pc n lv st I J R → K' pc n lv st I J R := fun h => hK _ _ _ _ _ _ _ hS h
  cases i with
  | iconst _ =>
    exact k0 h
  | bipush _ =>
    exact k0 h
  | sipush _ =>
    exact k0 h
  | ldc _ =>
    exact k0 h
  | ldc_w _ =>
    exact k0 h
  | ldc2_w _ =>
    exact k0 h
  | lconst _ =>
    exact k0 h
  | goto _ =>
    exact k0 h
  | iload_n _ =>
    exact lI_m (fun x => k0) h
  | iload _ =>
    exact lI_m (fun x => k0) h
  | lload_n _ =>
    exact lL_m (fun x => k0) h
  | lload _ =>
    exact lL_m (fun x => k0) h
  | aload_n _ =>
    exact lR_m (fun x => k0) h
  | aload _ =>
    exact lR_m (fun x => k0) h
  | istore_n _ =>
    exact sI_m (fun x r => k0) h
  | istore _ =>
    exact sI_m (fun x r => k0) h
  | lstore_n _ =>
    exact sL_m (fun x r => k0) h
  | lstore _ =>
    exact sL_m (fun x r => k0) h
  | astore_n _ =>
    exact sR_m (fun x r => k0) h
  | astore _ =>
    exact sR_m (fun x r => k0) h
  | iinc _ _ =>
    exact lI_m (fun x => k0) h
  | iadd =>
    exact sII_m (fun x y r => k0) h
  | isub =>
    exact sII_m (fun x y r => k0) h
  | imul =>
    exact sII_m (fun x y r => k0) h
  | iand =>
    exact sII_m (fun x y r => k0) h
  | ior =>
    exact sII_m (fun x y r => k0) h
  | ixor =>
    exact sII_m (fun x y r => k0) h
  | ishl =>
    exact sII_m (fun x y r => k0) h
  | ishr =>
    exact sII_m (fun x y r => k0) h
  | iushr =>
    exact sII_m (fun x y r => k0) h
  | idiv =>
    exact sII_m (fun x y r => and_m k0) h
  | irem =>
    exact sII_m (fun x y r => and_m k0) h
  | ladd =>
    exact sLL_m (fun x y r => k0) h
  | lsub =>
    exact sLL_m (fun x y r => k0) h
  | lmul =>
    exact sLL_m (fun x y r => k0) h
  | land =>
    exact sLL_m (fun x y r => k0) h
  | lor =>
    exact sLL_m (fun x y r => k0) h
  | lcmp =>
    exact sLL_m (fun x y r => k0) h
  | ldiv =>
    exact sLL_m (fun x y r => and_m k0) h
  | lrem =>
    exact sLL_m (fun x y r => and_m k0) h
  | lneg =>
    exact sL_m (fun x r => k0) h
  | l2i =>
    exact sL_m (fun x r => k0) h
  | pop2 =>
    exact sL_m (fun x r => k0) h
  | lshl =>
    exact sLI_m (fun x y r => k0) h
  | i2l =>
    exact sI_m (fun x r => k0) h
  | i2b =>
    exact sI_m (fun x r => k0) h
  | i2s =>
    exact sI_m (fun x r => k0) h
  | dup =>
    unfold stI at h ⊢
    dsimp only at h ⊢
    split at h
    · exact k0 h
    · exact k0 h
    · exact h.elim
  | pop =>
    unfold stI at h ⊢
    dsimp only at h ⊢
    split at h
    · exact k0 h
    · exact k0 h
    · exact h.elim
  | dup2 =>
    unfold stI at h ⊢
    dsimp only at h ⊢
    split at h
    · exact k0 h
    · exact h.elim
  | ifCond _ _ =>
    exact sI_m (fun x r => icz_m k0 k0) h
  | if_icmp _ _ =>
    exact sII_m (fun x y r => icc_m k0 k0) h
  | tableswitch _ _ _ _ =>
    exact sI_m (fun x r => swT_m (fun t => k0) k0 _ _ _) h
  | lookupswitch _ _ =>
    exact sI_m (fun x r => swT_m (fun t => k0) k0 _ _ _) h
  | getfield _ =>
    unfold stI at h ⊢
    dsimp only at h ⊢
    split at h
    · exact fgt_m (fun r => k0) h
    · exact h.elim
  | putfield _ =>
    unfold stI at h ⊢
    dsimp only at h ⊢
    split at h
    · exact fpt_i hk hS (fun r I J R q => hK _ _ _ _ _ _ _ q) h
    · exact h.elim
  | iaload =>
    exact sRI_m (fun a x r => cond_m (and_m k0) (cond_m (and_m k0) id)) h
  | baload =>
    exact sRI_m (fun a x r => cond_m (and_m k0) id) h
  | laload =>
    exact sRI_m (fun a x r => cond_m (and_m k0) id) h
  | aaload =>
    unfold stI at h ⊢
    dsimp only at h ⊢
    split at h
    · exact sRI_m (fun a x r => cond_m (and_m (and_m k0)) id) h
    · exact h.elim
  | iastore =>
    cases hk
  | bastore =>
    exact sRII_m (fun a i x r => cond_g (fun b => and_m (hK _ _ _ _ _ _ _ (hS.u (by rw [isA_k b]; omega))))) h
  | lastore =>
    exact sRIL_m (fun a i x r => cond_m (and_m (hK _ _ _ _ _ _ _ hS)) id) h
  | aastore =>
    unfold stI at h ⊢
    dsimp only at h ⊢
    split at h
    · exact sRIR_m (fun a i x r => cond_m (and_m k0) id) h
    · exact h.elim
  | arraylength =>
    exact sR_m (fun a r => cond_m k0 (cond_m k0 (cond_m k0 id))) h
  | new _ =>
    cases hk
  | newarray _ =>
    cases hk
  | anewarray _ =>
    cases hk
  | invokevirtual _ =>
    unfold stI at h ⊢
    dsimp only at h ⊢
    split at h
    · exact cond_m (cal_i hM hMp hS hK hk) id h
    · exact h.elim
  | invokespecial _ =>
    unfold stI at h ⊢
    dsimp only at h ⊢
    split at h
    · exact cond_m (cal_i hM hMp hS hK hk) id h
    · exact sR_m (fun a r => cond_m k0 id) h
    · exact h.elim
  | invokestatic _ =>
    unfold stI at h ⊢
    dsimp only at h ⊢
    split at h
    · exact cond_m (cal_i hM hMp hS hK hk) id h
    · try dsimp only at h ⊢
      split at h
      · exact Bool.noConfusion (show false = true from hk)
      · exact sCpy_m (fun a sp a1 dp n r => cond_m (and_m (hK _ _ _ _ _ _ _ hS)) id) h
      · exact sII_m (fun x y r => cond_m k0 id) h
      · exact sII_m (fun x y r => cond_m k0 id) h
      · exact sL_m (fun x r => cond_m k0 id) h
      · exact h.elim
    · exact h.elim
  | return_ =>
    refine cond_m (fun h => ?_) id h
    try dsimp only at h ⊢
    split at h
    · exact hQ _ _ _ _ h
    · exact h.elim
  | lreturn =>
    refine cond_m (fun h => ?_) id h
    try dsimp only at h ⊢
    split at h
    · exact hQ _ _ _ _ h
    · exact h.elim
  | ireturn =>
    refine cond_m (fun h => ?_) (cond_m (fun h => ?_) id) h
    · try dsimp only at h ⊢
      split at h
      · exact hQ _ _ _ _ h
      · exact h.elim
    · try dsimp only at h ⊢
      split at h
      · exact ⟨h.1, hQ _ _ _ _ h.2⟩
      · exact h.elim
  | _ => exact h.elim
theorem AW_i {M : Mc} (hM : Mono M) {pl : List Nat} (hMp : Mki pl M) {ph isl : Bool} {L : Nat} {xs : Nat → Int32} {rk nend : Nat} {code : List En} (hk : ∀ e ∈ code, noiE pl e.2.1 e.2.2.2.1 = true) {Q : Nat → Qt} {pc n : Nat} {lv : Lv} {st : List Value} {I : Im} {J : Jm} {R : Rm} (h : AW M ph isl L xs rk nend code Q pc n lv st I J R) : AW M ph isl L xs rk nend code (fun n' x y I' J' R' => SI I I' ∧ Q n' x y I' J' R') pc n lv st I J R := by
  intro P hP
  refine h (fun pc n' lv st I' J' R' => SI I I' → P pc n' lv st I' J' R') ⟨fun e he n' lv st I' J' R' hs h1 => ?_, fun pc n' ks lv st I' J' R' q h1 => hP.2 _ _ ks _ _ _ _ _ (q h1)⟩ SI.rf
  exact hP.1 e he _ lv st _ _ _ (stI_i hM hMp h1 (fun n x y R q => ⟨h1, q⟩) (fun pc n lv st I J R z q => q z) e.2.1 (hk e he) hs)
noncomputable def NiT (pl : List Nat) : Prop := ∀ mi, pl.elem mi = true → Nat.beq mi mReader = false ∧ (mQ mi).1.all (fun e => noiE pl e.2.1 e.2.2.2.1) = true
theorem NiT.of {pl : List Nat} (h : pl.all (fun mi => !Nat.beq mi mReader && (mQ mi).1.all (fun e => noiE pl e.2.1 e.2.2.2.1)) = true) : NiT pl := by
  intro mi hm
  have h1 := List.all_eq_true.mp h mi (List.elem_iff.mp hm)
  simp only [Bool.and_eq_true, Bool.not_eq_true'] at h1
  exact h1
theorem AM_i {pl : List Nat} (hp : NiT pl) : ∀ d, Mki pl (AM d) := by
  intro d
  induction d with
  | zero => intro mi n as I J R Q hd h; exact h.elim
  | succ d ih =>
    intro mi n as I J R Q hd h
    obtain ⟨c1, c2⟩ := hp mi hd
    unfold AM at h ⊢
    rw [c1] at h ⊢
    exact ⟨h.1, AW_m (AM_m d) (fun n x y I' J' R' q => ⟨q.2.1, q.2.2.1, q.1, q.2.2.2⟩) (AW_i (AM_m d) ih (List.all_eq_true.mp c2) h.2)⟩
end PT4x3
section PT4x4
/-! ===== Integer.bitCount of a number that is not below 0 ===== -/
theorem nI_and (a b : Nat) : nI a &&& nI b = nI (a &&& b) := by
  apply Int32.toBitVec_inj.1
  show BitVec.ofNat 32 a &&& BitVec.ofNat 32 b = BitVec.ofNat 32 (a &&& b)
  apply BitVec.eq_of_getLsbD_eq
  intro i hi
  simp [hi]
theorem an_b (a m : Nat) : a &&& m = (a % 256 &&& m % 256) + 256 * (a / 256 &&& m / 256) := by
  have h1 : (a &&& m) % 2 ^ 8 = (a % 2 ^ 8) &&& (m % 2 ^ 8) := Nat.and_mod_two_pow
  have h2 : (a &&& m) / 2 ^ 8 = (a / 2 ^ 8) &&& (m / 2 ^ 8) := Nat.and_div_two_pow
  rw [show (2 : Nat) ^ 8 = 256 from rfl] at h1 h2
  rw [← h1, ← h2]
  omega
theorem an_2 {b m : Nat} (A M : Nat) (hb : b < 256) (hm : m < 256) : (b + 256 * A) &&& (m + 256 * M) = (b &&& m) + 256 * (A &&& M) := by
  rw [an_b, show (b + 256 * A) % 256 = b by omega, show (m + 256 * M) % 256 = m by omega, show (b + 256 * A) / 256 = A by omega, show (m + 256 * M) / 256 = M by omega]
/-- four bytes -/
noncomputable def n4 (b0 b1 b2 b3 : Nat) : Nat := b0 + 256 * (b1 + 256 * (b2 + 256 * b3))
theorem an_4 {b0 b1 b2 b3 m : Nat} (h0 : b0 < 256) (h1 : b1 < 256) (h2 : b2 < 256) (hm : m < 256) : n4 b0 b1 b2 b3 &&& n4 m m m m = n4 (b0 &&& m) (b1 &&& m) (b2 &&& m) (b3 &&& m) := by
  unfold n4
  rw [an_2 _ _ h0 hm, an_2 _ _ h1 hm, an_2 _ _ h2 hm]
/-- bits of a byte, the steps of the count on it -/
noncomputable def bp (b : Nat) : Nat := b % 2 + b / 2 % 2 + b / 4 % 2 + b / 8 % 2 + b / 16 % 2 + b / 32 % 2 + b / 64 % 2 + b / 128 % 2
noncomputable def by1 (b : Nat) : Nat := b - (b / 2 &&& 85)
noncomputable def bz1 (b : Nat) : Nat := (by1 b &&& 51) + (by1 b / 4 &&& 51)
set_option maxRecDepth 100000 in
theorem bl1 : ∀ b, b < 256 → (b / 2 &&& 85) ≤ b ∧ ∀ c, c < 2 → (b / 2 + 128 * c) &&& 85 = b / 2 &&& 85 := by decide +kernel
set_option maxRecDepth 100000 in
theorem bl2 : ∀ b, b < 256 → by1 b < 256 ∧ ∀ c, c < 4 → (by1 b / 4 + 64 * c) &&& 51 = by1 b / 4 &&& 51 := by decide +kernel
set_option maxRecDepth 100000 in
theorem bl3 : ∀ b, b < 256 → bz1 b < 128 ∧ bz1 b % 16 < 5 ∧ bz1 b / 16 < 5 ∧ bp b ≤ 8 ∧ ∀ c, c < 5 → (bz1 b + (bz1 b / 16 + 16 * c)) &&& 15 = bp b := by decide +kernel
theorem sA {b0 b1 b2 b3 : Nat} (h0 : b0 < 256) (h1 : b1 < 256) (h2 : b2 < 256) (h3 : b3 < 256) : (n4 b0 b1 b2 b3 / 2 &&& 1431655765) ≤ n4 b0 b1 b2 b3 ∧ n4 b0 b1 b2 b3 - (n4 b0 b1 b2 b3 / 2 &&& 1431655765) = n4 (by1 b0) (by1 b1) (by1 b2) (by1 b3) := by
  have e : n4 b0 b1 b2 b3 / 2 = n4 (b0 / 2 + 128 * (b1 % 2)) (b1 / 2 + 128 * (b2 % 2)) (b2 / 2 + 128 * (b3 % 2)) (b3 / 2 + 128 * 0) := by unfold n4; omega
  have k0 := bl1 b0 h0
  have k1 := bl1 b1 h1
  have k2 := bl1 b2 h2
  have k3 := bl1 b3 h3
  rw [e, show (1431655765 : Nat) = n4 85 85 85 85 from rfl, an_4 (by omega) (by omega) (by omega) (by decide), k0.2 _ (by omega), k1.2 _ (by omega), k2.2 _ (by omega), k3.2 _ (by decide)]
  have q0 := k0.1
  have q1 := k1.1
  have q2 := k2.1
  have q3 := k3.1
  clear k0 k1 k2 k3 e
  unfold n4 by1
  omega
theorem sB {b0 b1 b2 b3 : Nat} (h0 : b0 < 256) (h1 : b1 < 256) (h2 : b2 < 256) (h3 : b3 < 256) : (n4 (by1 b0) (by1 b1) (by1 b2) (by1 b3) &&& 858993459) + (n4 (by1 b0) (by1 b1) (by1 b2) (by1 b3) / 4 &&& 858993459) = n4 (bz1 b0) (bz1 b1) (bz1 b2) (bz1 b3) := by
  have k0 := bl2 b0 h0
  have k1 := bl2 b1 h1
  have k2 := bl2 b2 h2
  have k3 := bl2 b3 h3
  have e : n4 (by1 b0) (by1 b1) (by1 b2) (by1 b3) / 4 = n4 (by1 b0 / 4 + 64 * (by1 b1 % 4)) (by1 b1 / 4 + 64 * (by1 b2 % 4)) (by1 b2 / 4 + 64 * (by1 b3 % 4)) (by1 b3 / 4 + 64 * 0) := by
    have q0 := k0.1
    have q1 := k1.1
    have q2 := k2.1
    have q3 := k3.1
    clear k0 k1 k2 k3
    unfold n4
    omega
  rw [e, show (858993459 : Nat) = n4 51 51 51 51 from rfl, an_4 k0.1 k1.1 k2.1 (by decide)]
  have z0 : by1 b0 / 4 + 64 * (by1 b1 % 4) < 256 := by have := k0.1; omega
  have z1 : by1 b1 / 4 + 64 * (by1 b2 % 4) < 256 := by have := k1.1; omega
  have z2 : by1 b2 / 4 + 64 * (by1 b3 % 4) < 256 := by have := k2.1; omega
  rw [an_4 z0 z1 z2 (by decide), k0.2 _ (by omega), k1.2 _ (by omega), k2.2 _ (by omega), k3.2 _ (by decide)]
  clear k0 k1 k2 k3 e z0 z1 z2
  unfold n4 bz1
  omega
theorem sC {b0 b1 b2 b3 : Nat} (h0 : b0 < 256) (h1 : b1 < 256) (h2 : b2 < 256) (h3 : b3 < 256) : (n4 (bz1 b0) (bz1 b1) (bz1 b2) (bz1 b3) + n4 (bz1 b0) (bz1 b1) (bz1 b2) (bz1 b3) / 16) &&& 252645135 = n4 (bp b0) (bp b1) (bp b2) (bp b3) := by
  have k0 := bl3 b0 h0
  have k1 := bl3 b1 h1
  have k2 := bl3 b2 h2
  have k3 := bl3 b3 h3
  have e : n4 (bz1 b0) (bz1 b1) (bz1 b2) (bz1 b3) + n4 (bz1 b0) (bz1 b1) (bz1 b2) (bz1 b3) / 16 = n4 (bz1 b0 + (bz1 b0 / 16 + 16 * (bz1 b1 % 16))) (bz1 b1 + (bz1 b1 / 16 + 16 * (bz1 b2 % 16))) (bz1 b2 + (bz1 b2 / 16 + 16 * (bz1 b3 % 16))) (bz1 b3 + (bz1 b3 / 16 + 16 * 0)) := by
    have q0 := k0.1
    have q1 := k1.1
    have q2 := k2.1
    have q3 := k3.1
    clear k0 k1 k2 k3
    unfold n4
    omega
  have z0 : bz1 b0 + (bz1 b0 / 16 + 16 * (bz1 b1 % 16)) < 256 := by have := k0.1; have := k0.2.2.1; have := k1.2.1; omega
  have z1 : bz1 b1 + (bz1 b1 / 16 + 16 * (bz1 b2 % 16)) < 256 := by have := k1.1; have := k1.2.2.1; have := k2.2.1; omega
  have z2 : bz1 b2 + (bz1 b2 / 16 + 16 * (bz1 b3 % 16)) < 256 := by have := k2.1; have := k2.2.2.1; have := k3.2.1; omega
  rw [e, show (252645135 : Nat) = n4 15 15 15 15 from rfl, an_4 z0 z1 z2 (by decide), k0.2.2.2.2 _ k1.2.1, k1.2.2.2.2 _ k2.2.1, k2.2.2.2.2 _ k3.2.1, k3.2.2.2.2 _ (by decide)]
theorem sD {p0 p1 p2 p3 : Nat} (h0 : p0 ≤ 8) (h1 : p1 ≤ 8) (h2 : p2 ≤ 8) (h3 : p3 ≤ 8) : (n4 p0 p1 p2 p3 + n4 p0 p1 p2 p3 / 256 + (n4 p0 p1 p2 p3 + n4 p0 p1 p2 p3 / 256) / 65536) % 64 = p0 + p1 + p2 + p3 := by
  have e1 : n4 p0 p1 p2 p3 / 256 = p1 + 256 * (p2 + 256 * p3) := by unfold n4; omega
  have e2 : (n4 p0 p1 p2 p3 + (p1 + 256 * (p2 + 256 * p3))) / 65536 = p2 + p3 + 256 * p3 := by
    have e3 : n4 p0 p1 p2 p3 + (p1 + 256 * (p2 + 256 * p3)) = ((p0 + p1) + 256 * (p1 + p2)) + 65536 * (p2 + p3 + 256 * p3) := by unfold n4; omega
    rw [e3]
    have e4 : (p0 + p1) + 256 * (p1 + p2) < 65536 := by omega
    omega
  rw [e1, e2]
  unfold n4
  omega
/-- the JDK's steps -/
noncomputable def bcA (v : Int32) : Int32 := v - ((Int32.toUInt32 v >>> (Int32.toUInt32 1 &&& Int32.toUInt32 31)).toInt32 &&& 1431655765)
noncomputable def bcB (v : Int32) : Int32 := (v &&& 858993459) + ((Int32.toUInt32 v >>> (Int32.toUInt32 2 &&& Int32.toUInt32 31)).toInt32 &&& 858993459)
noncomputable def bcC (v : Int32) : Int32 := (v + (Int32.toUInt32 v >>> (Int32.toUInt32 4 &&& Int32.toUInt32 31)).toInt32) &&& 252645135
noncomputable def bcD (v : Int32) : Int32 := v + (Int32.toUInt32 v >>> (Int32.toUInt32 8 &&& Int32.toUInt32 31)).toInt32
noncomputable def bcE (v : Int32) : Int32 := v + (Int32.toUInt32 v >>> (Int32.toUInt32 16 &&& Int32.toUInt32 31)).toInt32
theorem bc_nI {b0 b1 b2 b3 : Nat} (h0 : b0 < 256) (h1 : b1 < 256) (h2 : b2 < 256) (h3 : b3 < 256) : bcE (bcD (bcC (bcB (bcA (nI (n4 b0 b1 b2 b3)))))) &&& 63 = nI (bp b0 + bp b1 + bp b2 + bp b3) := by
  have lt : ∀ {a b c d : Nat}, a < 256 → b < 256 → c < 256 → d < 256 → n4 a b c d < 2 ^ 32 := fun ha hb hc hd => by unfold n4; omega
  have eA : bcA (nI (n4 b0 b1 b2 b3)) = nI (n4 (by1 b0) (by1 b1) (by1 b2) (by1 b3)) := by
    unfold bcA
    rw [pk_ushrN (lt h0 h1 h2 h3) 1 1 (by decide), show (1431655765 : Int32) = nI 1431655765 from rfl, nI_and, show (2 : Nat) ^ 1 = 2 from rfl, pk_sub (sA h0 h1 h2 h3).1, (sA h0 h1 h2 h3).2]
  have y0 := (bl2 b0 h0).1
  have y1 := (bl2 b1 h1).1
  have y2 := (bl2 b2 h2).1
  have y3 := (bl2 b3 h3).1
  have eB : bcB (nI (n4 (by1 b0) (by1 b1) (by1 b2) (by1 b3))) = nI (n4 (bz1 b0) (bz1 b1) (bz1 b2) (bz1 b3)) := by
    unfold bcB
    rw [pk_ushrN (lt y0 y1 y2 y3) 2 2 (by decide), show (858993459 : Int32) = nI 858993459 from rfl, nI_and, nI_and, nI_add, show (2 : Nat) ^ 2 = 4 from rfl, sB h0 h1 h2 h3]
  have z0 := bl3 b0 h0
  have z1 := bl3 b1 h1
  have z2 := bl3 b2 h2
  have z3 := bl3 b3 h3
  have eC : bcC (nI (n4 (bz1 b0) (bz1 b1) (bz1 b2) (bz1 b3))) = nI (n4 (bp b0) (bp b1) (bp b2) (bp b3)) := by
    unfold bcC
    rw [pk_ushrN (lt (by have := z0.1; omega) (by have := z1.1; omega) (by have := z2.1; omega) (by have := z3.1; omega)) 4 4 (by decide), show (252645135 : Int32) = nI 252645135 from rfl, nI_add, nI_and, show (2 : Nat) ^ 4 = 16 from rfl, sC h0 h1 h2 h3]
  have p0 := z0.2.2.2.1
  have p1 := z1.2.2.2.1
  have p2 := z2.2.2.2.1
  have p3 := z3.2.2.2.1
  have l3 : n4 (bp b0) (bp b1) (bp b2) (bp b3) < 2 ^ 32 := lt (by omega) (by omega) (by omega) (by omega)
  have l4 : n4 (bp b0) (bp b1) (bp b2) (bp b3) + n4 (bp b0) (bp b1) (bp b2) (bp b3) / 256 < 2 ^ 32 := by unfold n4; omega
  have l5 : n4 (bp b0) (bp b1) (bp b2) (bp b3) + n4 (bp b0) (bp b1) (bp b2) (bp b3) / 256 + (n4 (bp b0) (bp b1) (bp b2) (bp b3) + n4 (bp b0) (bp b1) (bp b2) (bp b3) / 256) / 65536 < 2 ^ 32 := by unfold n4; omega
  rw [eA, eB, eC]
  unfold bcD bcE
  rw [pk_ushrN l3 8 8 (by decide), nI_add, show (2 : Nat) ^ 8 = 256 from rfl, pk_ushrN l4 16 16 (by decide), nI_add, show (2 : Nat) ^ 16 = 65536 from rfl, pk_andN l5 6 (by decide), show (2 : Nat) ^ 6 = 64 from rfl, sD p0 p1 p2 p3]
/-- the bits below k -/
noncomputable def pnN (n : Nat) : Nat → Nat
  | 0 => 0
  | k + 1 => pnN n k + n / 2 ^ k % 2
theorem pnN_8 (b A : Nat) (hb : b < 256) : pnN (b + 256 * A) 8 = bp b := by
  show 0 + (b + 256 * A) / 2 ^ 0 % 2 + (b + 256 * A) / 2 ^ 1 % 2 + (b + 256 * A) / 2 ^ 2 % 2 + (b + 256 * A) / 2 ^ 3 % 2 + (b + 256 * A) / 2 ^ 4 % 2 + (b + 256 * A) / 2 ^ 5 % 2 + (b + 256 * A) / 2 ^ 6 % 2 + (b + 256 * A) / 2 ^ 7 % 2 = bp b
  unfold bp
  omega
theorem pnN_s (b A : Nat) (hb : b < 256) : ∀ k, pnN (b + 256 * A) (8 + k) = bp b + pnN A k := by
  intro k
  induction k with
  | zero => exact pnN_8 b A hb
  | succ k ih =>
    show pnN (b + 256 * A) (8 + k) + (b + 256 * A) / 2 ^ (8 + k) % 2 = bp b + (pnN A k + A / 2 ^ k % 2)
    have e : (b + 256 * A) / 2 ^ (8 + k) = A / 2 ^ k := by
      rw [Nat.pow_add, ← Nat.div_div_eq_div_mul, show (b + 256 * A) / 2 ^ 8 = A by omega]
    rw [ih, e]
    omega
set_option maxRecDepth 100000 in
theorem pnN_6 : ∀ b, b < 64 → pnN b 6 = bp b := by decide +kernel
theorem pnN_30 {b0 b1 b2 b3 : Nat} (h0 : b0 < 256) (h1 : b1 < 256) (h2 : b2 < 256) (h3 : b3 < 64) : pnN (n4 b0 b1 b2 b3) 30 = bp b0 + bp b1 + bp b2 + bp b3 := by
  unfold n4
  rw [show (30 : Nat) = 8 + (8 + (8 + 6)) from rfl, pnN_s _ _ h0, pnN_s _ _ h1, pnN_s _ _ h2, pnN_6 _ h3]
  omega
end PT4x4
section PT4x5
/-! ===== how many members a set has ===== -/
/-- how many slices there are of a set, below one -/
noncomputable def pcb (s i : Int32) : Int := if ((s >>> (i &&& 31)) &&& 1) = 1 then 1 else 0
noncomputable def pcn (s : Int32) : Nat → Int
  | 0 => 0
  | k + 1 => pcn s k + pcb s (Int32.ofNat k)
theorem pcb_in (s i : Int32) : 0 ≤ pcb s i ∧ pcb s i ≤ 1 := by unfold pcb; split <;> omega
theorem of_toNat {i : Int32} (h : 0 ≤ i.toInt) : Int32.ofNat i.toInt.toNat = i := by
  have h2 := i32 i
  have h3 : Int32.ofNat i.toInt.toNat = nI i.toInt.toNat := rfl
  rw [h3]
  exact Int32.toInt_inj.mp (by rw [nI_toInt (by omega)]; omega)
theorem pcn_step {s i : Int32} {z w b : Int} (h : w = pcn s i.toInt.toNat) (h0 : 0 ≤ i.toInt) (hz : z = i.toInt + 1) (hb : b = pcb s i) : w + b = pcn s z.toNat := by
  rw [show z.toNat = i.toInt.toNat + 1 by omega]
  show _ = pcn s i.toInt.toNat + pcb s (Int32.ofNat i.toInt.toNat)
  rw [of_toNat h0, h, hb]
theorem pcn_mono {s : Int32} (a : Nat) : ∀ b : Nat, pcn s a ≤ pcn s (a + b) := fun b => by
  induction b with
  | zero => exact Int.le_refl _
  | succ b ih =>
    have h1 : pcn s (a + (b + 1)) = pcn s (a + b) + pcb s (Int32.ofNat (a + b)) := rfl
    have h2 := pcb_in s (Int32.ofNat (a + b))
    omega
theorem pcn_le {s : Int32} {a b : Nat} (h : a ≤ b) : pcn s a ≤ pcn s b := by
  have := pcn_mono (s := s) a (b - a)
  rw [show a + (b - a) = b by omega] at this
  exact this
theorem pcb1 {s i : Int32} (h : ((s >>> (i &&& 31)) &&& 1) = 1) : (1 : Int) = pcb s i := by unfold pcb; rw [if_pos h]
theorem pcb0 {s i : Int32} (h : ¬ ((s >>> (i &&& 31)) &&& 1) = 1) : (0 : Int) = pcb s i := by unfold pcb; rw [if_neg h]
/-! ===== the count of a set's members, both ways ===== -/
theorem sl32 : ∀ n, n < 32 → ((nI n &&& 31).toBitVec.smod 32).toNat = n := by decide +kernel
theorem pcb_nI {n i : Nat} (hn : n < 2 ^ 30) (hi : i < 30) : pcb (nI n) (Int32.ofNat i) = ((n / 2 ^ i % 2 : Nat) : Int) := by
  unfold pcb
  have hd : n / 2 ^ i ≤ n := Nat.div_le_self _ _
  have h : nI n >>> (Int32.ofNat i &&& 31) = nI (n / 2 ^ i) := pk_shrN (by omega) (nI i &&& 31) i (sl32 i (by omega))
  rw [h, pk_andN (by omega) 1 (by decide), show (2 : Nat) ^ 1 = 2 from rfl]
  rcases Nat.mod_two_eq_zero_or_one (n / 2 ^ i) with q | q
  · rw [q, if_neg (by decide)]; rfl
  · rw [q, if_pos (by decide)]; rfl
theorem pcn_nI {n : Nat} (hn : n < 2 ^ 30) : ∀ k, k ≤ 30 → pcn (nI n) k = (pnN n k : Int) := by
  intro k
  induction k with
  | zero => intro _; rfl
  | succ k ih =>
    intro hk
    show pcn (nI n) k + pcb (nI n) (Int32.ofNat k) = ((pnN n k + n / 2 ^ k % 2 : Nat) : Int)
    rw [ih (by omega), pcb_nI hn (by omega)]
    omega
theorem bc_pcn {v : Int32} (h0 : 0 ≤ v.toInt) (h1 : v.toInt ≤ 1073741823) : (bcE (bcD (bcC (bcB (bcA v)))) &&& 63).toInt = pcn v 30 := by
  obtain ⟨n, hn⟩ : ∃ n : Nat, v.toInt = (n : Int) := ⟨v.toInt.toNat, by omega⟩
  have hv : v = nI n := Int32.toInt_inj.mp (by rw [hn]; exact (nI_toInt (by omega)).symm)
  have e : n = n4 (n % 256) (n / 256 % 256) (n / 65536 % 256) (n / 16777216) := by unfold n4; omega
  have h30 : n < 2 ^ 30 := by omega
  have k0 : n % 256 < 256 := by omega
  have k1 : n / 256 % 256 < 256 := by omega
  have k2 : n / 65536 % 256 < 256 := by omega
  have k3 : n / 16777216 < 64 := by omega
  have b := bc_nI k0 k1 k2 (show n / 16777216 < 256 by omega)
  have p := pnN_30 k0 k1 k2 k3
  rw [← e] at b p
  have m0 := (bl3 _ k0).2.2.2.1
  have m1 := (bl3 _ k1).2.2.2.1
  have m2 := (bl3 _ k2).2.2.2.1
  have m3 := (bl3 _ (show n / 16777216 < 256 by omega)).2.2.2.1
  rw [hv, b, pcn_nI h30 30 (Nat.le_refl _), p]
  exact nI_toInt (by omega)
theorem sp_J6_bitCount_0f7a4 {d : Nat} {Q : Qt} {v0 : Int32} {I : Im} {J : Jm} {R : Rm} (hB0 : Bd I) (hR0 : RI R) (hQ : ∀ (x : Int32) (y : Int64) (I2 : Im) (J2 : Jm), Bd I2 → (I = I2 ∧ (0 ≤ v0.toInt ∧ v0.toInt ≤ 1073741823 → x.toInt = pcn v0 30)) → Q x y I2 J2 R) : AM (d + 1) 319 112 [.int v0] I J R Q := w_J6_bitCount_0f7a4 (hQ _ 0 _ _ hB0 ⟨rfl, fun h => bc_pcn h.1 h.2⟩)
end PT4x5
section PT4x6
/-! ===== the game of the plate, as both sides reckon it ===== -/
theorem nI_or (a b : Nat) : nI a ||| nI b = nI (a ||| b) := by
  apply Int32.toBitVec_inj.1
  show BitVec.ofNat 32 a ||| BitVec.ofNat 32 b = BitVec.ofNat 32 (a ||| b)
  apply BitVec.eq_of_getLsbD_eq
  intro i hi
  simp [hi]
theorem sh1_N : ∀ k, k < 31 → (1 : Int32) <<< (nI k &&& 31) = nI (2 ^ k) := by decide +kernel
theorem nI_inj {a b : Nat} (ha : a < 2 ^ 31) (hb : b < 2 ^ 31) (h : nI a = nI b) : a = b := by
  have h1 := congrArg Int32.toInt h
  rw [nI_toInt (by omega), nI_toInt (by omega)] at h1
  omega
theorem nI_ofN {v : Int32} (h : 0 ≤ v.toInt) : v = nI v.toInt.toNat := (of_toNat h).symm
theorem and_p0 {M k : Nat} (h : M.testBit k = false) : M &&& 2 ^ k = 0 := by
  apply Nat.eq_of_testBit_eq
  intro i
  rw [Nat.testBit_and, Nat.testBit_two_pow, Nat.zero_testBit]
  by_cases q : k = i
  · subst q; simp [h]
  · simp [q]
theorem and_p1 {M k : Nat} (h : M.testBit k = true) : M &&& 2 ^ k = 2 ^ k := by
  apply Nat.eq_of_testBit_eq
  intro i
  rw [Nat.testBit_and, Nat.testBit_two_pow]
  by_cases q : k = i
  · subst q; simp [h]
  · simp [q]
theorem tb_or2 {M k : Nat} : (M ||| 2 ^ k).testBit k = true := by
  rw [Nat.testBit_or, Nat.testBit_two_pow]; simp
theorem tb_ne {M k i : Nat} (h : ¬ i = k) : (M ||| 2 ^ k).testBit i = M.testBit i := by
  rw [Nat.testBit_or, Nat.testBit_two_pow]
  simp [show ¬ k = i from fun q => h q.symm]
theorem or_lt {M k n : Nat} (h : M < 2 ^ n) (hk : k < n) : M ||| 2 ^ k < 2 ^ n := Nat.or_lt_two_pow h (Nat.pow_lt_pow_right (by decide) hk)
/-- the scribe's test whether a slice lies there -/
theorem orI {v1 v2 : Int32} (h1 : 0 ≤ v1.toInt) (h2 : 0 ≤ v2.toInt ∧ v2.toInt < 31) : v1 ||| ((1 : Int32) <<< (v2 &&& 31)) = nI (v1.toInt.toNat ||| 2 ^ v2.toInt.toNat) := by
  have e1 := nI_ofN h1
  have e2 := nI_ofN h2.1
  have e3 : (1 : Int32) <<< (v2 &&& 31) = nI (2 ^ v2.toInt.toNat) := by
    have := sh1_N v2.toInt.toNat (by omega)
    rwa [← e2] at this
  rw [e3]
  conv => lhs; rw [e1]
  exact nI_or _ _
/-- a reference's test whether a slice lies there -/
theorem isOf_iff {v1 v2 : Int32} (h1 : 0 ≤ v1.toInt) (h2 : 0 ≤ v2.toInt ∧ v2.toInt < 31) : ((v1 >>> (v2 &&& 31)) &&& 1) = 1 ↔ v1.toInt.toNat.testBit v2.toInt.toNat = true := by
  have i1 := i32 v1
  have hd : v1.toInt.toNat / 2 ^ v2.toInt.toNat ≤ v1.toInt.toNat := Nat.div_le_self _ _
  have h : v1 >>> (v2 &&& 31) = nI (v1.toInt.toNat / 2 ^ v2.toInt.toNat) := by
    have := pk_shrN (n := v1.toInt.toNat) (by omega) (nI v2.toInt.toNat &&& 31) v2.toInt.toNat (sl32 v2.toInt.toNat (by omega))
    rw [← nI_ofN h1, ← nI_ofN h2.1] at this
    exact this
  rw [h, pk_andN (by omega) 1 (by decide), show (2 : Nat) ^ 1 = 2 from rfl, Nat.testBit_eq_decide_div_mod_eq, decide_eq_true_eq]
  rcases Nat.mod_two_eq_zero_or_one (v1.toInt.toNat / 2 ^ v2.toInt.toNat) with q | q
  · rw [q]
    exact ⟨fun z => absurd z (by decide), fun z => absurd z (by decide)⟩
  · rw [q]
    exact ⟨fun _ => rfl, fun _ => rfl⟩
/-- and of a set, whether a slice is of it -/
theorem isIn_iff {v1 v2 : Int32} (h1 : 0 ≤ v1.toInt) (h2 : 0 ≤ v2.toInt ∧ v2.toInt < 31) : v1 &&& ((1 : Int32) <<< (v2 &&& 31)) = 0 ↔ v1.toInt.toNat.testBit v2.toInt.toNat = false := by
  have i1 := i32 v1
  have e1 := nI_ofN h1
  have e2 := nI_ofN h2.1
  have e3 : (1 : Int32) <<< (v2 &&& 31) = nI (2 ^ v2.toInt.toNat) := by
    have := sh1_N v2.toInt.toNat (by omega)
    rwa [← e2] at this
  have e4 : v1 &&& ((1 : Int32) <<< (v2 &&& 31)) = nI (v1.toInt.toNat &&& 2 ^ v2.toInt.toNat) := by
    rw [e3]
    conv => lhs; rw [e1]
    exact nI_and _ _
  rw [e4]
  cases hb : v1.toInt.toNat.testBit v2.toInt.toNat with
  | false => exact ⟨fun _ => rfl, fun _ => by rw [and_p0 hb]; rfl⟩
  | true =>
    refine ⟨fun q => ?_, fun q => by cases q⟩
    rw [and_p1 hb] at q
    have h3 : 2 ^ v2.toInt.toNat = 0 := nI_inj (b := 0) (Nat.pow_lt_pow_right (by decide) (by omega)) (by decide) q
    have h4 : 0 < 2 ^ v2.toInt.toNat := Nat.pow_pos (by decide)
    omega
/-- a slice's crumbs; what those of a plate are together -/
noncomputable def prt (s : Int32) : Int := if 1 ≤ s.toInt then 2329089562800 / s.toInt else 0
noncomputable def smN (f : Nat → Int32) : Nat → Nat → Int
  | 0, _ => 0
  | k + 1, M => smN f k M + (if M.testBit k then prt (f k) else 0)
theorem tn_nI {X : Nat} (h : X < 2 ^ 31) : Int32.toNatClampNeg (nI X) = X := by
  show (nI X).toInt.toNat = X
  rw [nI_toInt h]; omega
theorem nI_k1 (k : Nat) : nI k + 1 = nI (k + 1) := nI_add k 1
theorem pcb_tb {v : Int32} {i : Nat} (h : 0 ≤ v.toInt) (hi : i < 31) : pcb v (Int32.ofNat i) = if v.toInt.toNat.testBit i = true then 1 else 0 := by
  have h2 := isOf_iff (v1 := v) (v2 := nI i) h (by rw [nI_toInt (by omega)]; omega)
  rw [nI_toInt (by omega), Int.toNat_natCast] at h2
  unfold pcb
  change (if ((v >>> (nI i &&& 31)) &&& 1) = 1 then (1 : Int) else 0) = _
  by_cases q : v.toInt.toNat.testBit i = true
  · rw [if_pos q, if_pos (h2.mpr q)]
  · rw [if_neg q, if_neg (fun z => q (h2.mp z))]
end PT4x6
section PT4x7
/-! ===== a text's tokens, as both readers take them ===== -/
noncomputable def isBl (x : Int32) : Bool := decide (x = 32) || decide (x = 10)
noncomputable def isLe (x : Int32) : Bool := !decide (x < 97) && !decide (122 < x)
noncomputable def isDi (x : Int32) : Bool := !decide (x < 48) && !decide (57 < x)
noncomputable def isSg (x : Int32) : Bool := decide (x = 59) || (decide (x = 60) || (decide (x = 62) || decide (x = 61)))
/-- how far a row of bytes of a kind goes -/
noncomputable def rnE (p : Int32 → Bool) (T : Nat → Int32) (e : Nat) : Nat → Nat → Nat
  | 0, i => i
  | f + 1, i => if i < e then (if p (T i) = true then rnE p T e f (i + 1) else i) else i
noncomputable def rnX (p : Int32 → Bool) (T : Nat → Int32) (e i : Nat) : Nat := rnE p T e (e - i) i
/-- letters as a number; 0 for more than eight -/
noncomputable def leN (T : Nat → Int32) (s : Nat) : Nat → Int64
  | 0 => 0
  | k + 1 => if 8 ≤ k then 0 else leN T s k * 32 + Int32.toInt64 ((T (s + k) - 97) + 1)
/-- digits as a number; 0 for more than four -/
noncomputable def diN (T : Nat → Int32) (s : Nat) : Nat → Int32
  | 0 => 0
  | k + 1 => if 4 ≤ k then 0 else diN T s k * 10 + (T (s + k) - 48)
theorem leN_s (T : Nat → Int32) (s k : Nat) : leN T s (k + 1) = if 8 ≤ k then 0 else leN T s k * 32 + Int32.toInt64 ((T (s + k) - 97) + 1) := rfl
theorem diN_s (T : Nat → Int32) (s k : Nat) : diN T s (k + 1) = if 4 ≤ k then 0 else diN T s k * 10 + (T (s + k) - 48) := rfl
/-- a word's number: the last one that it is -/
noncomputable def wiN (w : Int64) : Nat → Int32
  | 0 => 0
  | k + 1 => if rsv.getD (k + 1) 0 = w then nI (k + 1) else wiN w k
/-- a token: where it starts, kind (0 none, 1 word, 2 number, 3 sign, 4 no token), number or sign, letters, where it ends -/
noncomputable abbrev Tok : Type := Nat × Nat × Int32 × Int64 × Nat
noncomputable def tS (t : Tok) : Nat := t.1
noncomputable def tK (t : Tok) : Nat := t.2.1
noncomputable def tV (t : Tok) : Int32 := t.2.2.1
noncomputable def tW (t : Tok) : Int64 := t.2.2.2.1
noncomputable def tB (t : Tok) : Nat := t.2.2.2.2
/-- what stands from s on, where no blank stands -/
noncomputable def tokW (T : Nat → Int32) (e s : Nat) : Tok :=
  if e ≤ s then (s, 0, 0, 0, s)
  else if isLe (T s) = true then (s, 1, 0, leN T s (rnX isLe T e s - s), rnX isLe T e s)
  else if isDi (T s) = true then (s, (if rnX isDi T e s - s ≤ 4 then 2 else 4), diN T s (rnX isDi T e s - s), 0, rnX isDi T e s)
  else (s, (if isSg (T s) = true then 3 else 4), T s, 0, s + 1)
noncomputable def tok (T : Nat → Int32) (e a : Nat) : Tok := tokW T e (rnX isBl T e a)
/-- the token's word, -1 for what is none -/
noncomputable def tI (t : Tok) : Int32 := if tK t = 1 then wiN (tW t) 21 else -1
theorem rnE_in {p : Int32 → Bool} {T : Nat → Int32} {e : Nat} : ∀ {f i : Nat}, i ≤ e → i ≤ rnE p T e f i ∧ rnE p T e f i ≤ e := by
  intro f
  induction f with
  | zero => intro i h; exact ⟨Nat.le_refl _, h⟩
  | succ f ih =>
    intro i h
    unfold rnE
    by_cases q : i < e
    · rw [if_pos q]
      by_cases q2 : p (T i) = true
      · rw [if_pos q2]
        have := ih (i := i + 1) (by omega)
        omega
      · rw [if_neg q2]; omega
    · rw [if_neg q]; omega
theorem rnX_in {p : Int32 → Bool} {T : Nat → Int32} {e i : Nat} (h : i ≤ e) : i ≤ rnX p T e i ∧ rnX p T e i ≤ e := rnE_in h
/-- a step on -/
theorem rnX_s {p : Int32 → Bool} {T : Nat → Int32} {e i : Nat} (h : i < e) (hp : p (T i) = true) : rnX p T e i = rnX p T e (i + 1) := by
  unfold rnX
  rw [show e - i = (e - (i + 1)) + 1 by omega]
  conv => lhs; unfold rnE
  rw [if_pos h, if_pos hp]
/-- the end -/
theorem rnX_z {p : Int32 → Bool} {T : Nat → Int32} {e i : Nat} (h : i < e → p (T i) = false) : rnX p T e i = i := by
  unfold rnX
  by_cases q : i < e
  · rw [show e - i = (e - (i + 1)) + 1 by omega]
    unfold rnE
    rw [if_pos q, if_neg (by rw [h q]; decide)]
  · rw [show e - i = 0 by omega]; rfl
theorem isLe_t {x : Int32} : isLe x = true ↔ ¬ x < 97 ∧ ¬ 122 < x := by
  unfold isLe
  rw [Bool.and_eq_true, Bool.not_eq_true', Bool.not_eq_true', decide_eq_false_iff_not, decide_eq_false_iff_not]
theorem isDi_t {x : Int32} : isDi x = true ↔ ¬ x < 48 ∧ ¬ 57 < x := by
  unfold isDi
  rw [Bool.and_eq_true, Bool.not_eq_true', Bool.not_eq_true', decide_eq_false_iff_not, decide_eq_false_iff_not]
theorem isBl_t {x : Int32} : isBl x = true ↔ x = 32 ∨ x = 10 := by
  unfold isBl
  rw [Bool.or_eq_true, decide_eq_true_eq, decide_eq_true_eq]
theorem isSg_t {x : Int32} : isSg x = true ↔ x = 59 ∨ x = 60 ∨ x = 62 ∨ x = 61 := by
  unfold isSg
  rw [Bool.or_eq_true, Bool.or_eq_true, Bool.or_eq_true, decide_eq_true_eq, decide_eq_true_eq, decide_eq_true_eq, decide_eq_true_eq]
theorem isSg_no {x : Int32} (h1 : ¬ x = 59) (h2 : ¬ x = 60) (h3 : ¬ x = 62) (h4 : ¬ x = 61) : ¬ isSg x = true := fun z => by
  rcases isSg_t.mp z with z | z | z | z
  · exact h1 z
  · exact h2 z
  · exact h3 z
  · exact h4 z
theorem bf_of {b : Bool} (h : ¬ b = true) : b = false := by
  cases b
  · rfl
  · exact absurd rfl h
/-- where the token starts -/
theorem tok_s {T : Nat → Int32} {e a : Nat} (h : a ≤ e) : tS (tok T e a) = rnX isBl T e a ∧ a ≤ tS (tok T e a) ∧ tS (tok T e a) ≤ e := by
  have h1 := rnX_in (p := isBl) (T := T) h
  have key : tS (tok T e a) = rnX isBl T e a := by
    unfold tok tokW
    split
    · rfl
    · split
      · rfl
      · split <;> rfl
  rw [key]
  exact ⟨rfl, h1.1, h1.2⟩
theorem tok_b {T : Nat → Int32} {e a : Nat} (h : a ≤ e) : tS (tok T e a) ≤ tB (tok T e a) ∧ tB (tok T e a) ≤ e ∧ (¬ tK (tok T e a) = 0 → tS (tok T e a) < tB (tok T e a)) ∧ (tK (tok T e a) = 0 ↔ tS (tok T e a) = e) := by
  have h1 := rnX_in (p := isBl) (T := T) h
  unfold tok tokW
  generalize rnX isBl T e a = s at h1 ⊢
  split
  · exact ⟨Nat.le_refl _, by show s ≤ e; omega, fun q => absurd rfl q, fun _ => by show s = e; omega, fun _ => rfl⟩
  · have hs : s < e := by omega
    split
    · rename_i q
      have h2 := rnX_in (p := isLe) (T := T) (i := s + 1) (e := e) hs
      have h3 := rnX_s (p := isLe) hs q
      exact ⟨by show s ≤ rnX isLe T e s; omega, by show rnX isLe T e s ≤ e; omega, fun _ => by show s < rnX isLe T e s; omega, fun q => absurd (show (1 : Nat) = 0 from q) (by decide), fun q => absurd (show s = e from q) (by omega)⟩
    · split
      · rename_i q
        have h2 := rnX_in (p := isDi) (T := T) (i := s + 1) (e := e) hs
        have h3 := rnX_s (p := isDi) hs q
        refine ⟨by show s ≤ rnX isDi T e s; omega, by show rnX isDi T e s ≤ e; omega, fun _ => by show s < rnX isDi T e s; omega, fun q => ?_, fun q => absurd (show s = e from q) (by omega)⟩
        change (if rnX isDi T e s - s ≤ 4 then 2 else 4) = 0 at q
        split at q <;> omega
      · refine ⟨by show s ≤ s + 1; omega, by show s + 1 ≤ e; omega, fun _ => by show s < s + 1; omega, fun q => ?_, fun q => absurd (show s = e from q) (by omega)⟩
        change (if isSg (T s) = true then 3 else 4) = 0 at q
        split at q <;> omega
theorem tok_k {T : Nat → Int32} {e a : Nat} : tK (tok T e a) ≤ 4 := by
  unfold tok tokW
  generalize rnX isBl T e a = s
  split
  · show 0 ≤ 4; omega
  · split
    · show 1 ≤ 4; omega
    · split
      · show (if rnX isDi T e s - s ≤ 4 then 2 else 4) ≤ 4
        split <;> omega
      · show (if isSg (T s) = true then 3 else 4) ≤ 4
        split <;> omega
end PT4x7
