section PT15x0
/-! printed by grp9.py: the stores, the dues, what the men have, odds, cuts, the days: what keeps them -/
/-- the class's rows of them -/
noncomputable def arW9 : List Nat := [10, 12, 13, 14, 16, 18, 19, 20, 62, 64, 65, 66, 74, 76, 77, 78, 86, 88, 89, 90, 22, 23, 24, 25, 26, 28, 29, 30, 31, 32, 68, 69, 70, 71, 72, 80, 81, 82, 83, 84, 92, 93, 94, 95, 96]
noncomputable def badW9 (a : Nat) : Bool := arW9.any (fun b => Nat.beq a b)
noncomputable def okgW9 (ci k : Nat) : Bool := !(Nat.beq ci 0 && (Nat.beq k 0 || (Nat.beq k 6 || (Nat.beq k 7 || Nat.beq k 8)))) && !(Nat.beq ci 2 && Nat.ble 3 k)
noncomputable def okpW9 (ci k : Nat) : Bool := !(Nat.beq ci 0 && (Nat.beq k 1 || Nat.beq k 3)) && !Nat.beq ci 2
noncomputable def BP9 : List Nat := [21, 27, 67, 79, 91]
noncomputable def KW99 (I I2 : Im) : Prop := (∀ a, badW9 a = true → I2 a = I a) ∧ (∀ c, c ∈ BKL → I2 c 1 = I c 1 ∧ I2 c 3 = I c 3) ∧ ∀ c, c ∈ BP9 → I2 c = I c
theorem KW99.rf {I : Im} : KW99 I I := ⟨fun _ _ => rfl, fun _ _ => ⟨rfl, rfl⟩, fun _ _ => rfl⟩
theorem KW99.tr {I I2 I3 : Im} (h : KW99 I I2) (h2 : KW99 I2 I3) : KW99 I I3 := ⟨fun a q => (h2.1 a q).trans (h.1 a q), fun c q => ⟨(h2.2.1 c q).1.trans (h.2.1 c q).1, (h2.2.1 c q).2.trans (h.2.1 c q).2⟩, fun c q => (h2.2.2 c q).trans (h.2.2 c q)⟩
theorem badW9_ne {a b : Nat} (h : badW9 a = false) (hb : badW9 b = true) : ¬ b = a := fun q => by
  subst q
  rw [h] at hb
  exact absurd hb (by decide)
theorem arW9_sh : ∀ a, a ∈ arW9 → 100 ≤ (shl.getD (a - 1) (999, 0)).1 := by decide +kernel
theorem badW9_mem {a : Nat} (h : badW9 a = true) : a ∈ arW9 := by
  unfold badW9 at h
  obtain ⟨b, hb, e⟩ := List.any_eq_true.mp h
  have := Nat.eq_of_beq_eq_true e
  rw [this]; exact hb
theorem badW9_o {a ci : Nat} (h : (shl.getD (a - 1) (999, 0)).1 = ci) (hc : ci < 100) : badW9 a = false := by
  cases q : badW9 a with
  | false => rfl
  | true => have := arW9_sh a (badW9_mem q); omega
theorem BP9_sh : ∀ c, c ∈ BP9 → (shl.getD (c - 1) (999, 0)).1 = 2 := by decide +kernel
theorem okpW9_f {ci k : Nat} (h : okpW9 ci k = true) : (ci = 0 → ¬ 1 = k ∧ ¬ 3 = k) ∧ ¬ ci = 2 := by
  refine ⟨fun e => ⟨fun q => ?_, fun q => ?_⟩, fun e => ?_⟩
  · subst e; subst q; exact absurd h (by decide)
  · subst e; subst q; exact absurd h (by decide)
  · subst e
    unfold okpW9 at h
    rw [nb_refl, Bool.not_true, Bool.and_false] at h
    exact absurd h (by decide)
theorem stg_W9 {I0 : Im} : StG badW9 okpW9 (fun I _ _ => KW99 I0 I) := by
  refine ⟨fun I J R o ci k x h1 h2 h3 hF => ?_, fun I J R o ci k x h1 h2 h3 hF => hF, fun I J R a t j x h1 h2 hF => ?_, fun I J R a t j x h1 h2 hF => hF, fun I J R a0 a1 t p q m h1 h2 hF => ?_, fun I J R a0 a1 t p q m h1 h2 hF => hF, fun I J R o ci k x h1 h2 hF => hF⟩
  · have hb := badW9_o h1 h2
    refine ⟨fun a ha => (uI_ne (badW9_ne hb ha)).trans (hF.1 a ha), fun c hc => ?_, fun c hc => ?_⟩
    · by_cases ho : c = o
      · subst ho
        have e := (okpW9_f h3).1 (h1.symm.trans (BKL_sh c hc))
        exact ⟨(rd_k e.1).trans (hF.2.1 c hc).1, (rd_k e.2).trans (hF.2.1 c hc).2⟩
      · rw [uI_ne ho]; exact hF.2.1 c hc
    · have ho : ¬ c = o := fun q => by
        subst q
        exact (okpW9_f h3).2 (h1.symm.trans (BP9_sh c hc))
      rw [uI_ne ho]; exact hF.2.2 c hc
  · refine ⟨fun b hb => (uI_ne (badW9_ne h2 hb)).trans (hF.1 b hb), fun c hc => ?_, fun c hc => ?_⟩
    · have := BKL_sh c hc
      rw [uI_ne (fun q => by subst q; omega)]; exact hF.2.1 c hc
    · have := BP9_sh c hc
      rw [uI_ne (fun q => by subst q; omega)]; exact hF.2.2 c hc
  · refine ⟨fun b hb => (cI_ne (badW9_ne h2 hb)).trans (hF.1 b hb), fun c hc => ?_, fun c hc => ?_⟩
    · have := BKL_sh c hc
      have e : cI I a0 a1 p q m c = I c := cI_ne (fun z => by subst z; omega)
      rw [e]; exact hF.2.1 c hc
    · have := BP9_sh c hc
      have e : cI I a0 a1 p q m c = I c := cI_ne (fun z => by subst z; omega)
      rw [e]; exact hF.2.2 c hc
set_option maxRecDepth 100000 in
theorem gf_W9 : ∀ o ci k, 0 < o → (shl.getD (o - 1) (999, 0)).1 = ci → fkd ci k = 4 → okgW9 ci k = true → badW9 (o + fof ci k) = false := by
  have each : ∀ q ∈ fk4L, okgW9 (shl.getD (q.1 - 1) (999, 0)).1 q.2 = true → badW9 (q.1 + fof (shl.getD (q.1 - 1) (999, 0)).1 q.2) = false := by decide +kernel
  intro o ci k h0 h1 h2 h3
  obtain ⟨i1, i2⟩ := fkd_in h2 (by decide)
  subst h1
  exact each (o, k) (List.contains_iff_mem.mp (fk4_all o (shl_in rfl (by omega)) h0 k i2 h2)) h3
theorem HRf_W9 {R : Rm} (h : RI R) : HRf badW9 R := by
  constructor
  · intro o ci k h0 h1 h2
    obtain ⟨i1, i2⟩ := fkd_in h2 (by decide)
    subst h1
    obtain ⟨rfl, hk⟩ := okH9_s (okH9_all o (shl_in rfl (by omega)) h0 k i2 h2)
    rcases hk with rfl | rfl | rfl | rfl
    · exact badW9_o (isO_spec h.now.1).2.2 (by decide)
    · exact badW9_o (isO_spec h.spare.1).2.2 (by decide)
    · exact badW9_o (isO_spec h.plan.1).2.2 (by decide)
    · exact badW9_o (isO_spec h.splan.1).2.2 (by decide)
  · intro a t j h1 h2
    have ha : a < 113 := by
      rcases Nat.lt_or_ge a 113 with q | q
      · exact q
      · unfold aL at h2
        rw [sh_out (by omega)] at h2
        exact absurd h2 (Nat.not_lt_zero _)
    have lt := shl9_lt a ha
    rcases arr9_all a ha (by omega) lt with ⟨rfl, e⟩ | ⟨rfl, e⟩ | ⟨rfl, e⟩
    · exact badW9_o (isO_spec (h.tray j (by omega)).2).2.2 (by decide)
    · exact badW9_o (isO_spec (h.kb j (by omega)).2).2.2 (by decide)
    · exact badW9_o (isO_spec (h.kd j (by omega)).2).2.2 (by decide)
noncomputable def okasW9 : List Value → Bool
  | [] => true
  | .ref a :: r => !badW9 a && okasW9 r
  | _ :: r => okasW9 r
theorem okasW9_kv : ∀ as : List Value, okasW9 as = true → kvS badW9 as := by
  intro as
  induction as with
  | nil => intro _; exact kvS.n
  | cons v r ih =>
    intro h
    cases v with
    | ref a =>
      unfold okasW9 at h
      rw [Bool.and_eq_true, Bool.not_eq_true'] at h
      exact kvS.c (kvO.rf h.1) (ih h.2)
    | _ => exact kvS.c (fun _ q => by cases q) (ih h)
/-- all that comes to those and is not pure: X0_addLoaves, X0_addMan, X0_copyFrom, X0_cutUp, X0_forget, X0_handBack, X0_handOver, X0_splitUp, X11_back, X11_bake, X11_bakery, X11_come, X11_copyStore, X11_cut, X11_days, X11_give, X11_live, X11_man, X11_mark, X11_mean, X11_owe, X11_rule, X11_split, X11_store, X11_take, X1_readInto, X1_readMan, X1_readOdds, X1_readStore, X2_add, X2_copyFrom, X2_forget, X2_pair, X3_readAct, X3_readCut, X3_readEnd, X3_readInto, X3_readStep, X3_readTest, X4_act, X4_addLoaves, X4_behindEnd, X4_behindStep, X4_cutUp, X4_doAny, X4_handOver, X4_run, X4_splitUp -/
noncomputable def dtyW9 : List Nat := [0, 1, 2, 4, 14, 15, 17, 18, 19, 21, 22, 23, 24, 27, 28, 29, 30, 31, 32, 33, 34, 35, 36, 37, 38, 40, 41, 42, 43, 46, 47, 48, 49, 50, 51, 53, 58, 74, 85, 88, 94, 99, 108, 109, 112, 113, 117, 118, 119, 120, 121, 122, 123, 124, 126, 144, 146, 147, 148, 172]
set_option maxRecDepth 100000 in
theorem clWW9 : ClT pul dtyW9 okgW9 okpW9 := ClT.ef (by decide +kernel)
theorem kpW9 {d mi n : Nat} {as : List Value} {I : Im} {J : Jm} {R : Rm} {Q : Qt} (hd : dtyW9.elem mi = false) (hR : RI R) (ha : okasW9 as = true) (h : AM d mi n as I J R (fun x y I' J' R' => KW99 I I' → Q x y I' J' R')) : AM d mi n as I J R Q :=
  AM_w (F := fun I' _ _ => KW99 I I') pul_kk clWW9 gf_W9 stg_W9 hd (okasW9_kv as ha) (HRf_W9 hR) KW99.rf h
/-- all that writes those fields -/
noncomputable def dtyF9 : List Nat := [0, 1, 2, 15, 17, 21, 22, 27, 28, 29, 30, 32, 33, 34, 35, 36, 37, 38, 40, 41, 43, 46, 47, 48, 49, 53, 58, 74, 85, 88, 94, 99, 108, 109, 119, 120, 126, 144, 146, 147, 148, 172]
set_option maxRecDepth 100000 in
theorem clF9 : ClT pul dtyF9 (fun _ _ => true) okpW9 := ClT.ef (by decide +kernel)
noncomputable def KF9 (I I2 : Im) : Prop := (∀ c, c ∈ BKL → I2 c 1 = I c 1 ∧ I2 c 3 = I c 3) ∧ ∀ c, c ∈ BP9 → I2 c = I c
theorem stg_F9 {I0 : Im} : StG (fun _ => false) okpW9 (fun I _ _ => KF9 I0 I) := by
  refine ⟨fun I J R o ci k x h1 h2 h3 hF => ⟨fun c hc => ?_, fun c hc => ?_⟩, fun I J R o ci k x h1 h2 h3 hF => hF, fun I J R a t j x h1 h2 hF => ⟨fun c hc => ?_, fun c hc => ?_⟩, fun I J R a t j x h1 h2 hF => hF, fun I J R a0 a1 t p q m h1 h2 hF => ⟨fun c hc => ?_, fun c hc => ?_⟩, fun I J R a0 a1 t p q m h1 h2 hF => hF, fun I J R o ci k x h1 h2 hF => hF⟩
  · by_cases ho : c = o
    · subst ho
      have e := (okpW9_f h3).1 (h1.symm.trans (BKL_sh c hc))
      exact ⟨(rd_k e.1).trans (hF.1 c hc).1, (rd_k e.2).trans (hF.1 c hc).2⟩
    · rw [uI_ne ho]; exact hF.1 c hc
  · have ho : ¬ c = o := fun q => by
      subst q
      exact (okpW9_f h3).2 (h1.symm.trans (BP9_sh c hc))
    rw [uI_ne ho]; exact hF.2 c hc
  · have := BKL_sh c hc
    rw [uI_ne (fun q => by subst q; omega)]; exact hF.1 c hc
  · have := BP9_sh c hc
    rw [uI_ne (fun q => by subst q; omega)]; exact hF.2 c hc
  · have := BKL_sh c hc
    have e : cI I a0 a1 p q m c = I c := cI_ne (fun z => by subst z; omega)
    rw [e]; exact hF.1 c hc
  · have := BP9_sh c hc
    have e : cI I a0 a1 p q m c = I c := cI_ne (fun z => by subst z; omega)
    rw [e]; exact hF.2 c hc
theorem arW9_in : ∀ a, a ∈ arW9 → (shl.getD (a - 1) (999, 0)).1 = 100 := by decide +kernel
/-- no row of ints is written, none of those fields -/
theorem kpX9 {d mi n : Nat} {as : List Value} {I : Im} {J : Jm} {R : Rm} {Q : Qt} (hd : nil8.elem mi = true) (hd2 : dtyF9.elem mi = false) (h : AM d mi n as I J R (fun x y I' J' R' => KW99 I I' → Q x y I' J' R')) : AM d mi n as I J R Q := by
  have h1 : AM d mi n as I J R (fun x y I' J' R' => KF9 I I' → (KW99 I I' ∧ (KW99 I I' → Q x y I' J' R'))) := AM_m d _ _ _ _ _ _ _ _ (fun x y I' J' R' q f => ⟨⟨fun a ha => q.1 a (arW9_in a (badW9_mem ha)), f.1, f.2⟩, q.2⟩) (AM_i nil8_t d mi n as I J R _ hd h)
  have h2 : AM d mi n as I J R (fun x y I' J' R' => KW99 I I' ∧ (KW99 I I' → Q x y I' J' R')) := AM_w (F := fun I' _ _ => KF9 I I') pul_kk clF9 gf_none stg_F9 hd2 kvS_none HRf_none ⟨fun _ _ => ⟨rfl, rfl⟩, fun _ _ => rfl⟩ h1
  exact AM_m d _ _ _ _ _ _ _ _ (fun x y I' J' R' q => q.2 q.1) h2
end PT15x0
section PT15x1
/-! printed by grpL.py: the latest life on both sides: what keeps it -/
noncomputable def badL9 (a : Nat) : Bool := Nat.beq a 112
noncomputable def okgL9 (ci k : Nat) : Bool := !(Nat.beq ci 12 && Nat.beq k 39)
noncomputable def okpL9 (ci k : Nat) : Bool := !Nat.beq ci 4 && !(Nat.beq ci 12 && Nat.beq k 40)
noncomputable def KL9 (I I2 : Im) : Prop := I2 49 = I 49 ∧ I2 112 = I 112 ∧ I2 97 40 = I 97 40
theorem KL9.rf {I : Im} : KL9 I I := ⟨rfl, rfl, rfl⟩
theorem KL9.tr {I I2 I3 : Im} (h : KL9 I I2) (h2 : KL9 I2 I3) : KL9 I I3 := ⟨h2.1.trans h.1, h2.2.1.trans h.2.1, h2.2.2.trans h.2.2⟩
theorem badL9_ne {a : Nat} (h : badL9 a = false) : ¬ 112 = a := fun q => by subst q; exact absurd h (by decide)
theorem badL9_o {a ci : Nat} (h : (shl.getD (a - 1) (999, 0)).1 = ci) (hc : ci < 100) : badL9 a = false := by
  cases q : badL9 a with
  | false => rfl
  | true =>
    have e : a = 112 := Nat.eq_of_beq_eq_true q
    subst e
    have z : (shl.getD (112 - 1) (999, 0)).1 = 100 := by decide +kernel
    omega
theorem shL49 : (shl.getD (49 - 1) (999, 0)).1 = 4 := by decide +kernel
theorem shL97 : (shl.getD (97 - 1) (999, 0)).1 = 12 := by decide +kernel
theorem shL112 : (shl.getD (112 - 1) (999, 0)).1 = 100 := by decide +kernel
theorem okpL9_f {ci k : Nat} (h : okpL9 ci k = true) : ¬ ci = 4 ∧ (ci = 12 → ¬ 40 = k) := by
  refine ⟨fun e => ?_, fun e q => ?_⟩
  · subst e
    unfold okpL9 at h
    rw [nb_refl, Bool.not_true, Bool.false_and] at h
    exact absurd h (by decide)
  · subst e; subst q; exact absurd h (by decide)
theorem stg_L9 {I0 : Im} : StG badL9 okpL9 (fun I _ _ => KL9 I0 I) := by
  refine ⟨fun I J R o ci k x h1 h2 h3 hF => ?_, fun I J R o ci k x h1 h2 h3 hF => hF, fun I J R a t j x h1 h2 hF => ?_, fun I J R a t j x h1 h2 hF => hF, fun I J R a0 a1 t p q m h1 h2 hF => ?_, fun I J R a0 a1 t p q m h1 h2 hF => hF, fun I J R o ci k x h1 h2 hF => hF⟩
  · have f := okpL9_f h3
    have s49 := shL49
    have s97 := shL97
    have s112 := shL112
    refine ⟨(uI_ne (fun q => by subst q; omega)).trans hF.1, (uI_ne (fun q => by subst q; omega)).trans hF.2.1, ?_⟩
    by_cases ho : 97 = o
    · subst ho
      exact (rd_k (f.2 (h1.symm.trans s97))).trans hF.2.2
    · rw [uI_ne ho]; exact hF.2.2
  · have s49 := shL49
    have s97 := shL97
    refine ⟨(uI_ne (fun q => by subst q; omega)).trans hF.1, (uI_ne (badL9_ne h2)).trans hF.2.1, ?_⟩
    rw [uI_ne (fun q => by subst q; omega)]; exact hF.2.2
  · have s49 := shL49
    have s97 := shL97
    have e49 : cI I a0 a1 p q m 49 = I 49 := cI_ne (fun z => by subst z; omega)
    have e97 : cI I a0 a1 p q m 97 = I 97 := cI_ne (fun z => by subst z; omega)
    have e112 : cI I a0 a1 p q m 112 = I 112 := cI_ne (badL9_ne h2)
    exact ⟨e49.trans hF.1, e112.trans hF.2.1, (congrFun e97 40).trans hF.2.2⟩
set_option maxRecDepth 100000 in
theorem gf_L9 : ∀ o ci k, 0 < o → (shl.getD (o - 1) (999, 0)).1 = ci → fkd ci k = 4 → okgL9 ci k = true → badL9 (o + fof ci k) = false := by
  have each : ∀ q ∈ fk4L, okgL9 (shl.getD (q.1 - 1) (999, 0)).1 q.2 = true → badL9 (q.1 + fof (shl.getD (q.1 - 1) (999, 0)).1 q.2) = false := by decide +kernel
  intro o ci k h0 h1 h2 h3
  obtain ⟨i1, i2⟩ := fkd_in h2 (by decide)
  subst h1
  exact each (o, k) (List.contains_iff_mem.mp (fk4_all o (shl_in rfl (by omega)) h0 k i2 h2)) h3
theorem HRf_L9 {R : Rm} (h : RI R) : HRf badL9 R := by
  constructor
  · intro o ci k h0 h1 h2
    obtain ⟨i1, i2⟩ := fkd_in h2 (by decide)
    subst h1
    obtain ⟨rfl, hk⟩ := okH9_s (okH9_all o (shl_in rfl (by omega)) h0 k i2 h2)
    rcases hk with rfl | rfl | rfl | rfl
    · exact badL9_o (isO_spec h.now.1).2.2 (by decide)
    · exact badL9_o (isO_spec h.spare.1).2.2 (by decide)
    · exact badL9_o (isO_spec h.plan.1).2.2 (by decide)
    · exact badL9_o (isO_spec h.splan.1).2.2 (by decide)
  · intro a t j h1 h2
    have ha : a < 113 := by
      rcases Nat.lt_or_ge a 113 with q | q
      · exact q
      · unfold aL at h2
        rw [sh_out (by omega)] at h2
        exact absurd h2 (Nat.not_lt_zero _)
    have lt := shl9_lt a ha
    rcases arr9_all a ha (by omega) lt with ⟨rfl, e⟩ | ⟨rfl, e⟩ | ⟨rfl, e⟩
    · exact badL9_o (isO_spec (h.tray j (by omega)).2).2.2 (by decide)
    · exact badL9_o (isO_spec (h.kb j (by omega)).2).2.2 (by decide)
    · exact badL9_o (isO_spec (h.kd j (by omega)).2).2.2 (by decide)
noncomputable def okasL9 : List Value → Bool
  | [] => true
  | .ref a :: r => !badL9 a && okasL9 r
  | _ :: r => okasL9 r
theorem okasL9_kv : ∀ as : List Value, okasL9 as = true → kvS badL9 as := by
  intro as
  induction as with
  | nil => intro _; exact kvS.n
  | cons v r ih =>
    intro h
    cases v with
    | ref a =>
      unfold okasL9 at h
      rw [Bool.and_eq_true, Bool.not_eq_true'] at h
      exact kvS.c (kvO.rf h.1) (ih h.2)
    | _ => exact kvS.c (fun _ q => by cases q) (ih h)
/-- all that comes to those and is not pure: X11_live, X11_mean, X12_live, X12_lived, X4_act, X4_addLoaves, X4_behindStep, X4_cutUp, X4_doAny, X4_draw, X4_handOver, X4_run, X4_splitUp -/
noncomputable def dtyL9 : List Nat := [0, 27, 32, 40, 41, 43, 46, 47, 48, 49, 50, 51, 52, 53, 58, 74, 85, 88, 94, 99, 144, 146, 172, 313, 314]
set_option maxRecDepth 100000 in
theorem clL9 : ClT pul dtyL9 okgL9 okpL9 := ClT.ef (by decide +kernel)
theorem kpL9 {d mi n : Nat} {as : List Value} {I : Im} {J : Jm} {R : Rm} {Q : Qt} (hd : dtyL9.elem mi = false) (hR : RI R) (ha : okasL9 as = true) (h : AM d mi n as I J R (fun x y I' J' R' => KL9 I I' → Q x y I' J' R')) : AM d mi n as I J R Q :=
  AM_w (F := fun I' _ _ => KL9 I I') pul_kk clL9 gf_L9 stg_L9 hd (okasL9_kv as ha) (HRf_L9 hR) KL9.rf h
end PT15x1
section PT15x2
/-! ===== the stores, the dues, the days: both sides alike ===== -/
/-- a bakery's block: as the document's numbers go -/
noncomputable def CW9 (C : Nat → Int32) : Prop := (∃ m, m ≤ 6 ∧ C 0 = nI m) ∧ (∀ d, 1 ≤ d → d ≤ 30 → 0 ≤ (C (3 + d)).toInt ∧ (C (3 + d)).toInt ≤ 99) ∧ ∀ k, k < mnN C → sh (C (34 + k)) (C (40 + k)) ∧ 0 ≤ (C (46 + k)).toInt ∧ (C (46 + k)).toInt ≤ 1073741823
/-- the class's bakery at o holds the block -/
noncomputable def BA99 (o : Nat) (C : Nat → Int32) (I : Im) : Prop := I o 1 = C 1 ∧ I o 3 = C 2 ∧ (∀ d, 1 ≤ d → d ≤ 30 → I (o + 1) d = C (3 + d)) ∧ ∀ k, k < mnN C → I (o + 3) k = C (34 + k) ∧ I (o + 4) k = C (40 + k) ∧ I (o + 5) k = C (46 + k)
/-- the class's days at p are the block's -/
noncomputable def DG9 (p : Nat) (C : Nat → Int32) (I : Im) (s : DS) : Prop := DOk s ∧ Wf9 s ∧ dD s = 0 ∧ DSp s ∧ SDc s p I ∧ C 53 = nI (dN s) ∧ ∀ t, t < dN s → C (54 + 9 * t) = kcR (dC s (dSp s t)).1 ∧ RcO (dC s (dSp s t)) C (54 + 9 * t) ∧ C (54 + 9 * t + 8) = nI (dNx s t)
noncomputable def DH9 (p : Nat) (C : Nat → Int32) (I : Im) : Prop := I p 0 = C 52 ∧ (¬ C 52 = 0 → ∃ s, DG9 p C I s)
noncomputable def KW9 (C : Nat → Int32) (o p : Nat) (I : Im) : Prop := CW9 C ∧ BA99 o C I ∧ DH9 p C I
noncomputable def blk9 (c : Nat) (I : Im) : Nat → Int32 := fun j => I 102 (c + j)
noncomputable def W9 (I : Im) (R : Rm) : Prop := KW9 (I 102) (R 1 7) (R 1 9) I ∧ ∀ j : Nat, j < 3 → (j : Int) < (I 97 23).toInt → KW9 (blk9 (324 * (j + 1)) I) (61 + 12 * j) (67 + 12 * j) I
noncomputable def s9 (I : Im) : StS9 := (fun d => I 102 (3 + d), fun k => I 102 (46 + k), I 102 2)
noncomputable def du9 (I : Im) : Du9 := fun k => (I 102 (34 + k), I 102 (40 + k))
section W9S
variable {I I1 I2 : Im} {J J1 J2 : Jm} {R : Rm} {C : Nat → Int32} {o p : Nat} {s : DS}
theorem CW9.m (h : CW9 C) : mnN C ≤ 6 ∧ C 0 = nI (mnN C) ∧ (C 0).toInt = (mnN C : Int) := by
  obtain ⟨⟨m, hm, e⟩, _⟩ := h
  rw [mnN_of hm e]
  exact ⟨hm, e, by rw [e]; exact nI_toInt (by omega)⟩
theorem SDc.cp (h : SDc s p I) (e : ∀ c, p ≤ c → c ≤ p + 5 → I2 c = I c) : SDc s p I2 := by
  refine ⟨by rw [e p (by omega) (by omega)]; exact h.1, fun k hk => ?_⟩
  rw [e (p + 1) (by omega) (by omega), e (p + 2) (by omega) (by omega), e (p + 3) (by omega) (by omega), e (p + 4) (by omega) (by omega), e (p + 5) (by omega) (by omega)]
  exact h.2 k hk
theorem DH9.cp (h : DH9 p C I) (e : ∀ c, p ≤ c → c ≤ p + 5 → I2 c = I c) : DH9 p C I2 := by
  refine ⟨by rw [e p (by omega) (by omega)]; exact h.1, fun h0 => ?_⟩
  obtain ⟨s, h1, h2, h3, h4, h5, h6⟩ := h.2 h0
  exact ⟨s, h1, h2, h3, h4, h5.cp e, h6⟩
theorem BA99.cp (h : BA99 o C I) (e1 : I2 o 1 = I o 1) (e3 : I2 o 3 = I o 3) (e : ∀ c, (c = o + 1 ∨ c = o + 3 ∨ c = o + 4 ∨ c = o + 5) → I2 c = I c) : BA99 o C I2 := by
  obtain ⟨h1, h2, h3, h4⟩ := h
  refine ⟨e1.trans h1, e3.trans h2, fun d a b => ?_, fun k hk => ?_⟩
  · rw [e (o + 1) (Or.inl rfl)]; exact h3 d a b
  · rw [e (o + 3) (by omega), e (o + 4) (by omega), e (o + 5) (by omega)]; exact h4 k hk
theorem pl_bp {R : Rm} (hR : RI R) : R 1 9 ∈ BP9 := by
  rcases hR.rp.2.1 with q | q <;> rw [q.1] <;> decide
theorem kd_bp {j : Nat} (hj : j < 3) : 67 + 12 * j ∈ BP9 := by
  rcases (show j = 0 ∨ j = 1 ∨ j = 2 by omega) with q | q | q <;> subst q <;> decide
theorem bp_five {c : Nat} (h : c ∈ BP9) : c = 21 ∨ c = 27 ∨ c = 67 ∨ c = 79 ∨ c = 91 := by simpa [BP9] using h
theorem KW99.bh (k : KW99 I I2) (ho : o ∈ BKL) (h : BA99 o C I) : BA99 o C I2 := by
  have e := k.2.1 o ho
  refine h.cp e.1 e.2 (fun c hc => k.1 c ?_)
  have h6 := bk_six ho
  rcases h6 with q | q | q | q | q <;> subst q <;> rcases hc with y | y | y | y <;> subst y <;> decide
theorem KW99.dh (k : KW99 I I2) (hp : p ∈ BP9) (h : DH9 p C I) : DH9 p C I2 := by
  refine h.cp (fun c h1 h2 => ?_)
  have h5 := bp_five hp
  by_cases q : c = p
  · subst q; exact k.2.2 c hp
  · refine k.1 c ?_
    rcases h5 with y | y | y | y | y <;> subst y
    · rcases (show c = 22 ∨ c = 23 ∨ c = 24 ∨ c = 25 ∨ c = 26 by omega) with y | y | y | y | y <;> subst y <;> decide
    · rcases (show c = 28 ∨ c = 29 ∨ c = 30 ∨ c = 31 ∨ c = 32 by omega) with y | y | y | y | y <;> subst y <;> decide
    · rcases (show c = 68 ∨ c = 69 ∨ c = 70 ∨ c = 71 ∨ c = 72 by omega) with y | y | y | y | y <;> subst y <;> decide
    · rcases (show c = 80 ∨ c = 81 ∨ c = 82 ∨ c = 83 ∨ c = 84 by omega) with y | y | y | y | y <;> subst y <;> decide
    · rcases (show c = 92 ∨ c = 93 ∨ c = 94 ∨ c = 95 ∨ c = 96 by omega) with y | y | y | y | y <;> subst y <;> decide
theorem W9.kp (hR : RI R) (h : W9 I R) (k : KW99 I I2) (e : I2 102 = I 102) (e23 : I2 97 23 = I 97 23) : W9 I2 R := by
  refine ⟨?_, fun j hj hm => ?_⟩
  · obtain ⟨h1, h2, h3⟩ := h.1
    rw [e]
    exact ⟨h1, k.bh (now_bk hR) h2, k.dh (pl_bp hR) h3⟩
  · rw [e23] at hm
    have eb : blk9 (324 * (j + 1)) I2 = blk9 (324 * (j + 1)) I := funext fun i => congrFun e _
    obtain ⟨h1, h2, h3⟩ := h.2 j hj hm
    rw [eb]
    exact ⟨h1, k.bh (kb_bk hj) h2, k.dh (kd_bp hj) h3⟩
theorem W9.r {R2 : Rm} (h : W9 I R) (e7 : R2 1 7 = R 1 7) (e9 : R2 1 9 = R 1 9) : W9 I R2 := by
  unfold W9 at h ⊢
  rw [e7, e9]; exact h
/-- what both sides' calls ask -/
theorem W9.hs (h : W9 I R) : HS9 (R 1 7) (mnN (I 102)) (s9 I) (s9 I) (du9 I) I := by
  obtain ⟨⟨h1, h2, -⟩, -⟩ := h
  have h6 := h1.m.1
  obtain ⟨c1, c2, c3⟩ := h1
  obtain ⟨b1, b2, b3, b4⟩ := h2
  have hb : StB (mnN (I 102)) (s9 I) := ⟨c2, fun i hi => (c3 i hi).2⟩
  exact ⟨⟨b3, fun k hk => (b4 k hk).2.2, b2⟩, ⟨fun _ _ _ => rfl, fun _ _ => rfl, rfl⟩, hb, hb, fun k hk => ⟨(b4 k hk).1, (b4 k hk).2.1⟩, fun _ _ => ⟨rfl, rfl⟩, h6⟩
/-- what the calls that change the store may write beside it -/
noncomputable abbrev WU9 (o : Nat) : Nat → Nat → Prop := fun c k => WBk o c k ∨ WRs c k ∨ c = 1 ∨ c = 49 ∨ c = 50 ∨ (c = 97 ∧ ¬ k = 23) ∨ c = 112
noncomputable abbrev FrU9 (o : Nat) (I : Im) (J : Jm) (I2 : Im) (J2 : Jm) : Prop := FrW (WU9 o) nV I J I2 J2
theorem FrCk.u9 (h : FrCk o I J I2 J2) : FrU9 o I J I2 J2 := FrW.up h (fun _ _ q => q.elim Or.inl (fun z => Or.inr (Or.inr (Or.inl z.1)))) (fun _ _ q => q)
theorem FrMk.u9 (h : FrMk I J I2 J2) : FrU9 o I J I2 J2 := FrW.up h (fun _ _ q => q.elim (fun z => Or.inr (Or.inl z)) (fun z => Or.inr (Or.inr (Or.inr (Or.inr (Or.inr (Or.inl ⟨z.1, by have := z.2; omega⟩))))))) (fun _ _ q => q)
theorem W9.op {s' : StS9} (hR : RI R) (h : W9 I R) (hF : FrU9 (R 1 7) I J I2 J2) (h9 : HS9 (R 1 7) (mnN (I 102)) s' s' (du9 I) I2) : W9 I2 R := by
  obtain ⟨hA, hB, hS, -, hdA, hdR, -⟩ := h9
  obtain ⟨⟨c0, b0, d0⟩, hk⟩ := h
  have h7 := bk_six (now_bk hR)
  have h9 := bp_five (pl_bp hR)
  have n7 := now_9 hR
  have n9 : R 1 9 = 21 ∨ R 1 9 = 27 := hR.rp.2.1.elim (fun q => Or.inl q.1) (fun q => Or.inr q.1)
  have keep : ∀ j, ¬ j = 2 → ¬ (4 ≤ j ∧ j ≤ 33) → ¬ (46 ≤ j ∧ j ≤ 51) → I2 102 j = I 102 j := fun j a b c => hF.i (fun q => by rcases q with (q | q | q) | q | q | q | q | q | q <;> omega)
  have em : mnN (I2 102) = mnN (I 102) := congrArg Int32.toNatClampNeg (keep 0 (by omega) (by omega) (by omega))
  have cell : ∀ c, 21 ≤ c → ¬ c = 49 → ¬ c = 50 → ¬ c = 97 → ¬ c = 102 → ¬ c = 112 → I2 c = I c := fun c a1 a2 a3 a4 a5 a6 => hF.c (fun k q => by rcases q with (q | q | q) | q | q | q | q | q | q <;> omega)
  have e23 : I2 97 23 = I 97 23 := hF.i (fun q => by rcases q with (q | q | q) | q | q | q | q | q | q <;> omega)
  have o1 : I2 (R 1 7) 1 = I (R 1 7) 1 := hF.i (fun q => by rcases q with (q | q | q) | q | q | q | q | q | q <;> omega)
  refine ⟨⟨?_, ?_, ?_⟩, fun j hj hm => ?_⟩
  · obtain ⟨⟨m, hm, e0⟩, c2, c3⟩ := c0
    refine ⟨⟨m, hm, (keep 0 (by omega) (by omega) (by omega)).trans e0⟩, fun d a b => ?_, fun k hk => ?_⟩
    · rw [hB.1 d a b]; exact hS.1 d a b
    · rw [em] at hk
      have := mnN_of hm e0
      rw [keep (34 + k) (by omega) (by omega) (by omega), keep (40 + k) (by omega) (by omega) (by omega), hB.2.1 k hk]
      exact ⟨(c3 k hk).1, hS.2 k hk⟩
  · obtain ⟨b1, b2, b3, b4⟩ := b0
    obtain ⟨⟨m, hm, e0⟩, -⟩ := c0
    have mm := mnN_of hm e0
    refine ⟨?_, ?_, fun d a b => ?_, fun k hk => ?_⟩
    · rw [o1, b1, keep 1 (by omega) (by omega) (by omega)]
    · rw [hA.2.2, hB.2.2]
    · rw [hA.1 d a b, hB.1 d a b]
    · rw [em] at hk
      refine ⟨?_, ?_, ?_⟩
      · rw [(hdA k hk).1, (hdR k hk).1]
      · rw [(hdA k hk).2, (hdR k hk).2]
      · rw [hA.2.1 k hk, hB.2.1 k hk]
  · have d1 := d0.cp (I2 := I2) (fun c a b => cell c (by omega) (by omega) (by omega) (by omega) (by omega) (by omega))
    refine ⟨by rw [d1.1, keep 52 (by omega) (by omega) (by omega)], fun h0 => ?_⟩
    rw [keep 52 (by omega) (by omega) (by omega)] at h0
    obtain ⟨s, g1, g2, g3, g4, g5, g6, g7⟩ := d1.2 h0
    refine ⟨s, g1, g2, g3, g4, g5, (keep 53 (by omega) (by omega) (by omega)).trans g6, fun t ht => ?_⟩
    obtain ⟨k1, k2, k3⟩ := g7 t ht
    exact ⟨(keep _ (by omega) (by omega) (by omega)).trans k1, k2.cp (fun k a b => keep k (by omega) (by omega) (by omega)), (keep _ (by omega) (by omega) (by omega)).trans k3⟩
  · rw [e23] at hm
    have eb : blk9 (324 * (j + 1)) I2 = blk9 (324 * (j + 1)) I := funext fun i => keep _ (by omega) (by omega) (by omega)
    obtain ⟨h1, h2, h3⟩ := hk j hj hm
    rw [eb]
    refine ⟨h1, h2.cp (congrFun (cell _ (by omega) (by omega) (by omega) (by omega) (by omega) (by omega)) 1) (congrFun (cell _ (by omega) (by omega) (by omega) (by omega) (by omega) (by omega)) 3) (fun c hc => cell c (by omega) (by omega) (by omega) (by omega) (by omega) (by omega)), h3.cp (fun c a b => cell c (by omega) (by omega) (by omega) (by omega) (by omega) (by omega))⟩
/-- bake, cut, split, give, take: both calls -/
theorem W9.two {s' : StS9} (hR : RI R) (h : W9 I R) (hC : FrCk (R 1 7) I J I1 J1) (hM : FrMk I1 J1 I2 J2) (h9 : HS9 (R 1 7) (mnN (I 102)) s' s' (du9 I) I2) : W9 I2 R := h.op hR (hC.u9.tr hM.u9) h9
end W9S
end PT15x2
section PT15x3
/-! ===== live(): both sides ===== -/
theorem va_of {c : CD} {f : Nat → Int32} {w : Nat} {m : Int32} {s lim : Int} (hk : f w = kcR c.1) (hr : RcO c f w) (h : Rec (f w).toInt (f (w + 1)).toInt (f (w + 2)).toInt (f (w + 3)).toInt (f (w + 5)).toInt (f (w + 8)).toInt s lim m.toInt) : VA9 m c ∧ VC9 m c := by
  obtain ⟨-, -, q0, q1, q2, q4, q6⟩ := h
  obtain ⟨r9, r2, r1, rT, -⟩ := hr
  rw [hk] at q0 q1 q2 q4 q6
  have z0 : (0 : Int32).toInt = 0 := rfl
  have z1 : (1 : Int32).toInt = 1 := rfl
  have z2 : (2 : Int32).toInt = 2 := rfl
  have z30 : (30 : Int32).toInt = 30 := rfl
  have z99 : (99 : Int32).toInt = 99 := rfl
  refine ⟨⟨fun e => ?_, fun e => ?_, fun e => ?_, fun e => ?_⟩, fun e => ?_, fun e => ?_⟩
  · obtain ⟨f1, f2, f3⟩ := r9 e
    have q := q0 (by rw [e]; rfl)
    rw [f1, f2, f3] at q
    refine ⟨⟨?_, ?_⟩, ⟨?_, ?_⟩, ⟨?_, ?_⟩⟩ <;> rw [le_i] <;> omega
  · obtain ⟨f1, f2⟩ := r2 (Or.inl e)
    have q := q1 (by rw [e]; rfl)
    rw [f1, f2] at q
    refine ⟨⟨?_, ?_⟩, ?_, ?_⟩ <;> rw [le_i] <;> omega
  · obtain ⟨f1, f2⟩ := r2 (Or.inr e)
    have q := q2 (e.elim (fun y => Or.inl (by rw [y]; rfl)) (fun y => Or.inr (by rw [y]; rfl)))
    rw [f1, f2] at q
    refine ⟨⟨?_, ?_⟩, ⟨?_, ?_⟩⟩
    · rw [le_i]; omega
    · rw [Int32.lt_iff_toInt_lt]; omega
    · rw [le_i]; omega
    · rw [le_i]; omega
  · have f1 := r1 (Or.inl e)
    have q := q4 (by rw [e]; rfl)
    rw [f1] at q
    refine ⟨?_, ?_⟩ <;> rw [le_i] <;> omega
  · have hT : isTs c.1 = true := by rcases e with e | e <;> rw [e] <;> rfl
    obtain ⟨f5, f1⟩ := rT hT
    have k6 : (kcR c.1).toInt = 6 := by rcases e with e | e <;> rw [e] <;> rfl
    have n5 : ¬ (teW c.1).toInt = 1 := by rcases e with e | e <;> rw [e] <;> decide
    have q := (q6 k6).2 (by rw [f5]; exact n5)
    rw [f1] at q
    refine ⟨?_, ?_⟩
    · rw [le_i]; omega
    · rw [Int32.lt_iff_toInt_lt]; omega
  · have hT : isTs c.1 = true := by rw [e]; rfl
    obtain ⟨f5, f1⟩ := rT hT
    have q := (q6 (by rw [e]; rfl)).1 (by rw [f5, e]; rfl)
    rw [f1] at q
    refine ⟨?_, ?_⟩ <;> rw [le_i] <;> omega
section LIV
variable {I I1 I2 : Im} {J J1 J2 : Jm} {R : Rm} {Q : Qt} {v x : Int32} {s : DS}
/-- what a run asks of the reference's block -/
theorem W9.ev (hB : Bd I) (h : W9 I R) (hd : ¬ I 102 52 = 0) (hg : DG9 (R 1 9) (I 102) I s) : Ev9 s (mnN (I 102)) (I 102 0) (I 102 1) (du9 I) I := by
  obtain ⟨⟨h1, -, -⟩, -⟩ := h
  obtain ⟨g1, g2, g3, g4, g5, g6, g7⟩ := hg
  have hm := h1.m
  refine ⟨⟨rfl, rfl, fun _ _ => ⟨rfl, rfl⟩⟩, ⟨hm.2.2, hm.1⟩, fun k hk => (h1.2.2 k hk).1, g1.1, fun t ht => ?_⟩
  obtain ⟨k1, k2, k3⟩ := g7 t ht
  have h52 : ¬ (I 102 52).toInt = 0 := fun z => hd (Int32.toInt_inj.mp z)
  have h53 : (I 102 53).toInt = (dN s : Int) := by rw [g6]; exact nI_toInt (by have := g1.1; omega)
  have hrec : Rec (I 102 (54 + 9 * t)).toInt (I 102 (54 + 9 * t + 1)).toInt (I 102 (54 + 9 * t + 2)).toInt (I 102 (54 + 9 * t + 3)).toInt (I 102 (54 + 9 * t + 5)).toInt (I 102 (54 + 9 * t + 8)).toInt (t : Int) (I 102 53).toInt (I 102 0).toInt := by
    have q := hB.ck.2.2 0 t (by decide) h52 (show (t : Int) < (I 102 53).toInt by omega)
    unfold RecOk at q
    rw [Nat.mul_zero, Nat.zero_add, Nat.zero_add] at q
    exact q
  have va := va_of k1 k2 hrec
  exact ⟨⟨k1, k2, k3⟩, va.1, va.2⟩
/-- the days' run of what is now -/
noncomputable abbrev RN9 (s : DS) (I : Im) (v : Int32) : Int32 × Nat × Rn9 := rn9 s (I 102 0) (I 102 1) (du9 I) 1000000 0 (I 50) 0 (s9 I, v, 0, 0, 0)
noncomputable def okV9 (v : Int32) (I : Im) : Prop := ((0 : Int32) ≤ v ∧ v ≤ 9999) ∧ ¬ I 102 52 = 0
noncomputable abbrev WLi9 (o : Nat) : Nat → Nat → Prop := fun c k => WLf 49 o c k ∨ (c = 1 ∧ k = 0)
/-- the class's live() -/
noncomputable def HLi9 (R : Rm) (v : Int32) (I : Im) (J : Jm) (x : Int32) (I1 : Im) (J1 : Jm) : Prop :=
  (¬ okV9 v I ∧ x = -1 ∧ I1 = uI I 1 0 (I1 1 0) ∧ J1 = J) ∨ (okV9 v I ∧ ∃ s, DG9 (R 1 9) (I 102) I s ∧ x = nI (RN9 s I v).2.1 ∧ LfA 49 (R 1 7) (mnN (I 102)) (I 102 2) (RN9 s I v).2.2 I1 ∧ I1 49 0 = 1 ∧ I1 49 6 = (RN9 s I v).1 ∧ FrW (WLi9 (R 1 7)) nV I J I1 J1)
theorem uI_self {k : Nat} {z : Int32} : uI I 1 0 z = uI I 1 0 (uI I 1 0 z 1 0) := by rw [rd_eq]
theorem cx_live9 {e : Nat} (hB : Bd I) (hR : RI R) (em : I (R 1 7) 4 = I 102 0) (h : W9 I R) : AM (e + 7) 144 112 [.ref 1, .int v] I J R (fun x _ I1 J1 _ => HLi9 R v I J x I1 J1) := by
  have hO := hR.now.1
  have hP := hR.plan.1
  have n7 := now_9 hR
  have n9 : R 1 9 = 21 ∨ R 1 9 = 27 := hR.rp.2.1.elim (fun q => Or.inl q.1) (fun q => Or.inr q.1)
  obtain ⟨c0, b0, d0⟩ := h.1
  have no : ∀ z : Int32, ¬ okV9 v I → HLi9 R v I J (-1) (uI I 1 0 z) J := fun z hz => Or.inl ⟨hz, rfl, uI_self (k := 0), rfl⟩
  refine w_X11_live ⟨fun c => w_X11_refuse (no _ (fun z => ile.mpr z.1.1 c)), fun c1 => ⟨fun c2 => ⟨hR.plan.2, bif_t hP ⟨fun c3 => ?_, fun c3 => w_X11_refuse (no _ (fun z => z.2 (by rw [← d0.1]; exact c3)))⟩⟩, fun c2 => w_X11_refuse (no _ (fun z => c2 z.1.2))⟩⟩
  have h52 : ¬ I 102 52 = 0 := fun z => c3 (d0.1.trans z)
  obtain ⟨s, hg⟩ := d0.2 h52
  have hE := h.ev hB h52 hg
  have hs := h.hs
  obtain ⟨g1, g2, g3, g4, g5, g6, g7⟩ := id hg
  have hV : ∀ a, a < dL s → VC9 (I 102 0) (dC s a) := fun a ha => by
    rcases (g2.2.2.2 a ha).2.2 with q | ⟨t, ht, q⟩
    · exact ⟨fun z => by rw [q] at z; exact absurd z (by decide), fun z => by rw [q] at z; exact absurd z (by decide)⟩
    · have := (hE.2.2.2.2 t ht).2.2
      rw [q] at this; exact this
  refine ⟨hR.now.2, hR.plan.2, px_run4 (du := du9 I) (od := I 102 1) (st := s9 I) rfl hO hP (by omega) (by omega) g1 g2 g5 hV em hE.2.1 b0.1 hs.2.2.2.2.1 hE.2.2.1 hs.1 (fun I2 hA e0 e1 e6 hF => w_X11_answer ?_)⟩
  refine Or.inr ⟨⟨⟨ile.mp c1, c2⟩, h52⟩, s, hg, e1, ?_, ?_, ?_, ?_⟩
  · obtain ⟨a1, a2, a3, a4, a5, a6⟩ := hA
    exact ⟨a1.one n7, (rd_ne (by decide)).trans a2, (rd_ne (by decide)).trans a3, (rd_ne (by decide)).trans a4, (rd_ne (by decide)).trans a5, (rd_ne (by decide)).trans a6⟩
  · exact (rd_ne (by decide)).trans e0
  · exact (rd_ne (by decide)).trans e6
  · exact (FrW.up hF (fun _ _ q => Or.inl q) (fun _ _ q => q)).u (Or.inr ⟨rfl, rfl⟩)
theorem Sq9.ct {s : DS} : ∀ {f t u a b : Nat}, Sq9 s f t u a b → Sq9 s (u - t) t u a b := by
  intro f
  induction f with
  | zero =>
    intro t u a b h
    obtain ⟨h1, h2⟩ := h
    subst h1
    rw [Nat.sub_self]
    exact ⟨rfl, h2⟩
  | succ f ih =>
    intro t u a b h
    rcases h with ⟨h1, h2⟩ | ⟨h1, h3, h4, h5, h6⟩ | ⟨n, m, h1, h3, h4, h5, h6, h7, h8, h9, k0, k1, k2⟩
    · subst h1
      rw [Nat.sub_self]
      exact ⟨rfl, h2⟩
    · have e : u - t = (u - (t + 1)) + 1 := by omega
      rw [e]
      exact Or.inr (Or.inl ⟨h1, h3, h4, h5, ih h6⟩)
    · have l1 := k1.le
      have l2 := k2.le
      have e : u - t = (u - (t + 1)) + 1 := by omega
      have b1 := (ih k1).up (u - n)
      have b2 := (ih k2).up (n - (t + 1))
      rw [show n - (t + 1) + (u - n) = u - (t + 1) by omega] at b1
      rw [show u - n + (n - (t + 1)) = u - (t + 1) by omega] at b2
      rw [e]
      exact Or.inr (Or.inr ⟨n, m, h1, h3, h4, h5, h6, h7, h8, h9, k0, b1, b2⟩)
noncomputable abbrev WRy9 : Nat → Nat → Prop := fun c k => WRs c k ∨ (c = 97 ∧ 41 ≤ k ∧ k ≤ 48)
theorem Ev9.o {M : Nat} {m od : Int32} {du : Du9} (h : Ev9 s M m od du I) (e : I1 102 = I 102) : Ev9 s M m od du I1 := by
  unfold Ev9 DuR at h ⊢
  rw [e]
  exact h
/-- the reference's run, from its beginning -/
theorem px_runs9 {e : Nat} {M : Nat} {m od : Int32} {du : Du9} {q : Nat → Int32} {st : StS9} (hE : Ev9 s M m od du I) (hD : DOk s) (hW : Wf9 s) (hd0 : dD s = 0) (h53 : I 102 53 = nI (dN s)) (hv : 0 ≤ v.toInt ∧ v.toInt ≤ 65535) (hb : StB M st) (hr : BkR M st I) (hQ : ∀ I2, FrW WRy9 nV I J I2 J → RfM M (rn9 s m od du 1000000 0 q 0 (st, v, 0, 0, 0)).2.1 (rn9 s m od du 1000000 0 q 0 (st, v, 0, 0, 0)).2.2 I2 → RB9 M (rn9 s m od du 1000000 0 q 0 (st, v, 0, 0, 0)).2.2 → I2 97 45 = I 102 2 → I2 97 48 = (rn9 s m od du 1000000 0 q 0 (st, v, 0, 0, 0)).1 → Q 0 0 I2 J R) : AM (e + 80) 312 112 [.ref 97, .int v] I J R Q := by
  have h30 := hD.1
  have t2 : Int32.toNatClampNeg 2 = 2 := rfl
  have t53 : Int32.toNatClampNeg 53 = 53 := rfl
  have hS : Sq9 s (dN s) 0 (dN s) 0 (dL s) := by
    obtain ⟨f, hf⟩ := hW.2.2.1 0 (by omega)
    have u1 : tB9 s 0 = 0 := if_pos rfl
    have u2 : aB9 s 0 = 0 := if_pos rfl
    have u3 : tE9 s 0 = dN s := if_pos hd0.symm
    have u4 : aE9 s 0 = dL s := if_pos hd0.symm
    rw [u1, u2, u3, u4] at hf
    exact hf.ct
  refine w_X12_runsDays ⟨vp_of (a := 2) rfl (by decide) (by decide), Or.inl rfl, vp_of (a := 53) rfl (by decide) (by decide), ?_⟩
  rw [t2, t53]
  have e2 : uI (uI (uI I 97 42 v) 97 43 0) 97 44 0 102 2 = I 102 2 := by rw [rd_ne (by decide), rd_ne (by decide), rd_ne (by decide)]
  rw [e2]
  have hF : FrW WRy9 nV I J (uI (uI (uI (uI (uI (uI (uI (uI I 97 42 v) 97 43 0) 97 44 0) 97 45 (I 102 2)) 97 46 0) 97 47 0) 97 48 0) 97 41 0) J := (((((((FrW.rf.u (Or.inr ⟨rfl, by decide⟩)).u (Or.inr ⟨rfl, by decide⟩)).u (Or.inr ⟨rfl, by decide⟩)).u (Or.inr ⟨rfl, by decide⟩)).u (Or.inr ⟨rfl, by decide⟩)).u (Or.inr ⟨rfl, by decide⟩)).u (Or.inr ⟨rfl, by decide⟩)).u (Or.inr ⟨rfl, by decide⟩)
  have c102 : uI (uI (uI (uI (uI (uI (uI (uI I 97 42 v) 97 43 0) 97 44 0) 97 45 (I 102 2)) 97 46 0) 97 47 0) 97 48 0) 97 41 0 102 = I 102 := by rw [uI_ne (by decide), uI_ne (by decide), uI_ne (by decide), uI_ne (by decide), uI_ne (by decide), uI_ne (by decide), uI_ne (by decide), uI_ne (by decide)]
  have k41 : uI (uI (uI (uI (uI (uI (uI (uI I 97 42 v) 97 43 0) 97 44 0) 97 45 (I 102 2)) 97 46 0) 97 47 0) 97 48 0) 97 41 0 97 41 = 0 := rd_eq
  have k48 : uI (uI (uI (uI (uI (uI (uI (uI I 97 42 v) 97 43 0) 97 44 0) 97 45 (I 102 2)) 97 46 0) 97 47 0) 97 48 0) 97 41 0 97 48 = 0 := by rw [rd_k (by decide), rd_eq]
  have k47 : uI (uI (uI (uI (uI (uI (uI (uI I 97 42 v) 97 43 0) 97 44 0) 97 45 (I 102 2)) 97 46 0) 97 47 0) 97 48 0) 97 41 0 97 47 = 0 := by rw [rd_k (by decide), rd_k (by decide), rd_eq]
  have k46 : uI (uI (uI (uI (uI (uI (uI (uI I 97 42 v) 97 43 0) 97 44 0) 97 45 (I 102 2)) 97 46 0) 97 47 0) 97 48 0) 97 41 0 97 46 = 0 := by rw [rd_k (by decide), rd_k (by decide), rd_k (by decide), rd_eq]
  have k45 : uI (uI (uI (uI (uI (uI (uI (uI I 97 42 v) 97 43 0) 97 44 0) 97 45 (I 102 2)) 97 46 0) 97 47 0) 97 48 0) 97 41 0 97 45 = I 102 2 := by rw [rd_k (by decide), rd_k (by decide), rd_k (by decide), rd_k (by decide), rd_eq]
  have k44 : uI (uI (uI (uI (uI (uI (uI (uI I 97 42 v) 97 43 0) 97 44 0) 97 45 (I 102 2)) 97 46 0) 97 47 0) 97 48 0) 97 41 0 97 44 = 0 := by rw [rd_k (by decide), rd_k (by decide), rd_k (by decide), rd_k (by decide), rd_k (by decide), rd_eq]
  have k43 : uI (uI (uI (uI (uI (uI (uI (uI I 97 42 v) 97 43 0) 97 44 0) 97 45 (I 102 2)) 97 46 0) 97 47 0) 97 48 0) 97 41 0 97 43 = nI 0 := by
    show _ = (0 : Int32)
    rw [rd_k (by decide), rd_k (by decide), rd_k (by decide), rd_k (by decide), rd_k (by decide), rd_k (by decide), rd_eq]
  have k42 : uI (uI (uI (uI (uI (uI (uI (uI I 97 42 v) 97 43 0) 97 44 0) 97 45 (I 102 2)) 97 46 0) 97 47 0) 97 48 0) 97 41 0 97 42 = v := by rw [rd_k (by decide), rd_k (by decide), rd_k (by decide), rd_k (by decide), rd_k (by decide), rd_k (by decide), rd_k (by decide), rd_eq]
  generalize uI (uI (uI (uI (uI (uI (uI (uI I 97 42 v) 97 43 0) 97 44 0) 97 45 (I 102 2)) 97 46 0) 97 47 0) 97 48 0) 97 41 0 = A at hF c102 k41 k42 k43 k44 k45 k46 k47 k48
  rw [c102, h53]
  have hrA : BkR M st A := by
    unfold BkR
    rw [c102]
    exact hr
  have up : ∀ {n2 : Nat} {r2 : Rn9} {I2 : Im}, In9 M A J n2 r2 I2 → FrW WRy9 nV I J I2 J ∧ I2 97 45 = I 102 2 := fun h2 => ⟨hF.tr (h2.1.up (fun _ _ z => z.elim Or.inl (fun y => Or.inr ⟨y.1, by have := y.2; omega⟩)) (fun _ _ z => z)), (h2.1.i (fun z => by rcases z with z | z <;> omega)).trans k45⟩
  refine am_X12_doAll (fun P hc => sg_X12_doAll_0 hc _ _ _ _ _ (px_all9 (I0 := A) (M := M) (m := m) (od := od) (du := du) (hE.o c102) (dN s) (e + 78) _ 0 (dN s) 0 (dL s) 0 1000000 0 q (st, v, 0, 0, 0) A (by omega) hS (Nat.le_refl _) (Nat.le_refl _) ⟨FrW.rf, ⟨hrA, k42, k44, k46, k47, k43⟩, by omega, hb, hv⟩ k41 k48 (by omega) (fun I2 f2 q2 n2 r2 hI2 _ j41 j48 hf2 _ eX => ?_) (fun I2 l n2 r2 hI2 _ hl eX => ?_) P hc))
  · have eX2 := eX.trans (rn9_end (by have := hI2.2.2.1; omega))
    rw [eX2] at hQ
    exact hQ I2 (up hI2).1 hI2.2.1 hI2.2.2.2 (up hI2).2 j48
  · rw [eX] at hQ
    exact hQ I2 (up hI2).1 hI2.2.1 hI2.2.2.2 (up hI2).2 hl
/-- the latest live() -/
noncomputable def LV9 (I : Im) : Prop := I 97 40 = I 49 0 ∧ (¬ I 49 0 = 0 → I 112 0 = I 49 2 ∧ I 112 1 = I 49 3 ∧ I 112 2 = I 49 4 ∧ I 112 3 = I 49 5 ∧ I 112 4 = I 49 6)
noncomputable abbrev WRx9 : Nat → Nat → Prop := fun c k => WRs c k ∨ (c = 97 ∧ (k ≤ 1 ∨ (40 ≤ k ∧ k ≤ 48))) ∨ c = 112
theorem mx_live9 {e : Nat} (hR : RI R) (hB : Bd I) (h : W9 I R) (H1 : HLi9 R v I J x I1 J1) : AM (e + 82) 313 112 [.ref 97, .int v] I1 J1 R (fun x2 _ I2 J2 _ => x2 = x ∧ W9 I2 R ∧ (LV9 I → LV9 I2)) := by
  have n7 := now_9 hR
  have n9 : R 1 9 = 21 ∨ R 1 9 = 27 := hR.rp.2.1.elim (fun q => Or.inl q.1) (fun q => Or.inr q.1)
  have t0 : Int32.toNatClampNeg 0 = 0 := rfl
  have t1 : Int32.toNatClampNeg 1 = 1 := rfl
  have t2 : Int32.toNatClampNeg 2 = 2 := rfl
  have t3 : Int32.toNatClampNeg 3 = 3 := rfl
  have t4 : Int32.toNatClampNeg 4 = 4 := rfl
  have t52 : Int32.toNatClampNeg 52 = 52 := rfl
  have v52 : vp_in 52 1620 := vp_of (a := 52) rfl (by decide) (by decide)
  have v2 : vp_in 2 1620 := vp_of (a := 2) rfl (by decide) (by decide)
  have w0 : vp_in 0 5 := vp_of (a := 0) rfl (by decide) (by decide)
  have w1 : vp_in 1 5 := vp_of (a := 1) rfl (by decide) (by decide)
  have w2 : vp_in 2 5 := vp_of (a := 2) rfl (by decide) (by decide)
  have w3 : vp_in 3 5 := vp_of (a := 3) rfl (by decide) (by decide)
  have w4 : vp_in 4 5 := vp_of (a := 4) rfl (by decide) (by decide)
  rcases H1 with ⟨n1, x1, eI, eJ⟩ | ⟨⟨hv, h52⟩, s, hg, x1, hA, f0, f6, hF⟩
  · subst eJ
    have hF1 : FrU9 (R 1 7) I J1 I1 J1 := by
      rw [eI]
      exact FrW.rf.u (Or.inr (Or.inr (Or.inl rfl)))
    have e102 : I1 102 = I 102 := by rw [eI]; exact uI_ne (by decide)
    have fin : ∀ z : Int32, (-1 : Int32) = x ∧ W9 (uI (uI (uI I1 97 1 0) 97 0 0) 97 0 z) R ∧ (LV9 I → LV9 (uI (uI (uI I1 97 1 0) 97 0 0) 97 0 z)) := fun z => by
      have hF2 : FrU9 (R 1 7) I J1 (uI (uI (uI I1 97 1 0) 97 0 0) 97 0 z) J1 := ((hF1.u (Or.inr (Or.inr (Or.inr (Or.inr (Or.inr (Or.inl ⟨rfl, by decide⟩))))))).u (Or.inr (Or.inr (Or.inr (Or.inr (Or.inr (Or.inl ⟨rfl, by decide⟩))))))).u (Or.inr (Or.inr (Or.inr (Or.inr (Or.inr (Or.inl ⟨rfl, by decide⟩))))))
      have c : ∀ k, ¬ k = 1 → ¬ k = 97 → uI (uI (uI I1 97 1 0) 97 0 0) 97 0 z k = I k := fun k a b => by rw [uI_ne b, uI_ne b, uI_ne b, eI]; exact uI_ne a
      have c40 : uI (uI (uI I1 97 1 0) 97 0 0) 97 0 z 97 40 = I 97 40 := by rw [rd_k (by decide), rd_k (by decide), rd_k (by decide), eI]; exact rd_ne (by decide)
      refine ⟨x1.symm, h.kp (I2 := uI (uI (uI I1 97 1 0) 97 0 0) 97 0 z) hR ⟨fun a ha => ?_, fun a ha => ?_, fun a ha => ?_⟩ (c 102 (by decide) (by decide)) ?_, ?_⟩
      · have hm := arW9_sh a (badW9_mem ha)
        refine c a (fun q => ?_) (fun q => ?_)
        · subst q; exact absurd hm (by decide)
        · subst q; exact absurd hm (by decide)
      · have := bk_six ha
        rw [c a (by omega) (by omega)]; exact ⟨rfl, rfl⟩
      · have := bp_five ha
        exact c a (by omega) (by omega)
      · rw [rd_k (by decide), rd_k (by decide), rd_k (by decide), eI]; exact rd_ne (by decide)
      · intro hL
        unfold LV9 at hL ⊢
        rw [c40, c 49 (by decide) (by decide), c 112 (by decide) (by decide)]
        exact hL
    refine w_X12_live (px_isInI (lo := 0) (hi := 9999) (fun l1 l2 _ => ⟨fun _ => ⟨v52, ?_⟩, fun z => absurd z (by decide)⟩) (fun m1 _ => ⟨fun z => absurd rfl z, fun _ => w_X12_refuse (fin 5)⟩))
    rw [t52, rd_ne (by decide), rd_ne (by decide), e102]
    exact ⟨fun z => absurd ⟨⟨l1, l2⟩, z⟩ n1, fun _ => w_X12_refuse (fin 8)⟩
  · have hJ : J1 = J := funext fun o => hF.cj (fun _ q => q)
    subst hJ
    have e102 : I1 102 = I 102 := hF.c (fun k q => by rcases q with ((q | q | q) | q | q) | q <;> omega)
    have hE := h.ev hB h52 hg
    have hs := h.hs
    obtain ⟨g1, g2, g3, g4, g5, g6, g7⟩ := hg
    have b1 : uI (uI I1 97 1 0) 97 0 0 102 = I 102 := by rw [uI_ne (by decide), uI_ne (by decide)]; exact e102
    have hv' : 0 ≤ v.toInt ∧ v.toInt ≤ 65535 := by
      obtain ⟨l1, l2⟩ := hv
      rw [le_i, show (0 : Int32).toInt = 0 from rfl] at l1
      rw [le_i, show (9999 : Int32).toInt = 9999 from rfl] at l2
      omega
    refine w_X12_live (px_isInI (lo := 0) (hi := 9999) (fun l1 l2 _ => ⟨fun _ => ⟨v52, ?_⟩, fun z => absurd z (by decide)⟩) (fun m1 _ => m1.elim (fun y => absurd y (ile.mpr hv.1)) (fun y => absurd hv.2 y)))
    rw [t52, b1]
    refine ⟨fun _ => ?_, fun z => absurd z h52⟩
    have hrb : BkR (mnN (I 102)) (s9 I) (uI (uI I1 97 1 0) 97 0 0) := by
      unfold BkR
      rw [b1]
      exact hs.2.1
    refine px_runs9 (e := e + 1) (q := I 50) (hE.o b1) g1 g2 g3 (by rw [b1]; exact g6) hv' hs.2.2.1 hrb (fun I2 hF2 hM hRB e45 e48 => ?_)
    simp only [t0, t1, t2, t3, t4, rd_ne (show ¬ (97 : Nat) = 112 by decide), rd_ne (show ¬ (102 : Nat) = 112 by decide), rd_k (show ¬ (43 : Nat) = 40 by decide)]
    refine ⟨w0, v2, w1, w2, w3, w4, Or.inr trivial, ?_⟩
    rw [b1] at e45
    have hFm : FrW WRx9 nV I1 J1 I2 J1 := ((FrW.rf.u (Or.inr (Or.inl ⟨rfl, by decide⟩))).u (Or.inr (Or.inl ⟨rfl, by decide⟩))).tr (hF2.up (fun _ _ z => z.elim Or.inl (fun y => Or.inr (Or.inl ⟨y.1, by have := y.2; omega⟩))) (fun _ _ z => z))
    obtain ⟨m1, m2, m3, m4, m5, m6⟩ := hM
    have hF3 : FrW WRx9 nV I1 J1 (uI (uI (uI (uI (uI (uI I2 112 0 (I2 97 44)) 112 1 (I2 102 2 - I2 97 45)) 112 2 (I2 97 46)) 112 3 (I2 97 47)) 112 4 (I2 97 48)) 97 40 1) J1 := (((((hFm.u (Or.inr (Or.inr rfl))).u (Or.inr (Or.inr rfl))).u (Or.inr (Or.inr rfl))).u (Or.inr (Or.inr rfl))).u (Or.inr (Or.inr rfl))).u (Or.inr (Or.inl ⟨rfl, by decide⟩))
    have y102 : uI (uI (uI (uI (uI (uI I2 112 0 (I2 97 44)) 112 1 (I2 102 2 - I2 97 45)) 112 2 (I2 97 46)) 112 3 (I2 97 47)) 112 4 (I2 97 48)) 97 40 1 102 = I2 102 := by rw [uI_ne (by decide), uI_ne (by decide), uI_ne (by decide), uI_ne (by decide), uI_ne (by decide), uI_ne (by decide)]
    have y40 : uI (uI (uI (uI (uI (uI I2 112 0 (I2 97 44)) 112 1 (I2 102 2 - I2 97 45)) 112 2 (I2 97 46)) 112 3 (I2 97 47)) 112 4 (I2 97 48)) 97 40 1 97 40 = 1 := rd_eq
    have y0 : uI (uI (uI (uI (uI (uI I2 112 0 (I2 97 44)) 112 1 (I2 102 2 - I2 97 45)) 112 2 (I2 97 46)) 112 3 (I2 97 47)) 112 4 (I2 97 48)) 97 40 1 112 0 = I2 97 44 := by rw [rd_ne (by decide), rd_k (by decide), rd_k (by decide), rd_k (by decide), rd_k (by decide), rd_eq]
    have y1 : uI (uI (uI (uI (uI (uI I2 112 0 (I2 97 44)) 112 1 (I2 102 2 - I2 97 45)) 112 2 (I2 97 46)) 112 3 (I2 97 47)) 112 4 (I2 97 48)) 97 40 1 112 1 = I2 102 2 - I2 97 45 := by rw [rd_ne (by decide), rd_k (by decide), rd_k (by decide), rd_k (by decide), rd_eq]
    have y2 : uI (uI (uI (uI (uI (uI I2 112 0 (I2 97 44)) 112 1 (I2 102 2 - I2 97 45)) 112 2 (I2 97 46)) 112 3 (I2 97 47)) 112 4 (I2 97 48)) 97 40 1 112 2 = I2 97 46 := by rw [rd_ne (by decide), rd_k (by decide), rd_k (by decide), rd_eq]
    have y3 : uI (uI (uI (uI (uI (uI I2 112 0 (I2 97 44)) 112 1 (I2 102 2 - I2 97 45)) 112 2 (I2 97 46)) 112 3 (I2 97 47)) 112 4 (I2 97 48)) 97 40 1 112 3 = I2 97 47 := by rw [rd_ne (by decide), rd_k (by decide), rd_eq]
    have y4 : uI (uI (uI (uI (uI (uI I2 112 0 (I2 97 44)) 112 1 (I2 102 2 - I2 97 45)) 112 2 (I2 97 46)) 112 3 (I2 97 47)) 112 4 (I2 97 48)) 97 40 1 112 4 = I2 97 48 := by rw [rd_ne (by decide), rd_eq]
    generalize uI (uI (uI (uI (uI (uI I2 112 0 (I2 97 44)) 112 1 (I2 102 2 - I2 97 45)) 112 2 (I2 97 46)) 112 3 (I2 97 47)) 112 4 (I2 97 48)) 97 40 1 = A at hF3 y102 y40 y0 y1 y2 y3 y4
    have cl : ∀ c, c ≤ 96 → A c = I1 c := fun c hc => hF3.c (fun k q => by rcases q with q | q | q <;> omega)
    obtain ⟨a1, a7, a2, a4, a5, a3⟩ := hA
    refine ⟨m6.trans x1.symm, ?_, ?_⟩
    · have hFu : FrU9 (R 1 7) I J1 A J1 := (FrW.up hF (fun _ _ q => by
          rcases q with (q | q | q) | q
          · exact Or.inl q
          · exact Or.inr (Or.inr (Or.inr (Or.inl q)))
          · exact Or.inr (Or.inr (Or.inr (Or.inr (Or.inl q))))
          · exact Or.inr (Or.inr (Or.inl q.1))) (fun _ _ q => q)).tr (hF3.up (fun _ _ q => by
          rcases q with q | q | q
          · exact Or.inr (Or.inl q)
          · exact Or.inr (Or.inr (Or.inr (Or.inr (Or.inr (Or.inl ⟨q.1, by have := q.2; omega⟩)))))
          · exact Or.inr (Or.inr (Or.inr (Or.inr (Or.inr (Or.inr q)))))) (fun _ _ q => q))
      refine h.op hR hFu (s' := (RN9 s I v).2.2.1) ⟨⟨fun d b c => ?_, fun k hk => ?_, ?_⟩, ?_, hRB.1, hRB.1, ?_, ?_, hs.2.2.2.2.2.2⟩
      · rw [cl _ (by omega)]; exact a1.1 d b c
      · rw [cl _ (by omega)]; exact a1.2.1 k hk
      · rw [cl _ (by omega)]; exact a1.2.2
      · unfold BkR
        rw [y102]
        exact m1
      · intro k hk
        have q := hs.2.2.2.2.1 k hk
        rw [cl _ (by omega), cl _ (by omega), hF.i (by intro z; rcases z with ((z | z | z) | z | z) | z <;> omega), hF.i (by intro z; rcases z with ((z | z | z) | z | z) | z <;> omega)]
        exact q
      · intro k hk
        have l6 := hs.2.2.2.2.2.2
        rw [y102, hF2.i (by intro z; rcases z with ⟨-, z⟩ | z <;> omega), hF2.i (by intro z; rcases z with ⟨-, z⟩ | z <;> omega), b1]
        exact ⟨rfl, rfl⟩
    · intro _
      have a0 : A 49 = I1 49 := cl 49 (by decide)
      refine ⟨by rw [y40, a0, f0], fun _ => ?_⟩
      rw [y0, y1, y2, y3, y4, a0]
      refine ⟨m3.trans a2.symm, ?_, m4.trans a4.symm, m5.trans a5.symm, e48.trans f6.symm⟩
      rw [m1.2.2, e45, a3]
end LIV
end PT15x3
section PT15x4
/-! ===== the relation by parts; come(), owe(), learn(), rule() ===== -/
section W9C
variable {I I1 I2 : Im} {J J1 J2 : Jm} {R R2 : Rm} {C C2 : Nat → Int32} {o p : Nat} {s : DS}
theorem CW9.cg (h : CW9 C) (e : ∀ i, i < 52 → C2 i = C i) : CW9 C2 := by
  have hm := h.m
  have em : mnN C2 = mnN C := congrArg Int32.toNatClampNeg (e 0 (by omega))
  obtain ⟨⟨m, m6, e0⟩, h2, h3⟩ := h
  refine ⟨⟨m, m6, (e 0 (by omega)).trans e0⟩, fun d a b => ?_, fun k hk => ?_⟩
  · rw [e (3 + d) (by omega)]; exact h2 d a b
  · rw [em] at hk
    rw [e (34 + k) (by omega), e (40 + k) (by omega), e (46 + k) (by omega)]; exact h3 k hk
theorem BA99.cg (hm : mnN C ≤ 6) (h : BA99 o C I) (e : ∀ i, i < 52 → C2 i = C i) : BA99 o C2 I := by
  have em : mnN C2 = mnN C := congrArg Int32.toNatClampNeg (e 0 (by omega))
  obtain ⟨h1, h2, h3, h4⟩ := h
  refine ⟨h1.trans (e 1 (by omega)).symm, h2.trans (e 2 (by omega)).symm, fun d a b => (h3 d a b).trans (e _ (by omega)).symm, fun k hk => ?_⟩
  rw [em] at hk
  rw [e (34 + k) (by omega), e (40 + k) (by omega), e (46 + k) (by omega)]; exact h4 k hk
theorem DG9.cg (h : DG9 p C I s) (e : ∀ i, i < 324 → C2 i = C i) : DG9 p C2 I s := by
  obtain ⟨g1, g2, g3, g4, g5, g6, g7⟩ := h
  have h30 := g1.1
  refine ⟨g1, g2, g3, g4, g5, (e 53 (by omega)).trans g6, fun t ht => ?_⟩
  obtain ⟨k1, k2, k3⟩ := g7 t ht
  exact ⟨(e _ (by omega)).trans k1, k2.cp (fun k a b => e k (by omega)), (e _ (by omega)).trans k3⟩
theorem DH9.cg (h : DH9 p C I) (e : ∀ i, i < 324 → C2 i = C i) : DH9 p C2 I := by
  refine ⟨h.1.trans (e 52 (by omega)).symm, fun h0 => ?_⟩
  rw [e 52 (by omega)] at h0
  obtain ⟨s, hs⟩ := h.2 h0
  exact ⟨s, hs.cg e⟩
theorem KW9.cg (h : KW9 C o p I) (e : ∀ i, i < 324 → C2 i = C i) : KW9 C2 o p I := ⟨h.1.cg (fun i hi => e i (by omega)), h.2.1.cg h.1.m.1 (fun i hi => e i (by omega)), h.2.2.cg e⟩
theorem KW9.cp (h : KW9 C o p I) (ho : ∀ c, o ≤ c → c ≤ o + 5 → I2 c = I c) (hp : ∀ c, p ≤ c → c ≤ p + 5 → I2 c = I c) : KW9 C o p I2 :=
  ⟨h.1, h.2.1.cp (congrFun (ho o (by omega) (by omega)) 1) (congrFun (ho o (by omega) (by omega)) 3) (fun c hc => ho c (by omega) (by omega)), h.2.2.cp hp⟩
/-- what is kept stays -/
theorem W9.nw (h : W9 I R) (hn : KW9 (I2 102) (R2 1 7) (R2 1 9) I2) (e23 : I2 97 23 = I 97 23) (eb : ∀ j, 324 ≤ j → j < 1296 → I2 102 j = I 102 j) (ec : ∀ c, 61 ≤ c → c ≤ 96 → I2 c = I c) : W9 I2 R2 := by
  refine ⟨hn, fun j hj hm => ?_⟩
  rw [e23] at hm
  exact ((h.2 j hj hm).cg (C2 := blk9 (324 * (j + 1)) I2) (fun i hi => eb _ (by omega) (by omega))).cp (fun c a b => ec c (by omega) (by omega)) (fun c a b => ec c (by omega) (by omega))
theorem n9_p {R : Rm} (hR : RI R) : R 1 9 = 21 ∨ R 1 9 = 27 := hR.rp.2.1.elim (fun q => Or.inl q.1) (fun q => Or.inr q.1)
/-- nothing but what is answered -/
theorem W9.no {z : Int32} (hR : RI R) (h : W9 I R) (eI : I1 = uI I 1 0 (I1 1 0)) : W9 (uI (uI (uI I1 97 1 0) 97 0 0) 97 0 z) R := by
  have c : ∀ k, ¬ k = 1 → ¬ k = 97 → uI (uI (uI I1 97 1 0) 97 0 0) 97 0 z k = I k := fun k a b => by rw [uI_ne b, uI_ne b, uI_ne b, eI]; exact uI_ne a
  have n7 := now_9 hR
  have n9 := n9_p hR
  have e23 : uI (uI (uI I1 97 1 0) 97 0 0) 97 0 z 97 23 = I 97 23 := by rw [rd_k (by decide), rd_k (by decide), rd_k (by decide), eI]; exact rd_ne (by decide)
  have e102 := c 102 (by decide) (by decide)
  refine h.nw ?_ e23 (fun j _ _ => congrFun e102 j) (fun k a b => c k (by omega) (by omega))
  rw [e102]
  exact h.1.cp (fun k a b => c k (by omega) (by omega)) (fun k a b => c k (by omega) (by omega))
theorem CW9.n (h : CW9 C) {m : Nat} (hm : m ≤ 5) (e : C 0 = nI m) : mnN C = m := mnN_of (by omega) e
noncomputable def okC9 (a b : Int32) (o : Nat) (I : Im) : Prop := sh a b ∧ I o 4 < 6
noncomputable def HCo9 (o : Nat) (a b : Int32) (I : Im) (J : Jm) (x : Int32) (I1 : Im) : Prop := (¬ okC9 a b o I ∧ x = -1 ∧ I1 = uI I 1 0 (I1 1 0)) ∨ (okC9 a b o I ∧ ∃ m : Nat, m ≤ 5 ∧ I o 4 = nI m ∧ x = nI m ∧ I1 = uI (uI (uI (uI (uI I (o + 3) m a) (o + 4) m b) (o + 5) m 0) o 4 (nI m + 1)) 1 0 0)
theorem cx_come9 {d : Nat} {a b : Int32} (hB : Bd I) (hR : RI R) : AM (d + 3) 124 112 [.ref 1, .int a, .int b] I J R (fun x _ I2 _ _ => HCo9 (R 1 7) a b I J x I2) := by
  have hO := hR.now.1
  have b4 := Bd.o hB hO bd9_0_4
  have no : ∀ z : Int32, ¬ okC9 a b (R 1 7) I → HCo9 (R 1 7) a b I J (-1) (uI I 1 0 z) := fun z hz => Or.inl ⟨hz, rfl, uI_self (k := 0)⟩
  refine w_X11_come (px_isShare (fun hs _ => ⟨fun _ => ⟨hR.now.2, bif_t hO ⟨fun c6 => ⟨hR.now.2, bif_t hO ?_⟩, fun c6 => w_X11_refuse (no _ (fun z => c6 z.2))⟩⟩, fun c => absurd c (by decide)⟩) (fun hs _ => ⟨fun c => absurd rfl c, fun _ => w_X11_refuse (no _ (fun z => hs z.1))⟩))
  have c6' := c6
  rw [Int32.lt_iff_toInt_lt] at c6'
  have e6 : (6 : Int32).toInt = 6 := rfl
  have tm : ((Int32.toNatClampNeg (I (R 1 7) 4) : Nat) : Int) = (I (R 1 7) 4).toInt := by
    have := tn_of (x := I (R 1 7) 4) rfl b4.1; omega
  have em : I (R 1 7) 4 = nI (Int32.toNatClampNeg (I (R 1 7) 4)) := Int32.toInt_inj.mp (by rw [nI_toInt (by omega)]; omega)
  generalize hm : Int32.toNatClampNeg (I (R 1 7) 4) = m at em tm
  exact px_addM2 hO (m := m) (by omega) em (w_X11_answer (Or.inr ⟨⟨hs, c6⟩, m, by omega, em, rfl, rfl⟩))
theorem mx_come9 {d : Nat} {a b x : Int32} (hR : RI R) (e0 : I (R 1 7) 4 = I 102 0) (h : W9 I R) (H1 : HCo9 (R 1 7) a b I J x I1) : AM (d + 3) 268 112 [.ref 97, .int a, .int b] I1 J1 R (fun x2 _ I2 _ _ => x2 = x ∧ W9 I2 R) := by
  have n7 := now_9 hR
  have n9 := n9_p hR
  have t0 : Int32.toNatClampNeg 0 = 0 := rfl
  have c0 := h.1.1
  obtain ⟨m6, -, mt⟩ := c0.m
  rcases H1 with ⟨n1, x1, eI⟩ | ⟨⟨hs, h6⟩, m, hm, em, x1, eI⟩
  · have b102 : uI (uI I1 97 1 0) 97 0 0 102 0 = I 102 0 := by rw [rd_ne (by decide), rd_ne (by decide), eI]; exact rd_ne (by decide)
    refine w_X12_come (px_mShare (fun hs _ => ⟨fun _ => ⟨vp_of (a := 0) rfl (by decide) (by decide), ?_⟩, fun c => absurd c (by decide)⟩) (fun hs _ => ⟨fun c => absurd rfl c, fun _ => w_X12_refuse ⟨x1.symm, h.no hR eI⟩⟩))
    rw [t0, b102]
    refine ⟨fun c6 => absurd ⟨hs, ?_⟩ n1, fun c6 => w_X12_refuse ⟨x1.symm, h.no hR eI⟩⟩
    rw [e0, Int32.lt_iff_toInt_lt, show (6 : Int32).toInt = 6 from rfl]
    have : ¬ (I 102 0).toInt = 6 := fun z => c6 (Int32.toInt_inj.mp z)
    omega
  · have em2 : I 102 0 = nI m := e0.symm.trans em
    have e102 : uI (uI I1 97 1 0) 97 0 0 102 = I 102 := by
      rw [uI_ne (by decide), uI_ne (by decide), eI, uI_ne (by decide), uI_ne (by first | decide | omega), uI_ne (by first | decide | omega), uI_ne (by first | decide | omega), uI_ne (by first | decide | omega)]
    refine w_X12_come (px_mShare (fun _ _ => ⟨fun _ => ⟨vp_of (a := 0) rfl (by decide) (by decide), ?_⟩, fun c => absurd c (by decide)⟩) (fun hn => absurd hs hn))
    have k34 : (34 : Int32) + nI m = nI (34 + m) := by rw [show (34 : Int32) = nI 34 from rfl]; exact nI_add 34 m
    have k40 : (40 : Int32) + nI m = nI (40 + m) := by rw [show (40 : Int32) = nI 40 from rfl]; exact nI_add 40 m
    have k46 : (46 : Int32) + nI m = nI (46 + m) := by rw [show (46 : Int32) = nI 46 from rfl]; exact nI_add 46 m
    rw [t0, e102, em2, k34, k40, k46, tn_nI (by omega), tn_nI (by omega), tn_nI (by omega)]
    have hv : uI (uI (uI (uI (uI I1 97 1 0) 97 0 0) 102 (34 + m) a) 102 (40 + m) b) 102 (46 + m) 0 102 0 = nI m := (rd_k (by omega)).trans ((rd_k (by omega)).trans ((rd_k (by omega)).trans ((congrFun e102 0).trans em2)))
    rw [hv]
    refine ⟨fun _ => ⟨vp_nI (by omega) (by omega), vp_nI (by omega) (by omega), vp_nI (by omega) (by omega), vp_nI (by omega) (by omega), vp_of (a := 0) rfl (by decide) (by decide), vp_of (a := 0) rfl (by decide) (by decide), x1.symm, ?_⟩, fun z => ?_⟩
    · have fk : ∀ k, ¬ k = 0 → ¬ k = 34 + m → ¬ k = 40 + m → ¬ k = 46 + m → uI (uI (uI (uI (uI (uI I1 97 1 0) 97 0 0) 102 (34 + m) a) 102 (40 + m) b) 102 (46 + m) 0) 102 0 (nI m + 1) 102 k = I 102 k := fun k h1 h2 h3 h4 => (rd_k h1).trans ((rd_k h4).trans ((rd_k h3).trans ((rd_k h2).trans (congrFun e102 k))))
      have f0 : uI (uI (uI (uI (uI (uI I1 97 1 0) 97 0 0) 102 (34 + m) a) 102 (40 + m) b) 102 (46 + m) 0) 102 0 (nI m + 1) 102 0 = nI (m + 1) := rd_eq.trans (nI_k1 m)
      have f34 : uI (uI (uI (uI (uI (uI I1 97 1 0) 97 0 0) 102 (34 + m) a) 102 (40 + m) b) 102 (46 + m) 0) 102 0 (nI m + 1) 102 (34 + m) = a := (rd_k (by omega)).trans ((rd_k (by omega)).trans ((rd_k (by omega)).trans rd_eq))
      have f40 : uI (uI (uI (uI (uI (uI I1 97 1 0) 97 0 0) 102 (34 + m) a) 102 (40 + m) b) 102 (46 + m) 0) 102 0 (nI m + 1) 102 (40 + m) = b := (rd_k (by omega)).trans ((rd_k (by omega)).trans rd_eq)
      have f46 : uI (uI (uI (uI (uI (uI I1 97 1 0) 97 0 0) 102 (34 + m) a) 102 (40 + m) b) 102 (46 + m) 0) 102 0 (nI m + 1) 102 (46 + m) = 0 := (rd_k (by omega)).trans rd_eq
      have g : ∀ c, ¬ c = 97 → ¬ c = 102 → uI (uI (uI (uI (uI (uI I1 97 1 0) 97 0 0) 102 (34 + m) a) 102 (40 + m) b) 102 (46 + m) 0) 102 0 (nI m + 1) c = I1 c := fun c h1 h2 => (uI_ne h2).trans ((uI_ne h2).trans ((uI_ne h2).trans ((uI_ne h2).trans ((uI_ne h1).trans (uI_ne h1)))))
      have g23 : uI (uI (uI (uI (uI (uI I1 97 1 0) 97 0 0) 102 (34 + m) a) 102 (40 + m) b) 102 (46 + m) 0) 102 0 (nI m + 1) 97 23 = I1 97 23 := by rw [rd_ne (by decide), rd_ne (by decide), rd_ne (by decide), rd_ne (by decide), rd_k (by decide), rd_k (by decide)]
      generalize uI (uI (uI (uI (uI (uI I1 97 1 0) 97 0 0) 102 (34 + m) a) 102 (40 + m) b) 102 (46 + m) 0) 102 0 (nI m + 1) = A at fk f0 f34 f40 f46 g g23
      have i : ∀ c, ¬ c = 1 → ¬ c = R 1 7 → ¬ (R 1 7 + 3 ≤ c ∧ c ≤ R 1 7 + 5) → I1 c = I c := fun c a1 a2 a3 => by
        rw [eI, uI_ne a1, uI_ne a2, uI_ne (by first | decide | omega), uI_ne (by first | decide | omega), uI_ne (by first | decide | omega)]
      have mm : mnN (A 102) = m + 1 := mnN_of (by omega) f0
      have mo : mnN (I 102) = m := mnN_of (by omega) em2
      obtain ⟨q1, q2, q3⟩ := h.1
      obtain ⟨b1, b2, b3, b4⟩ := q2
      refine h.nw ⟨⟨⟨m + 1, by omega, f0⟩, fun d a1 a2 => ?_, fun k hk => ?_⟩, ⟨?_, ?_, fun d a1 a2 => ?_, fun k hk => ?_⟩, ?_⟩ ?_ (fun j a1 a2 => fk j (by omega) (by omega) (by omega) (by omega)) (fun c a1 a2 => (g c (by omega) (by omega)).trans (i c (by omega) (by omega) (by omega)))
      · rw [fk (3 + d) (by omega) (by omega) (by omega) (by omega)]; exact q1.2.1 d a1 a2
      · rw [mm] at hk
        by_cases z : k = m
        · subst z
          rw [f34, f40, f46]
          exact ⟨hs, by decide, by decide⟩
        · rw [fk (34 + k) (by omega) (by omega) (by omega) (by omega), fk (40 + k) (by omega) (by omega) (by omega) (by omega), fk (46 + k) (by omega) (by omega) (by omega) (by omega)]
          exact q1.2.2 k (by omega)
      · rw [g _ (by omega) (by omega), fk 1 (by omega) (by omega) (by omega) (by omega), eI, rd_ne (by first | decide | omega), rd_k (by decide), rd_ne (by first | decide | omega), rd_ne (by first | decide | omega), rd_ne (by first | decide | omega)]; exact b1
      · rw [g _ (by omega) (by omega), fk 2 (by omega) (by omega) (by omega) (by omega), eI, rd_ne (by first | decide | omega), rd_k (by decide), rd_ne (by first | decide | omega), rd_ne (by first | decide | omega), rd_ne (by first | decide | omega)]; exact b2
      · rw [g _ (by omega) (by omega), i _ (by omega) (by omega) (by omega), fk (3 + d) (by omega) (by omega) (by omega) (by omega)]; exact b3 d a1 a2
      · rw [mm] at hk
        rw [g (R 1 7 + 3) (by omega) (by omega), g (R 1 7 + 4) (by omega) (by omega), g (R 1 7 + 5) (by omega) (by omega)]
        by_cases z : k = m
        · subst z
          rw [f34, f40, f46, eI]
          refine ⟨?_, ?_, ?_⟩
          · rw [rd_ne (by first | decide | omega), rd_ne (by first | decide | omega), rd_ne (by first | decide | omega), rd_ne (by first | decide | omega), rd_eq]
          · rw [rd_ne (by first | decide | omega), rd_ne (by first | decide | omega), rd_ne (by first | decide | omega), rd_eq]
          · rw [rd_ne (by first | decide | omega), rd_ne (by first | decide | omega), rd_eq]
        · obtain ⟨y1, y2, y3⟩ := b4 k (by omega)
          rw [fk (34 + k) (by omega) (by omega) (by omega) (by omega), fk (40 + k) (by omega) (by omega) (by omega) (by omega), fk (46 + k) (by omega) (by omega) (by omega) (by omega), eI]
          refine ⟨?_, ?_, ?_⟩
          · rw [rd_ne (by first | decide | omega), rd_ne (by first | decide | omega), rd_ne (by first | decide | omega), rd_ne (by first | decide | omega), rd_k z]; exact y1
          · rw [rd_ne (by first | decide | omega), rd_ne (by first | decide | omega), rd_ne (by first | decide | omega), rd_k z, rd_ne (by first | decide | omega)]; exact y2
          · rw [rd_ne (by first | decide | omega), rd_ne (by first | decide | omega), rd_k z, rd_ne (by first | decide | omega), rd_ne (by first | decide | omega)]; exact y3
      · have e52 : ∀ j, 52 ≤ j → A 102 j = I 102 j := fun j hj => fk j (by omega) (by omega) (by omega) (by omega)
        refine ⟨?_, fun h0 => ?_⟩
        · rw [g _ (by omega) (by omega), i _ (by omega) (by omega) (by omega), e52 52 (by omega)]; exact q3.1
        · rw [e52 52 (by omega)] at h0
          obtain ⟨s, y1, y2, y3, y4, y5, y6, y7⟩ := q3.2 h0
          refine ⟨s, y1, y2, y3, y4, y5.cp (fun c a1 a2 => (g c (by omega) (by omega)).trans (i c (by omega) (by omega) (by omega))), (e52 53 (by omega)).trans y6, fun t ht => ?_⟩
          obtain ⟨w1, w2, w3⟩ := y7 t ht
          exact ⟨(e52 _ (by omega)).trans w1, w2.cp (fun k a1 a2 => e52 k (by omega)), (e52 _ (by omega)).trans w3⟩
      · rw [g23, eI, rd_ne (by decide), rd_ne (by first | decide | omega), rd_ne (by first | decide | omega), rd_ne (by first | decide | omega), rd_ne (by first | decide | omega)]
    · rw [em, Int32.lt_iff_toInt_lt, nI_toInt (by omega), show (6 : Int32).toInt = 6 from rfl] at h6
      have q := congrArg Int32.toInt z
      rw [nI_toInt (by omega), show (6 : Int32).toInt = 6 from rfl] at q
      omega
end W9C
end PT15x4
section PT15x5
/-! ===== owe(), rule(), learn(), store(): both sides ===== -/
section W9D
variable {I I1 I2 : Im} {J J1 J2 : Jm} {R R2 : Rm} {v a b x : Int32}
/-- the reference refuses, with no -/
theorem no9 {d : Nat} {z w : Int32} (hR : RI R) (h : W9 I R) (x1 : x = 0) (eI : I1 = uI I 1 0 (I1 1 0)) : AM (d + 1) 177 112 [.ref 97, .int z] (uI (uI I1 97 1 0) 97 0 0) J R (fun x2 _ I2 J2 R2 => (x2 = 0 ∨ x2 = 1) → (((x2 : Int32) = 0 ∨ (x2 : Int32) = 1) ∧ (x2 = x ∧ W9 I2 R))) :=
  w_X12_no ⟨Or.inl rfl, fun _ => ⟨Or.inl rfl, x1.symm, h.no hR eI⟩⟩
noncomputable def HOw9 (o : Nat) (v a b : Int32) (I : Im) (x : Int32) (I1 : Im) : Prop := (¬ owP (I o 4) v a b ∧ x = 0 ∧ I1 = uI I 1 0 (I1 1 0)) ∨ (owP (I o 4) v a b ∧ x = 1 ∧ I1 = uI (uI (uI I (o + 3) (nn9 v) a) (o + 4) (nn9 v) b) 1 0 0)
theorem cx_owe9 {d : Nat} (hB : Bd I) (hR : RI R) : AM (d + 3) 123 112 [.ref 1, .int v, .int a, .int b] I J R (fun x _ I1 _ _ => HOw9 (R 1 7) v a b I x I1) := by
  have hO := hR.now.1
  have b4 := Bd.o hB hO bd9_0_4
  obtain ⟨a3, l3, -⟩ := fa_0_6 hO
  obtain ⟨a4, l4, -⟩ := fa_0_7 hO
  have no : ∀ z : Int32, (¬ owP (I (R 1 7) 4) v a b) → AM (d + 2) 150 112 [.ref 1, .int z] I J R (fun x _ I2 J2 R2 => (x = 0 ∨ x = 1) → ((x = 0 ∨ x = 1) ∧ HOw9 (R 1 7) v a b I x I2)) := fun z h => w_X11_deny ⟨Or.inl rfl, fun _ => ⟨Or.inl rfl, Or.inl ⟨h, rfl, uI_self (k := 0)⟩⟩⟩
  refine w_X11_owe ⟨hR.now.2, bif_t hO (px_cMan9 hO (fun hk _ => ⟨fun _ => ?_, fun z => absurd z (by decide)⟩) (fun hk _ => ⟨fun z => absurd rfl z, fun _ => no 2 (fun y => hk y.1)⟩))⟩
  have h0' := hk.1
  have hm' := hk.2
  rw [Int32.le_iff_toInt_le, show (0 : Int32).toInt = 0 from rfl] at h0'
  rw [Int32.lt_iff_toInt_lt] at hm'
  refine px_isShare (fun hs _ => ⟨fun _ => ⟨hR.now.2, bif_t hO (bif_t a3 ⟨vp_of (a := v.toInt) rfl h0' (by omega), hR.now.2, bif_t hO (bif_t a4 ⟨vp_of (a := v.toInt) rfl h0' (by omega), w_X11_allow ⟨Or.inr rfl, fun _ => ⟨Or.inr rfl, Or.inr ⟨⟨hk, hs⟩, rfl, rfl⟩⟩⟩⟩)⟩)⟩, fun z => absurd z (by decide)⟩) (fun hs _ => ⟨fun z => absurd rfl z, fun _ => no 5 (fun y => hs y.2)⟩)
theorem mx_owe9 {d : Nat} (hR : RI R) (e0 : I (R 1 7) 4 = I 102 0) (h : W9 I R) (H1 : HOw9 (R 1 7) v a b I x I1) : AM (d + 4) 267 112 [.ref 97, .int v, .int a, .int b] I1 J1 R (fun x2 _ I2 _ _ => x2 = x ∧ W9 I2 R) := by
  have n7 := now_9 hR
  have n9 := n9_p hR
  obtain ⟨q1, q2, q3⟩ := h.1
  obtain ⟨m6, mt, mi⟩ := q1.m
  have e102 : I1 102 = I 102 := by
    rcases H1 with ⟨-, -, eI⟩ | ⟨-, -, eI⟩
    · rw [eI]; exact uI_ne (by decide)
    · rw [eI, uI_ne (by decide), uI_ne (by first | decide | omega), uI_ne (by first | decide | omega)]
  have c102 : uI (uI I1 97 1 0) 97 0 0 102 = I 102 := by rw [uI_ne (by decide), uI_ne (by decide)]; exact e102
  have k0 : uI (uI I1 97 1 0) 97 0 0 102 0 = I 102 0 := congrFun c102 0
  refine w_X12_owe (px_manAt (by rw [k0]; omega) (fun hk => ⟨fun z => absurd rfl z, fun _ => ?_⟩) (fun hk => ⟨fun _ => px_mShare (fun hs _ => ⟨fun _ => ?_, fun z => absurd z (by decide)⟩) (fun hs _ => ⟨fun z => absurd rfl z, fun _ => ?_⟩), fun z => absurd z (by decide)⟩))
  · rw [k0] at hk
    rcases H1 with ⟨-, x1, eI⟩ | ⟨y, -, -⟩
    · exact no9 (w := 0) hR h x1 eI
    · rw [e0] at y
      exact absurd y.1 hk
  · rw [k0] at hk
    rcases H1 with ⟨n1, -, -⟩ | ⟨-, x1, eI⟩
    · rw [e0] at n1
      exact absurd ⟨hk, hs⟩ n1
    · have h0' := hk.1
      have hm' := hk.2
      rw [le_i, show (0 : Int32).toInt = 0 from rfl] at h0'
      rw [Int32.lt_iff_toInt_lt] at hm'
      have nk : nn9 v = v.toInt.toNat := rfl
      have nm : nn9 v < mnN (I 102) := by omega
      have s1 : (34 + v : Int32).toInt = 34 + v.toInt := ti_add (show (34 : Int32).toInt = 34 from rfl) rfl (by omega)
      have s2 : (40 + v : Int32).toInt = 40 + v.toInt := ti_add (show (40 : Int32).toInt = 40 from rfl) rfl (by omega)
      have i34 : Int32.toNatClampNeg (34 + v) = 34 + nn9 v := by
        have e3 : Int32.toNatClampNeg (34 + v) = (34 + v : Int32).toInt.toNat := rfl
        rw [e3, s1]; omega
      have i40 : Int32.toNatClampNeg (40 + v) = 40 + nn9 v := by
        have e3 : Int32.toNatClampNeg (40 + v) = (40 + v : Int32).toInt.toNat := rfl
        rw [e3, s2]; omega
      refine ⟨vp_of s1 (by omega) (by omega), vp_of s2 (by omega) (by omega), Or.inr rfl, x1.symm, ?_⟩
      rw [i34, i40]
      generalize hk' : nn9 v = k at nm eI i34 i40
      have fk : ∀ j, ¬ j = 34 + k → ¬ j = 40 + k → uI (uI (uI (uI I1 97 1 0) 97 0 0) 102 (34 + k) a) 102 (40 + k) b 102 j = I 102 j := fun j h1 h2 => (rd_k h2).trans ((rd_k h1).trans (congrFun c102 j))
      have f34 : uI (uI (uI (uI I1 97 1 0) 97 0 0) 102 (34 + k) a) 102 (40 + k) b 102 (34 + k) = a := (rd_k (by omega)).trans rd_eq
      have f40 : uI (uI (uI (uI I1 97 1 0) 97 0 0) 102 (34 + k) a) 102 (40 + k) b 102 (40 + k) = b := rd_eq
      have g : ∀ c, ¬ c = 97 → ¬ c = 102 → uI (uI (uI (uI I1 97 1 0) 97 0 0) 102 (34 + k) a) 102 (40 + k) b c = I1 c := fun c h1 h2 => (uI_ne h2).trans ((uI_ne h2).trans ((uI_ne h1).trans (uI_ne h1)))
      have g23 : uI (uI (uI (uI I1 97 1 0) 97 0 0) 102 (34 + k) a) 102 (40 + k) b 97 23 = I1 97 23 := by rw [rd_ne (by decide), rd_ne (by decide), rd_k (by decide), rd_k (by decide)]
      generalize uI (uI (uI (uI I1 97 1 0) 97 0 0) 102 (34 + k) a) 102 (40 + k) b = A at fk f34 f40 g g23
      have i : ∀ c, ¬ c = 1 → ¬ c = R 1 7 + 3 → ¬ c = R 1 7 + 4 → I1 c = I c := fun c a1 a2 a3 => by
        rw [eI, uI_ne a1, uI_ne a3, uI_ne a2]
      have mm : mnN (A 102) = mnN (I 102) := congrArg Int32.toNatClampNeg (fk 0 (by omega) (by omega))
      obtain ⟨b1, b2, b3, b4⟩ := q2
      refine h.nw ⟨⟨⟨mnN (I 102), m6, (fk 0 (by omega) (by omega)).trans mt⟩, fun d a1 a2 => ?_, fun j hj => ?_⟩, ⟨?_, ?_, fun d a1 a2 => ?_, fun j hj => ?_⟩, ?_, fun h0 => ?_⟩ ?_ (fun j a1 a2 => fk j (by omega) (by omega)) (fun c a1 a2 => (g c (by omega) (by omega)).trans (i c (by omega) (by omega) (by omega)))
      · rw [fk (3 + d) (by omega) (by omega)]; exact q1.2.1 d a1 a2
      · rw [mm] at hj
        have q := q1.2.2 j hj
        by_cases z : j = k
        · subst z
          rw [f34, f40, fk (46 + j) (by omega) (by omega)]
          exact ⟨hs, q.2⟩
        · rw [fk (34 + j) (by omega) (by omega), fk (40 + j) (by omega) (by omega), fk (46 + j) (by omega) (by omega)]
          exact q
      · rw [g _ (by omega) (by omega), i _ (by omega) (by omega) (by omega), fk 1 (by omega) (by omega)]; exact b1
      · rw [g _ (by omega) (by omega), i _ (by omega) (by omega) (by omega), fk 2 (by omega) (by omega)]; exact b2
      · rw [g _ (by omega) (by omega), i _ (by omega) (by omega) (by omega), fk (3 + d) (by omega) (by omega)]; exact b3 d a1 a2
      · rw [mm] at hj
        obtain ⟨y1, y2, y3⟩ := b4 j hj
        rw [g (R 1 7 + 3) (by omega) (by omega), g (R 1 7 + 4) (by omega) (by omega), g (R 1 7 + 5) (by omega) (by omega)]
        refine ⟨?_, ?_, ?_⟩
        · rw [eI, rd_ne (by first | decide | omega), rd_ne (by first | decide | omega)]
          by_cases z : j = k
          · subst z; rw [rd_eq, f34]
          · rw [rd_k z, fk (34 + j) (by omega) (by omega)]; exact y1
        · rw [eI, rd_ne (by first | decide | omega)]
          by_cases z : j = k
          · subst z; rw [rd_eq, f40]
          · rw [rd_k z, rd_ne (by first | decide | omega), fk (40 + j) (by omega) (by omega)]; exact y2
        · rw [i _ (by omega) (by omega) (by omega), fk (46 + j) (by omega) (by omega)]; exact y3
      · rw [g _ (by omega) (by omega), i _ (by omega) (by omega) (by omega), fk 52 (by omega) (by omega)]; exact q3.1
      · have e52 : ∀ j, 52 ≤ j → A 102 j = I 102 j := fun j hj => fk j (by omega) (by omega)
        rw [e52 52 (by omega)] at h0
        obtain ⟨s, y1, y2, y3, y4, y5, y6, y7⟩ := q3.2 h0
        refine ⟨s, y1, y2, y3, y4, y5.cp (fun c a1 a2 => (g c (by omega) (by omega)).trans (i c (by omega) (by omega) (by omega))), (e52 53 (by omega)).trans y6, fun t ht => ?_⟩
        obtain ⟨w1, w2, w3⟩ := y7 t ht
        exact ⟨(e52 _ (by omega)).trans w1, w2.cp (fun k a1 a2 => e52 k (by omega)), (e52 _ (by omega)).trans w3⟩
      · rw [g23, eI, rd_ne (by decide), rd_ne (by first | decide | omega), rd_ne (by first | decide | omega)]
  · rw [k0] at hk
    rcases H1 with ⟨-, x1, eI⟩ | ⟨y, -, -⟩
    · exact no9 (w := 0) hR h x1 eI
    · exact absurd y.2 hs
/-- the block's first places but the odds, the days, the bakery's cells: all as it was but one place of both -/
theorem W9.od {z : Int32} (hR : RI R) (h : W9 I R) (e1 : ∀ c, ¬ c = 1 → ¬ c = R 1 7 → I1 c = I c) (eo : ∀ k, ¬ k = 1 → I1 (R 1 7) k = I (R 1 7) k) (o1 : I1 (R 1 7) 1 = z) (e2 : ∀ c, ¬ c = 97 → ¬ c = 102 → I2 c = I1 c) (e23 : I2 97 23 = I1 97 23) (ej : ∀ j, ¬ j = 1 → I2 102 j = I1 102 j) (j1 : I2 102 1 = z) : W9 I2 R := by
  have n7 := now_9 hR
  have n9 := n9_p hR
  have e102 : I1 102 = I 102 := e1 102 (by decide) (by omega)
  have ek : ∀ j, ¬ j = 1 → I2 102 j = I 102 j := fun j hj => (ej j hj).trans (congrFun e102 j)
  obtain ⟨q1, q2, q3⟩ := h.1
  have mm : mnN (I2 102) = mnN (I 102) := congrArg Int32.toNatClampNeg (ek 0 (by omega))
  obtain ⟨m6, mt, mi⟩ := q1.m
  obtain ⟨b1, b2, b3, b4⟩ := q2
  have cc : ∀ c, ¬ c = 1 → ¬ c = R 1 7 → ¬ c = 97 → ¬ c = 102 → I2 c = I c := fun c a1 a2 a3 a4 => (e2 c a3 a4).trans (e1 c a1 a2)
  refine h.nw ⟨⟨⟨mnN (I 102), m6, (ek 0 (by omega)).trans mt⟩, fun d a1 a2 => ?_, fun j hj => ?_⟩, ⟨?_, ?_, fun d a1 a2 => ?_, fun j hj => ?_⟩, ?_, fun h0 => ?_⟩ ?_ (fun j a1 a2 => ek j (by omega)) (fun c a1 a2 => cc c (by omega) (by omega) (by omega) (by omega))
  · rw [ek (3 + d) (by omega)]; exact q1.2.1 d a1 a2
  · rw [mm] at hj
    rw [ek (34 + j) (by omega), ek (40 + j) (by omega), ek (46 + j) (by omega)]; exact q1.2.2 j hj
  · rw [e2 _ (by omega) (by omega), o1, j1]
  · rw [e2 _ (by omega) (by omega), eo 3 (by decide), ek 2 (by omega)]; exact b2
  · rw [cc _ (by omega) (by omega) (by omega) (by omega), ek (3 + d) (by omega)]; exact b3 d a1 a2
  · rw [mm] at hj
    rw [cc _ (by omega) (by omega) (by omega) (by omega), cc (R 1 7 + 4) (by omega) (by omega) (by omega) (by omega), cc (R 1 7 + 5) (by omega) (by omega) (by omega) (by omega), ek (34 + j) (by omega), ek (40 + j) (by omega), ek (46 + j) (by omega)]; exact b4 j hj
  · rw [cc _ (by omega) (by omega) (by omega) (by omega), ek 52 (by omega)]; exact q3.1
  · rw [ek 52 (by omega)] at h0
    obtain ⟨s, y1, y2, y3, y4, y5, y6, y7⟩ := q3.2 h0
    refine ⟨s, y1, y2, y3, y4, y5.cp (fun c a1 a2 => cc c (by omega) (by omega) (by omega) (by omega)), (ek 53 (by omega)).trans y6, fun t ht => ?_⟩
    obtain ⟨w1, w2, w3⟩ := y7 t ht
    exact ⟨(ek _ (by omega)).trans w1, w2.cp (fun k a1 a2 => ek k (by omega)), (ek _ (by omega)).trans w3⟩
  · rw [e23, e1 97 (by decide) (by omega)]
noncomputable def okR9 (v : Int32) : Prop := (0 : Int32) ≤ v ∧ v ≤ 16
noncomputable def HRu9 (o : Nat) (v : Int32) (I : Im) (x : Int32) (I1 : Im) : Prop := (¬ okR9 v ∧ x = 0 ∧ I1 = uI I 1 0 (I1 1 0)) ∨ (okR9 v ∧ x = 1 ∧ I1 = uI (uI I o 1 v) 1 0 0)
theorem cx_rule9 {d : Nat} (hR : RI R) : AM (d + 2) 126 112 [.ref 1, .int v] I J R (fun x _ I1 _ _ => HRu9 (R 1 7) v I x I1) := by
  have hO := hR.now.1
  have no : ∀ z : Int32, ¬ okR9 v → AM (d + 1) 150 112 [.ref 1, .int z] I J R (fun x _ I2 J2 R2 => (x = 0 ∨ x = 1) → ((x = 0 ∨ x = 1) ∧ HRu9 (R 1 7) v I x I2)) := fun z h => w_X11_deny ⟨Or.inl rfl, fun _ => ⟨Or.inl rfl, Or.inl ⟨h, rfl, uI_self (k := 0)⟩⟩⟩
  exact w_X11_rule ⟨fun c => no 5 (fun z => ile.mpr z.1 c), fun c1 => ⟨fun c2 => ⟨hR.now.2, bif_t hO (w_X11_allow ⟨Or.inr rfl, fun _ => ⟨Or.inr rfl, Or.inr ⟨⟨ile.mp c1, c2⟩, rfl, rfl⟩⟩⟩)⟩, fun c2 => no 5 (fun z => c2 z.2)⟩⟩
theorem mx_rule9 {d : Nat} (hR : RI R) (h : W9 I R) (H1 : HRu9 (R 1 7) v I x I1) : AM (d + 2) 270 112 [.ref 97, .int v] I1 J1 R (fun x2 _ I2 _ _ => x2 = x ∧ W9 I2 R) := by
  have n7 := now_9 hR
  have t1 : Int32.toNatClampNeg 1 = 1 := rfl
  refine w_X12_rule (px_isInI (lo := 0) (hi := 16) (fun l1 l2 _ => ⟨fun _ => ⟨vp_of (a := 1) rfl (by decide) (by decide), Or.inr rfl, ?_⟩, fun z => absurd z (by decide)⟩) (fun m1 _ => ⟨fun z => absurd rfl z, fun _ => ?_⟩))
  · rcases H1 with ⟨n1, -, -⟩ | ⟨-, x1, eI⟩
    · exact absurd ⟨l1, l2⟩ n1
    · rw [t1]
      refine ⟨x1.symm, h.od (I1 := I1) (z := v) hR (fun c a1 a2 => ?_) (fun k hk => ?_) ?_ (fun c a1 a2 => ?_) ?_ (fun j hj => ?_) rd_eq⟩
      · rw [eI, uI_ne a1, uI_ne a2]
      · rw [eI, rd_ne (by first | decide | omega), rd_k hk]
      · rw [eI, rd_ne (by first | decide | omega), rd_eq]
      · rw [uI_ne a2, uI_ne a1, uI_ne a1]
      · rw [rd_ne (by decide), rd_k (by decide), rd_k (by decide)]
      · rw [rd_k hj, rd_ne (by decide), rd_ne (by decide)]
  · rcases H1 with ⟨-, x1, eI⟩ | ⟨y, -, -⟩
    · exact no9 (w := 0) hR h x1 eI
    · exact m1.elim (fun z => absurd z (ile.mpr y.1)) (fun z => absurd y.2 z)
end W9D
end PT15x5
section PT15x6
/-! ===== learn(), bakery(), days() for the relation of stores ===== -/
section W9E
variable {I I1 I2 : Im} {J J1 J2 : Jm} {R R1 R2 : Rm} {v w x : Int32}
/-- nothing of it is written -/
theorem W9.old (hR : RI R) (h : W9 I R) (e7 : R2 1 7 = R 1 7) (e9 : R2 1 9 = R 1 9) (ec : ∀ c, (R 1 7 ≤ c ∧ c ≤ R 1 7 + 5) ∨ (R 1 9 ≤ c ∧ c ≤ R 1 9 + 5) ∨ (61 ≤ c ∧ c ≤ 96) → I2 c = I c) (ek : ∀ j, j < 1296 → I2 102 j = I 102 j) (e23 : I2 97 23 = I 97 23) : W9 I2 R2 := by
  refine h.nw (R2 := R2) ?_ e23 (fun j _ a => ek j a) (fun c a b => ec c (Or.inr (Or.inr ⟨a, b⟩)))
  rw [e7, e9]
  exact (h.1.cg (fun i hi => ek i (by omega))).cp (fun c a b => ec c (Or.inl ⟨a, b⟩)) (fun c a b => ec c (Or.inr (Or.inl ⟨a, b⟩)))
noncomputable abbrev FrLc9 (o : Nat) (I : Im) (J : Jm) (I2 : Im) (J2 : Jm) : Prop := FrW (fun c k => (c = o ∧ k = 2) ∨ (c = 1 ∧ k = 0)) nV I J I2 J2
noncomputable abbrev FrLm9 (I : Im) (J : Jm) (I2 : Im) (J2 : Jm) : Prop := FrW (fun c k => (c = 102 ∧ k = 3) ∨ (c = 97 ∧ (k = 0 ∨ k = 1))) nV I J I2 J2
theorem cx_learn9 {d : Nat} (hR : RI R) : AM (d + 3) 125 112 [.ref 1, .int v, .int w] I J R (fun _ _ I2 J2 _ => FrLc9 (R 1 7) I J I2 J2) := by
  have hO := hR.now.1
  have f1 : ∀ z k : Int32, FrLc9 (R 1 7) I J (uI (uI I (R 1 7) 2 k) 1 0 z) J := fun z k => (FrW.rf.u (Or.inl ⟨rfl, rfl⟩)).u (Or.inr ⟨rfl, rfl⟩)
  have f2 : ∀ z : Int32, FrLc9 (R 1 7) I J (uI I 1 0 z) J := fun z => FrW.rf.u (Or.inr ⟨rfl, rfl⟩)
  refine w_X11_learn (px_isSlice (fun l1 l2 _ => ⟨fun _ => ⟨hR.now.2, bif_t hO (px_isIn (fun hi _ => ⟨fun c => ⟨hR.now.2, bif_t hO (w_X11_bit (bif_t hO (w_X11_allow ⟨Or.inr rfl, fun _ => ⟨Or.inr rfl, f1 _ _⟩⟩)))⟩, fun c => w_X11_deny ⟨Or.inl rfl, fun _ => ⟨Or.inl rfl, f2 _⟩⟩⟩) (fun hi _ => ⟨fun c => ⟨hR.now.2, bif_t hO (w_X11_bit (bif_t hO (w_X11_allow ⟨Or.inr rfl, fun _ => ⟨Or.inr rfl, f1 _ _⟩⟩)))⟩, fun c => w_X11_deny ⟨Or.inl rfl, fun _ => ⟨Or.inl rfl, f2 _⟩⟩⟩))⟩, fun c => absurd c (by decide)⟩) (fun hn _ => ⟨fun c => absurd rfl c, fun _ => w_X11_deny ⟨Or.inl rfl, fun _ => ⟨Or.inl rfl, f2 _⟩⟩⟩))
theorem mx_learn9 {d : Nat} (hB : Bd I) : AM (d + 3) 269 112 [.ref 97, .int v, .int w] I J R (fun _ _ I2 J2 _ => FrLm9 I J I2 J2) := by
  have k0 := Bd.known0 hB
  have e1 : uI (uI I 97 1 0) 97 0 0 102 = I 102 := (uI_ne (by decide)).trans (uI_ne (by decide))
  have t3 : Int32.toNatClampNeg 3 = 3 := rfl
  have f0 : FrLm9 I J (uI (uI I 97 1 0) 97 0 0) J := (FrW.rf.u (Or.inr ⟨rfl, Or.inr rfl⟩)).u (Or.inr ⟨rfl, Or.inl rfl⟩)
  have f1 : ∀ z : Int32, FrLm9 I J (uI (uI (uI I 97 1 0) 97 0 0) 97 0 z) J := fun z => f0.u (Or.inr ⟨rfl, Or.inl rfl⟩)
  have f2 : ∀ z : Int32, FrLm9 I J (uI (uI (uI I 97 1 0) 97 0 0) 102 3 z) J := fun z => f0.u (Or.inl ⟨rfl, rfl⟩)
  have v3 : vp_in 3 1620 := vp_of (a := 3) rfl (by decide) (by decide)
  refine w_X12_learn (px_mSlice (fun l1 l2 _ => ⟨fun _ => ⟨v3, ?_⟩, fun c => absurd c (by decide)⟩) (fun hn _ => ⟨fun c => absurd rfl c, fun _ => w_X12_no ⟨Or.inl rfl, fun _ => ⟨Or.inl rfl, f1 _⟩⟩⟩))
  rw [t3, e1]
  exact px_isOf k0 l1 l2 (fun hi _ => ⟨fun c => ⟨v3, v3, Or.inr rfl, f2 _⟩, fun c => w_X12_no ⟨Or.inl rfl, fun _ => ⟨Or.inl rfl, f1 _⟩⟩⟩) (fun hi _ => ⟨fun c => ⟨v3, v3, Or.inr rfl, f2 _⟩, fun c => w_X12_no ⟨Or.inl rfl, fun _ => ⟨Or.inl rfl, f1 _⟩⟩⟩)
theorem W9.learn (hR : RI R) (h : W9 I R) (hC : FrLc9 (R 1 7) I J I1 J1) (hM : FrLm9 I1 J1 I2 J2) : W9 I2 R := by
  have n7 := now_9 hR
  have n9 := n9_p hR
  have cc : ∀ c, ¬ c = 1 → ¬ c = R 1 7 → ¬ c = 97 → ¬ c = 102 → I2 c = I c := fun c a1 a2 a3 a4 => (hM.c (fun k q => by rcases q with q | q <;> omega)).trans (hC.c (fun k q => by rcases q with q | q <;> omega))
  have ek : ∀ j, ¬ j = 3 → I2 102 j = I 102 j := fun j hj => (hM.i (fun q => by rcases q with q | q <;> omega)).trans (hC.i (fun q => by rcases q with q | q <;> omega))
  have eo : ∀ k, ¬ k = 2 → I2 (R 1 7) k = I (R 1 7) k := fun k hk => (hM.i (fun q => by rcases q with q | q <;> omega)).trans (hC.i (fun q => by rcases q with q | q <;> omega))
  have e23 : I2 97 23 = I 97 23 := (hM.i (fun q => by rcases q with q | q <;> omega)).trans (hC.i (fun q => by rcases q with q | q <;> omega))
  obtain ⟨q1, q2, q3⟩ := h.1
  have mm : mnN (I2 102) = mnN (I 102) := congrArg Int32.toNatClampNeg (ek 0 (by omega))
  obtain ⟨m6, mt, mi⟩ := q1.m
  obtain ⟨b1, b2, b3, b4⟩ := q2
  refine h.nw ⟨⟨⟨mnN (I 102), m6, (ek 0 (by omega)).trans mt⟩, fun d a1 a2 => ?_, fun j hj => ?_⟩, ⟨?_, ?_, fun d a1 a2 => ?_, fun j hj => ?_⟩, ?_, fun h0 => ?_⟩ e23 (fun j a1 a2 => ek j (by omega)) (fun c a1 a2 => cc c (by omega) (by omega) (by omega) (by omega))
  · rw [ek (3 + d) (by omega)]; exact q1.2.1 d a1 a2
  · rw [mm] at hj
    rw [ek (34 + j) (by omega), ek (40 + j) (by omega), ek (46 + j) (by omega)]; exact q1.2.2 j hj
  · rw [eo 1 (by omega), ek 1 (by omega)]; exact b1
  · rw [eo 3 (by omega), ek 2 (by omega)]; exact b2
  · rw [cc _ (by omega) (by omega) (by omega) (by omega), ek (3 + d) (by omega)]; exact b3 d a1 a2
  · rw [mm] at hj
    rw [cc (R 1 7 + 3) (by omega) (by omega) (by omega) (by omega), cc (R 1 7 + 4) (by omega) (by omega) (by omega) (by omega), cc (R 1 7 + 5) (by omega) (by omega) (by omega) (by omega), ek (34 + j) (by omega), ek (40 + j) (by omega), ek (46 + j) (by omega)]; exact b4 j hj
  · rw [cc _ (by omega) (by omega) (by omega) (by omega), ek 52 (by omega)]; exact q3.1
  · rw [ek 52 (by omega)] at h0
    obtain ⟨s, y1, y2, y3, y4, y5, y6, y7⟩ := q3.2 h0
    refine ⟨s, y1, y2, y3, y4, y5.cp (fun c a1 a2 => cc c (by omega) (by omega) (by omega) (by omega)), (ek 53 (by omega)).trans y6, fun t ht => ?_⟩
    obtain ⟨w1, w2, w3⟩ := y7 t ht
    exact ⟨(ek _ (by omega)).trans w1, w2.cp (fun k a1 a2 => ek k (by omega)), (ek _ (by omega)).trans w3⟩
/-! bakery() -/
theorem prP_hi {T : Nat → Int32} {e a b : Nat} {B B2 : BS} (h : BOk B) (hz : ∀ j, 52 ≤ j → B.1 j = 0) (hp : prP T e B a = .ok (B2, b)) : ∀ j, 52 ≤ j → B2.1 j = 0 := by
  unfold prP at hp
  split at hp
  · unfold prO at hp
    split at hp
    · obtain ⟨v, b1, h1, h2⟩ := rb_ok hp
      obtain ⟨u, b2, h3, h4⟩ := rb_ok h2
      cases h4
      intro j hj
      show upd B.1 1 v j = 0
      rw [upd_i (by omega)]; exact hz j hj
    · cases hp
  · split at hp
    · unfold prS at hp
      obtain ⟨v, b1, h1, h2⟩ := rb_ok hp
      have hv := tkN_in h1
      have hs := (tn_sl hv.1 hv.2).2.1
      split at h2
      · cases h2
      · obtain ⟨n, b3, h3, h4⟩ := rb_ok h2
        obtain ⟨u, b4, h5, h6⟩ := rb_ok h4
        cases h6
        intro j hj
        show upd B.1 (3 + Int32.toNatClampNeg v) n j = 0
        rw [upd_i (by omega)]; exact hz j hj
    · split at hp
      · unfold prM at hp
        split at hp
        · cases hp
        · rename_i q6
          obtain ⟨w, b1, h1, h2⟩ := rb_ok hp
          split at h2
          · obtain ⟨_, b2, _, h3⟩ := rb_ok h2
            obtain ⟨p, b3, hp3, h4⟩ := rb_ok h3
            obtain ⟨_, b4, _, h5⟩ := rb_ok h4
            obtain ⟨q, b5, hq5, h6⟩ := rb_ok h5
            obtain ⟨s, b6, hs6, h7⟩ := rb_ok h6
            obtain ⟨_, b7, _, h8⟩ := rb_ok h7
            cases h8
            have hm := h.1.m
            have hm5 : mnN B.1 ≤ 5 := by
              rcases Nat.lt_or_ge (mnN B.1) 6 with z | z
              · omega
              · exact absurd (by rw [hm.2, show mnN B.1 = 6 by omega]; rfl) q6
            intro j hj
            show upd (upd (upd (upd B.1 (34 + mnN B.1) p) (40 + mnN B.1) q) (46 + mnN B.1) s) 0 (B.1 0 + 1) j = 0
            rw [upd_i (by omega), upd_i (by omega), upd_i (by omega), upd_i (by omega)]; exact hz j hj
          · cases h2
      · split at hp
        · unfold prK at hp
          split at hp
          · obtain ⟨v, b1, h1, h2⟩ := rb_ok hp
            obtain ⟨u, b2, h3, h4⟩ := rb_ok h2
            cases h4
            intro j hj
            show upd B.1 3 v j = 0
            rw [upd_i (by omega)]; exact hz j hj
          · cases hp
        · cases hp
theorem prB_hi {T : Nat → Int32} {e : Nat} : ∀ (f : Nat) (B B2 : BS) (a b : Nat), BOk B → (∀ j, 52 ≤ j → B.1 j = 0) → prB T e f B a = .ok (B2, b) → ∀ j, 52 ≤ j → B2.1 j = 0 := by
  intro f
  induction f with
  | zero => intro B B2 a b _ hz h; cases h; exact hz
  | succ f ih =>
    intro B B2 a b hB hz h
    have e1 : prB T e (f + 1) B a = if tK (tok T e a) = 0 then .ok (B, a) else rb (prP T e B a) fun B b => prB T e f B b := rfl
    rw [e1] at h
    split at h
    · cases h; exact hz
    · obtain ⟨B3, b3, h1, h2⟩ := rb_ok h
      exact ih B3 B2 b3 b (bok_prP hB h1) (prP_hi hB hz h1) h2
theorem em_hi : ∀ j, 52 ≤ j → em0.1 j = 0 := fun j hj => by
  show (if j = 1 then (4 : Int32) else if j = 3 then 1073741823 else 0) = 0
  rw [if_neg (by omega), if_neg (by omega)]
theorem COk.w9 {C : Nat → Int32} (h : COk C) : CW9 C := by
  obtain ⟨⟨m, hm, e⟩, -, -, h4, h5⟩ := h
  refine ⟨⟨m, hm, e⟩, h4, fun k hk => ?_⟩
  obtain ⟨⟨a1, a2⟩, ⟨a3, a4⟩, a5, a6⟩ := h5 k hk
  have z1 : (1 : Int32).toInt = 1 := rfl
  have z30 : (30 : Int32).toInt = 30 := rfl
  have z99 : (99 : Int32).toInt = 99 := rfl
  refine ⟨⟨⟨?_, ?_⟩, ⟨?_, ?_⟩⟩, a5, by omega⟩ <;> rw [le_i] <;> omega
noncomputable abbrev WCe9 (o : Nat) : Nat → Nat → Prop := fun c k => (c = 1 ∧ k = 0) ∨ c = 3 ∨ c = 6 ∨ (o ≤ c ∧ c ≤ o + 5)
theorem px_cbZ9 {d n f : Nat} {Q : Qt} (hf : f ≤ 900) (hn : n ≤ f) (h1 : I 3 1 = nI f) (hJ : ∀ k, k < 22 → J 5 k = rsv.getD k 0) (hR : RI R)
    (hE : ∀ p I2 J2, prB (I 4) n (n + 1) em0 0 = .error p → FrW (WCe9 (R 1 8)) (VB (R 1 8)) I J I2 J2 → Q (-1) 0 I2 J2 R)
    (hK : ∀ B2 b I2 J2, prB (I 4) n (n + 1) em0 0 = .ok (B2, b) → BOk B2 → FrW (WC (R 1 8) (R 1 9)) (VB (R 1 8)) I J I2 J2 → BkC B2.1 B2.2.1 (R 1 8) I2 J2 → I2 (R 1 9) 0 = 0 → Q (B2.1 0) 0 I2 J2 (uR (uR R 1 7 (R 1 8)) 1 8 (R 1 7))) : AM (d + 8) 108 112 [.ref 1, .int (nI n)] I J R Q := by
  have hO := hR.spare.1
  have ho := o_ge hO
  have hP := hR.plan.1
  have hp := p_ge hP
  have hop := op_ne hO hP
  refine am2_of (k := kX11_bakery) rfl rfl rfl rfl rfl rfl (Nat.le_of_ble_eq_true rfl) (fun P hc => sg_X11_bakery_0 hc _ _ _ _ ⟨fun c => absurd c (nI_pos (by omega)), fun _ => ⟨fun _ => ?_, fun c => absurd ?_ c⟩⟩)
  · refine px_open hf hn h1 hJ (fun I2 J2 hF2 h2 h31 h33 => ⟨hR.spare.2, px_intoB ho hO h2 (fun p I3 J3 he hF3 hf3 _ => ?_) (fun B2 b I3 J3 he hF3 h3 hB3 hO3 _ => ?_)⟩)
    · refine ⟨fun q => absurd rfl q, fun _ => w_X11_refuse ⟨rfl, ?_⟩⟩
      exact hE p _ J3 he (((hF2.up (fun c k q => Or.inr (Or.inl q)) (fun _ _ q => Or.inl q)).tr (hF3.up (fun c k q => q.elim (fun z => Or.inr (Or.inl z.1)) (fun z => z.elim (fun y => Or.inr (Or.inr (Or.inl y))) (fun y => Or.inr (Or.inr (Or.inr y))))) (fun _ _ q => q))).u (Or.inl ⟨rfl, rfl⟩))
    · refine ⟨fun _ => ⟨hR.now.2, hR.spare.2, hR.spare.2, hR.now.2, ?_⟩, fun q => absurd q (by decide)⟩
      have e9 : uR (uR R 1 7 (R 1 8)) 1 8 (R 1 7) 1 9 = R 1 9 := by rw [uR_k (by decide), uR_k (by decide)]
      have e7 : uR (uR R 1 7 (R 1 8)) 1 8 (R 1 7) 1 7 = R 1 8 := by rw [uR_k (by decide), uR_s]
      rw [e9, e7]
      refine ⟨hR.plan.2, bif_t hP (px_forgetD hP ⟨hR.spare.2, bif_t hO (w_X11_answer ⟨rfl, ?_⟩)⟩)⟩
      have hFa : FrW (WC (R 1 8) (R 1 9)) (VB (R 1 8)) I J (uI (uI (uI (uI I3 (R 1 9) 0 0) (R 1 9) 1 0) (R 1 9) 2 0) 1 0 0) J3 := (((((hF2.up (fun c k q => Or.inr (Or.inl q)) (fun _ _ q => Or.inl q)).tr (hF3.up (fun c k q => q.elim (fun z => Or.inr (Or.inl z.1)) (fun z => z.elim (fun y => Or.inr (Or.inr (Or.inl y))) (fun y => Or.inr (Or.inr (Or.inr (Or.inl y)))))) (fun _ _ q => q))).u (Or.inr (Or.inr (Or.inr (Or.inr ⟨rfl, by omega⟩))))).u (Or.inr (Or.inr (Or.inr (Or.inr ⟨rfl, by omega⟩))))).u (Or.inr (Or.inr (Or.inr (Or.inr ⟨rfl, by omega⟩))))).u (Or.inl ⟨rfl, rfl⟩)
      have es : ∀ c, ¬ c = R 1 9 → ¬ c = 1 → uI (uI (uI (uI I3 (R 1 9) 0 0) (R 1 9) 1 0) (R 1 9) 2 0) 1 0 0 c = I3 c := fun c z1 z2 => (uI_ne z2).trans ((uI_ne z1).trans ((uI_ne z1).trans (uI_ne z1)))
      have e4 : uI (uI (uI I3 (R 1 9) 0 0) (R 1 9) 1 0) (R 1 9) 2 0 (R 1 8) 4 = B2.1 0 := by
        rw [rd_ne (by first | decide | omega), rd_ne (by first | decide | omega), rd_ne (by first | decide | omega)]; exact hB3.1.1
      rw [e4]
      refine hK B2 b _ J3 he hO3 hFa (hB3.1.cp (fun c z1 z2 => es c (by omega) (by omega)) rfl) ?_
      rw [rd_ne (by first | decide | omega), rd_k (by decide), rd_k (by decide), rd_eq]
  · rw [h1]; exact (nle_nI (by omega) (by omega)).mpr hn
noncomputable def bkF9 (f : Nat) (T : Nat → Int32) (v : Int32) : Prop := (v < 0 ∨ nI f < v) ∨ ∃ n p, n ≤ f ∧ v = nI n ∧ prB T n (n + 1) em0 0 = .error p
noncomputable def HBa9 (f : Nat) (T : Nat → Int32) (v : Int32) (I : Im) (J : Jm) (R : Rm) (I1 : Im) (J1 : Jm) (R1 : Rm) : Prop :=
  (bkF9 f T v ∧ FrW (WCe9 (R 1 8)) (VB (R 1 8)) I J I1 J1 ∧ R1 1 7 = R 1 7 ∧ R1 1 9 = R 1 9) ∨ ∃ n B b, n ≤ f ∧ v = nI n ∧ prB T n (n + 1) em0 0 = .ok (B, b) ∧ BOk B ∧ FrW (WC (R 1 8) (R 1 9)) (VB (R 1 8)) I J I1 J1 ∧ BkC B.1 B.2.1 (R 1 8) I1 J1 ∧ I1 (R 1 9) 0 = 0 ∧ R1 1 7 = R 1 8 ∧ R1 1 9 = R 1 9
theorem cx_bak9 {d : Nat} (hB : Bd I) (hR : RI R) (h3 : R3 I J) : AM (d + 8) 108 112 [.ref 1, .int v] I J R (fun _ _ I2 J2 R2 => HBa9 (fl I) (I 4) v I J R I2 J2 R2) := by
  obtain ⟨h1, h2⟩ := fl_bd hB
  rcases sp_v (v := v) h2 with q | ⟨n, hn, rfl⟩
  · exact px_cbN h2 h1 q (Or.inl ⟨Or.inl q, FrW.rf.u (Or.inl ⟨rfl, rfl⟩), rfl, rfl⟩)
  · exact px_cbZ9 h2 hn h1 h3.2.2 hR (fun p I2 J2 he hF => Or.inl ⟨Or.inr ⟨n, p, hn, rfl, he⟩, hF, rfl, rfl⟩) (fun B2 b I2 J2 he hO hF hC h0 => Or.inr ⟨n, B2, b, hn, rfl, he, hO, hF, hC, h0, by rw [uR_k (by decide), uR_s], by rw [uR_k (by decide), uR_k (by decide)]⟩)
theorem mx_bak9 {d f : Nat} {T : Nat → Int32} (hR : RI R) (h : W9 I R) (h1 : I1 97 8 = nI f) (h2 : f ≤ 900) (hT : Byt T) (hI : ∀ i, i < f → I1 101 i = T i) (H1 : HBa9 f T v I J R I1 J1 R1) : AM (d + 8) 233 112 [.ref 97, .int v] I1 J1 R1 (fun _ _ I2 _ R2 => R2 = R1 → W9 I2 R1) := by
  have hp := hR.rp.1
  have n9 := n9_p hR
  have clsF : FrW (WCe9 (R 1 8)) (VB (R 1 8)) I J I1 J1 → (∀ c, (R 1 7 ≤ c ∧ c ≤ R 1 7 + 5) ∨ (R 1 9 ≤ c ∧ c ≤ R 1 9 + 5) ∨ (61 ≤ c ∧ c ≤ 96) → I1 c = I c) ∧ I1 102 = I 102 ∧ I1 97 23 = I 97 23 := fun hF =>
    ⟨fun c hc => hF.c (fun k q => by rcases q with q | q | q | q <;> omega), hF.c (fun k q => by rcases q with q | q | q | q <;> omega), hF.i (fun q => by rcases q with q | q | q | q <;> omega)⟩
  have refF : ∀ {I2 : Im} {J2 : Jm}, FrQ I1 J1 I2 J2 → (∀ c, c ≤ 96 → I2 c = I1 c) ∧ (∀ j, 324 ≤ j → j < 1296 → I2 102 j = I1 102 j) ∧ I2 97 23 = I1 97 23 := fun hF =>
    ⟨fun c hc => hF.c (fun k q => by rcases q with q | q <;> omega), fun j a b => hF.i (fun q => by rcases q with q | q <;> omega), hF.i (fun q => by rcases q with q | q; exact absurd q.2 (by decide); omega)⟩
  have bad : ∀ n : Nat, n ≤ f → ¬ (nI n < 0 ∨ nI f < nI n) := fun n hn z => by
    rcases z with q | q
    · exact absurd q (nI_pos (by omega))
    · have := (nlt_nI (by omega) (by omega)).mp q; omega
  have fail : bkF9 f T v → FrW (WCe9 (R 1 8)) (VB (R 1 8)) I J I1 J1 → R1 1 7 = R 1 7 → R1 1 9 = R 1 9 → ∀ I2 J2, FrQ I1 J1 I2 J2 → (∀ k, k < 1296 → I2 102 k = I1 102 k) → W9 I2 R1 := fun _ hF e7 e9 I2 J2 hF2 ek => by
    obtain ⟨c1, c2, c3⟩ := clsF hF
    obtain ⟨r1, r2, r3⟩ := refF hF2
    exact h.old hR e7 e9 (fun c hc => (r1 c (by omega)).trans (c1 c hc)) (fun j hj => (ek j hj).trans (congrFun c2 j)) (r3.trans c3)
  rcases sp_v (v := v) h2 with q | ⟨n, hn, rfl⟩
  · refine px_mbN h2 h1 q (fun I2 hF _ _ _ e102 _ => ?_)
    rcases H1 with ⟨z, hF1, e7, e9⟩ | ⟨n, B, b, hn, rfl, -⟩
    · exact fail z hF1 e7 e9 I2 J1 hF (fun k _ => congrFun e102 k)
    · exact absurd q (bad n hn)
  · refine px_mbY h2 hn h1 hT hI (fun p I2 J2 he hF _ _ l1 _ _ => ?_) (fun B2 b I2 J2 he hO hF _ _ _ g1 g2 _ => ?_)
    · rcases H1 with ⟨z, hF1, e7, e9⟩ | ⟨n2, B, b, hn2, en, hp2, -⟩
      · exact fail z hF1 e7 e9 I2 J2 hF l1
      · have := (nK (a := n) (b := n2) (by omega) (by omega)).mp en
        subst this
        rw [he] at hp2; cases hp2
    · rcases H1 with ⟨z, hF1, e7, e9⟩ | ⟨n2, B, b3, hn2, en, hp2, hO1, hF1, hC, h0, e7, e9⟩
      · exfalso
        rcases z with z | ⟨n2, p, hn2, en, hp2⟩
        · exact bad n hn z
        · have := (nK (a := n) (b := n2) (by omega) (by omega)).mp en
          subst this
          rw [he] at hp2; cases hp2
      · have := (nK (a := n) (b := n2) (by omega) (by omega)).mp en
        subst this
        rw [he] at hp2
        injection hp2 with hp2
        injection hp2 with eB eb
        subst eB
        have hz := prB_hi (n + 1) em0 B2 0 b BOk.em em_hi he
        obtain ⟨r1, r2, r3⟩ := refF hF
        obtain ⟨k4, k1, k3, k2, ks, kk⟩ := hC
        have c102 : I1 102 = I 102 := hF1.c (fun k q => by rcases q with q | q | q | q | q <;> omega)
        have kc : ∀ c, 61 ≤ c → c ≤ 96 → I1 c = I c := fun c a a2 => hF1.c (fun k q => by rcases q with q | q | q | q | q <;> omega)
        refine h.nw (R2 := R1) ?_ (r3.trans (hF1.i (fun q => by rcases q with q | q | q | q | q <;> omega))) (fun j a a2 => (r2 j a a2).trans (congrFun c102 j)) (fun c a a2 => (r1 c (by omega)).trans (kc c a a2))
        rw [e7, e9]
        refine ⟨hO.1.w9.cg (fun i hi => g1 i (by omega)), ?_, ?_, fun z => absurd ?_ z⟩
        · have hA : BA99 (R 1 8) B2.1 I2 := by
            refine ⟨?_, ?_, fun d a a2 => ?_, fun k hk => ?_⟩
            · rw [r1 _ (by omega)]; exact k1
            · rw [r1 _ (by omega)]; exact k3
            · rw [r1 _ (by omega)]; exact ks d a a2
            · rw [r1 _ (by omega), r1 _ (by omega), r1 _ (by omega)]; exact (kk k hk).2
          exact hA.cg hO.1.m.1 (fun i hi => g1 i (by omega))
        · rw [r1 _ (by omega), g1 52 (by omega), hz 52 (by omega)]; exact h0
        · rw [g1 52 (by omega)]; exact hz 52 (by omega)
/-! days() -/
theorem RcO.sh {c : CD} {f f2 : Nat → Int32} {w w2 : Nat} (h : RcO c f w) (e : ∀ k, k < 9 → f2 (w2 + k) = f (w + k)) : RcO c f2 w2 := by
  obtain ⟨h1, h2, h3, h4, h5⟩ := h
  refine ⟨fun q => ?_, fun q => ?_, fun q => ?_, fun q => ?_, fun q => ?_⟩
  · rw [e 1 (by omega), e 2 (by omega), e 3 (by omega)]; exact h1 q
  · rw [e 1 (by omega), e 2 (by omega)]; exact h2 q
  · rw [e 1 (by omega)]; exact h3 q
  · rw [e 5 (by omega), e 1 (by omega)]; exact h4 q
  · rw [e 7 (by omega), e 6 (by omega)]; exact h5 q
noncomputable def dyF9 (f : Nat) (T : Nat → Int32) (N : Nat → Int64) (m : Nat) (v : Int32) : Prop := (v < 0 ∨ nI f < v ∨ 300 < v) ∨ ∃ n q, n ≤ f ∧ n ≤ 300 ∧ v = nI n ∧ dyB T n N m (n + 1) ds0 0 = .error q
noncomputable def HDa9 (f : Nat) (T : Nat → Int32) (N : Nat → Int64) (m : Nat) (v : Int32) (I : Im) (J : Jm) (R : Rm) (I1 : Im) (J1 : Jm) (R1 : Rm) : Prop :=
  (FrW (WD (R 1 10)) VR I J I1 J1 ∧ R1 1 7 = R 1 7) ∧ ((dyF9 f T N m v ∧ R1 1 9 = R 1 9) ∨ ∃ n s b, n ≤ f ∧ n ≤ 300 ∧ v = nI n ∧ dyB T n N m (n + 1) ds0 0 = .ok (s, b) ∧ SDs s (R 1 10) I1 ∧ I1 (R 1 10) 0 = 1 ∧ R1 1 9 = R 1 10)
theorem cx_day9 {d m : Nat} {N : Nat → Int64} (hB : Bd I) (hR : RI R) (h3 : R3 I J) (hm : MnA N m (R 1 7) I J) : AM (d + 9) 109 112 [.ref 1, .int v] I J R (fun _ _ I2 J2 R2 => HDa9 (fl I) (I 4) N m v I J R I2 J2 R2) := by
  obtain ⟨h1, h2⟩ := fl_bd hB
  rcases dy_v (v := v) h2 with q | ⟨n, hn, h300, rfl⟩
  · exact px_cdN h2 h1 q ⟨⟨FrW.rf.u (Or.inl ⟨rfl, rfl⟩), rfl⟩, Or.inl ⟨Or.inl q, rfl⟩⟩
  · exact px_cdY h2 hn h300 h1 h3.2.2 hR hm (fun q I2 J2 he hF _ _ _ => ⟨⟨hF, rfl⟩, Or.inl ⟨Or.inr ⟨n, q, hn, h300, rfl, he⟩, rfl⟩⟩) (fun s b I2 J2 he _ hF _ _ _ _ hs h0 => ⟨⟨hF, by rw [uR_k (by decide), uR_k (by decide)]⟩, Or.inr ⟨n, s, b, hn, h300, rfl, he, hs, h0, by rw [uR_k (by decide), uR_s]⟩⟩)
theorem mx_day9 {d f m : Nat} {T : Nat → Int32} {N : Nat → Int64} (hR : RI R) (h : W9 I R) (h1 : I1 97 8 = nI f) (h2 : f ≤ 900) (hT : Byt T) (hI : ∀ i, i < f → I1 101 i = T i) (hm : MnR N m I1 J1) (H1 : HDa9 f T N m v I J R I1 J1 R1) : AM (d + 12) 237 112 [.ref 97, .int v] I1 J1 R1 (fun _ _ I2 _ R2 => R2 = R1 → W9 I2 R1) := by
  have n7 := now_9 hR
  have n9 := hR.rp.2.1
  obtain ⟨⟨hF1, e7⟩, H1⟩ := H1
  have c1 : ∀ c, ¬ c = 1 → 9 ≤ c → ¬ (R 1 10 ≤ c ∧ c ≤ R 1 10 + 5) → I1 c = I c := fun c a a2 a3 => hF1.c (fun k q => by rcases q with q | q | q | q | q <;> omega)
  have c102 : I1 102 = I 102 := c1 102 (by decide) (by omega) (by omega)
  have c23 : I1 97 23 = I 97 23 := congrFun (c1 97 (by decide) (by omega) (by omega)) 23
  have bad : ∀ n : Nat, n ≤ f → n ≤ 300 → ¬ (nI n < 0 ∨ nI f < nI n ∨ 300 < nI n) := fun n hn h3 z => by
    rcases z with q | q | q
    · exact absurd q (nI_pos (by omega))
    · have := (nlt_nI (by omega) (by omega)).mp q; omega
    · have := (nlt_nI (a := 300) (by omega) (by omega)).mp q; omega
  have fail : R1 1 9 = R 1 9 → ∀ I2 : Im, (∀ c, c ≤ 96 → I2 c = I1 c) → (∀ k, k < 1296 → I2 102 k = I1 102 k) → I2 97 23 = I1 97 23 → W9 I2 R1 := fun e9 I2 r1 ek r3 => by
    clear H1
    exact h.old hR e7 e9 (fun c hc => (r1 c (by omega)).trans (c1 c (by omega) (by omega) (by omega))) (fun j hj => (ek j hj).trans (congrFun c102 j)) (r3.trans c23)
  rcases dy_v (v := v) h2 with q | ⟨n, hn, h300, rfl⟩
  · refine px_mdN h2 h1 q (fun I2 hF _ => ?_)
    rcases H1 with ⟨-, e9⟩ | ⟨n, s, b, hn, h3, rfl, -⟩
    · exact fail e9 I2 (fun c hc => hF.c (fun k z => by have := z.1; omega)) (fun k _ => hF.i (fun z => absurd z.1 (by decide))) (hF.i (fun z => absurd z.2 (by decide)))
    · exact absurd q (bad n hn h3)
  · refine px_mdY h2 hn h300 h1 hT hI hm (fun q I2 J2 he hF _ _ l1 _ => ?_) (fun s b I2 J2 he hO hS hF _ _ _ hM c52 c53 hcp _ => ?_)
    · rcases H1 with ⟨-, e9⟩ | ⟨n2, s, b, hn2, h3, en, hp2, -⟩
      · exact fail e9 I2 (fun c hc => hF.c (fun k z => by rcases z with z | z <;> omega)) (fun k hk => l1 k (by omega)) (hF.i (fun z => by rcases z with ⟨-, z | z⟩ | z; exact absurd z (by decide); omega; omega))
      · have := (nK (a := n) (b := n2) (by omega) (by omega)).mp en
        subst this
        rw [he] at hp2; cases hp2
    · rcases H1 with ⟨z, e9⟩ | ⟨n2, s2, b2, hn2, h3, en, hp2, hs, h0, e9⟩
      · exfalso
        rcases z with z | ⟨n2, p, hn2, h3, en, hp2⟩
        · exact bad n hn h300 z
        · have := (nK (a := n) (b := n2) (by omega) (by omega)).mp en
          subst this
          rw [he] at hp2; cases hp2
      · have := (nK (a := n) (b := n2) (by omega) (by omega)).mp en
        subst this
        rw [he] at hp2
        injection hp2 with hp2
        injection hp2 with eB eb
        subst eB
        obtain ⟨-, hW, hd0⟩ := dyB_wf (n + 1) ds0 s 0 b (by omega) (by omega) DOk.z Wf9.z he
        have r1 : ∀ c, c ≤ 96 → I2 c = I1 c := fun c hc => hF.c (fun k z => by rcases z with z | z <;> omega)
        have rk : ∀ k, (k < 52 ∨ (324 ≤ k ∧ k < 1350)) → I2 102 k = I 102 k := fun k hk => (hF.i (fun z => by rcases z with z | z <;> omega)).trans (congrFun c102 k)
        have h30 := hO.1
        refine h.nw (R2 := R1) ?_ ((hF.i (fun z => by rcases z with ⟨-, z | z⟩ | z; exact absurd z (by decide); omega; omega)).trans c23) (fun j a a2 => rk j (by omega)) (fun c a a2 => (r1 c (by omega)).trans (c1 c (by omega) (by omega) (by omega)))
        rw [e7, e9]
        obtain ⟨q1, q2, -⟩ := h.1
        refine ⟨q1.cg (fun i hi => rk i (by omega)), ?_, ?_, fun _ => ⟨s, hO, hW, hd0, hS, ?_, c53, fun t ht => ?_⟩⟩
        · exact (q2.cp (I2 := I2) (congrFun ((r1 _ (by omega)).trans (c1 _ (by omega) (by omega) (by omega))) 1) (congrFun ((r1 _ (by omega)).trans (c1 _ (by omega) (by omega) (by omega))) 3) (fun c hc => (r1 c (by omega)).trans (c1 c (by omega) (by omega) (by omega)))).cg q1.m.1 (fun i hi => rk i (by omega))
        · rw [r1 _ (by omega), h0, c52]
        · have hs2 : SDc s (R 1 10) I1 := ⟨hs.2.1, hs.2.2.2.2⟩
          exact hs2.cp (fun c a a2 => r1 c (by omega))
        · obtain ⟨k1, k2, k3⟩ := hM.2 t ht
          have no : ¬ opn s t := fun ⟨k, z, _⟩ => by omega
          refine ⟨?_, k2.sh (fun k hk => ?_), ?_⟩
          · rw [hcp (9 * t) (by omega)]; exact k1
          · have q := hcp (9 * t + k) (by omega)
            rw [show 54 + 9 * t + k = 54 + (9 * t + k) by omega, q, show 1350 + (9 * t + k) = 1350 + 9 * t + k by omega]
          · have q := hcp (9 * t + 8) (by omega)
            rw [show 54 + 9 * t + 8 = 54 + (9 * t + 8) by omega, q, show 1350 + (9 * t + 8) = 1350 + 9 * t + 8 by omega]
            exact k3 no
end W9E
end PT15x6
section PT15x7
/-! ===== mark(), back() for the relation of stores ===== -/
section W9M
variable {I I1 I2 : Im} {J J1 J2 : Jm} {R : Rm} {C : Nat → Int32} {a b : Nat}
noncomputable def CpB9 (a b : Nat) (I I1 : Im) : Prop := I1 a 1 = I b 1 ∧ I1 a 3 = I b 3 ∧ (∀ k, k < 31 → I1 (a + 1) k = I (b + 1) k) ∧ ∀ k, k < 6 → I1 (a + 3) k = I (b + 3) k ∧ I1 (a + 4) k = I (b + 4) k ∧ I1 (a + 5) k = I (b + 5) k
noncomputable def CpD9 (a b : Nat) (I I1 : Im) : Prop := I1 a 0 = I b 0 ∧ I1 a 2 = I b 2 ∧ ∀ k, k < 60 → I1 (a + 1) k = I (b + 1) k ∧ I1 (a + 2) k = I (b + 2) k ∧ I1 (a + 3) k = I (b + 3) k ∧ I1 (a + 4) k = I (b + 4) k ∧ I1 (a + 5) k = I (b + 5) k
theorem BA99.cy (hm : mnN C ≤ 6) (h : BA99 b C I) (k : CpB9 a b I I1) : BA99 a C I1 := by
  obtain ⟨h1, h2, h3, h4⟩ := h
  obtain ⟨k1, k2, k3, k4⟩ := k
  refine ⟨k1.trans h1, k2.trans h2, fun d x y => (k3 d (by omega)).trans (h3 d x y), fun j hj => ?_⟩
  obtain ⟨q1, q2, q3⟩ := k4 j (by omega)
  obtain ⟨p1, p2, p3⟩ := h4 j hj
  exact ⟨q1.trans p1, q2.trans p2, q3.trans p3⟩
theorem DH9.cy (h : DH9 b C I) (k : CpD9 a b I I1) : DH9 a C I1 := by
  obtain ⟨k1, k2, k3⟩ := k
  refine ⟨k1.trans h.1, fun h0 => ?_⟩
  obtain ⟨s, g1, g2, g3, g4, ⟨e2, e5⟩, g6, g7⟩ := h.2 h0
  have hL : dL s ≤ 60 := by have := g1.1; have := g1.2.2.1; omega
  refine ⟨s, g1, g2, g3, g4, ⟨k2.trans e2, fun j hj => ?_⟩, g6, g7⟩
  obtain ⟨q1, q2, q3, q4, q5⟩ := k3 j (by omega)
  obtain ⟨p1, p2, p3, p4, p5⟩ := e5 j hj
  exact ⟨q1.trans p1, q2.trans p2, q3.trans p3, q4.trans p4, q5.trans p5⟩
noncomputable def HMa9 (R : Rm) (I I1 : Im) : Prop := (¬ I 1 13 < 3 ∧ I1 = uI I 1 0 (I1 1 0)) ∨ ∃ m : Nat, m < 3 ∧ I 1 13 = nI m ∧ (∀ c, ¬ c = 1 → ¬ (61 + 12 * m ≤ c ∧ c ≤ 72 + 12 * m) → I1 c = I c) ∧ CpB9 (61 + 12 * m) (R 1 7) I I1 ∧ CpD9 (67 + 12 * m) (R 1 9) I I1
theorem cx_mark9 {d : Nat} (hB : Bd I) (hR : RI R) : AM (d + 3) 147 112 [.ref 1] I J R (fun _ _ I2 _ _ => HMa9 R I I2) := by
  have hO := hR.now.1
  have n7 := now_9 hR
  have n9 := n9_p hR
  obtain ⟨b0, b3⟩ := bd13 hB
  obtain ⟨m, em, tm, tn⟩ := nI_o8 (a := 0) b0
  refine w_X11_mark ⟨fun c3 => ?_, fun c3 => w_X11_refuse (Or.inl ⟨c3, uI_self (k := 0)⟩)⟩
  have m3 : m < 3 := by
    rw [Int32.lt_iff_toInt_lt, show (3 : Int32).toInt = 3 from rfl] at c3; omega
  have hk := hR.kb m (by omega)
  have hkd := hR.kd m (by omega)
  have ek := hR.kb_e m3
  have ed := hR.kd_e m3
  rw [tn]
  refine ⟨vp_of (a := (I 1 13).toInt) rfl b0 (by omega), hk.1, hR.now.2, bif_t hk.2 (px_cpB hk.2 hO (by omega) (fun I1 J1 f1 g1 _ _ e1 e3 est en => ?_))⟩
  have i13 : I1 1 13 = I 1 13 := by rw [f1 1 (by omega)]
  rw [i13, tn]
  refine ⟨vp_of (a := (I 1 13).toInt) rfl b0 (by omega), hkd.1, hR.plan.2, bif_t hkd.2 (px_cpD hkd.2 hR.plan.1 (by omega) ?_ (fun I2 f2 q0 _ q2 qk => w_X11_answer (Or.inr ⟨m, m3, em, fun c z1 z2 => ?_, ⟨?_, ?_, fun k hk => ?_, fun k hk => ?_⟩, ⟨?_, ?_, fun k hk => ?_⟩⟩)))⟩
  · rw [f1 (R 1 9) (by omega)]; exact plan_b hB hR.plan.1
  · rw [uI_ne z1, uI_ne z1, f2 c (by omega), f1 c (by omega)]
  · rw [rd_ne (by first | decide | omega), rd_ne (by first | decide | omega), f2 _ (by omega), ← ek]; exact e1
  · rw [rd_ne (by first | decide | omega), rd_ne (by first | decide | omega), f2 _ (by omega), ← ek]; exact e3
  · rw [rd_ne (by first | decide | omega), rd_ne (by first | decide | omega), f2 _ (by omega), ← ek]; exact est k hk
  · rw [rd_ne (by first | decide | omega), rd_ne (by first | decide | omega), rd_ne (by first | decide | omega), rd_ne (by first | decide | omega), rd_ne (by first | decide | omega), rd_ne (by first | decide | omega), f2 _ (by omega), f2 _ (by omega), f2 _ (by omega), ← ek]; exact (en k hk).2
  · rw [rd_ne (by first | decide | omega), rd_ne (by first | decide | omega), ← ed, q0, f1 _ (by omega)]
  · rw [rd_ne (by first | decide | omega), rd_ne (by first | decide | omega), ← ed, q2, f1 _ (by omega)]
  · obtain ⟨w1, w2, w3, w4, w5⟩ := qk k hk
    rw [rd_ne (by first | decide | omega), rd_ne (by first | decide | omega), rd_ne (by first | decide | omega), rd_ne (by first | decide | omega), rd_ne (by first | decide | omega), rd_ne (by first | decide | omega), rd_ne (by first | decide | omega), rd_ne (by first | decide | omega), rd_ne (by first | decide | omega), rd_ne (by first | decide | omega), ← ed, w1, w2, w3, w4, w5, f1 _ (by omega), f1 _ (by omega), f1 _ (by omega), f1 _ (by omega), f1 _ (by omega)]
    exact ⟨rfl, rfl, rfl, rfl, rfl⟩
noncomputable def MMa9 (I I2 : Im) : Prop := (I 97 23 = 3 ∧ (∀ c, ¬ c = 97 → I2 c = I c) ∧ I2 97 23 = I 97 23) ∨ ∃ m : Nat, m < 3 ∧ I 97 23 = nI m ∧ I2 97 23 = nI (m + 1) ∧ (∀ k, k < 324 → I2 102 (324 * (m + 1) + k) = I 102 k) ∧ (∀ k, (k < 324 * (m + 1) ∨ 324 * (m + 1) + 324 ≤ k) → I2 102 k = I 102 k) ∧ ∀ c, c ≤ 96 → I2 c = I c
theorem mx_mark9 {d : Nat} (hB : Bd I) : AM (d + 2) 317 112 [.ref 97] I J R (fun _ _ I2 _ _ => MMa9 I I2) := by
  obtain ⟨b0, b3⟩ := bd23 hB
  obtain ⟨m, em, tm, tn⟩ := nI_o8 (a := 0) b0
  have f1 : ∀ c, ¬ c = 97 → uI (uI I 97 1 0) 97 0 0 c = I c := fun c h => (uI_ne h).trans (uI_ne h)
  have g1 : uI (uI I 97 1 0) 97 0 0 97 23 = I 97 23 := (rd_k (by decide)).trans (rd_k (by decide))
  refine w_X12_mark ?_
  rw [g1]
  refine ⟨fun c3 => ?_, fun c3 => w_X12_refuse (Or.inl ⟨c3, fun c hc => (uI_ne hc).trans (f1 c hc), (rd_k (by decide)).trans g1⟩)⟩
  have m3 : m < 3 := by
    rcases Nat.lt_or_ge m 3 with h | h
    · exact h
    · exact absurd (em.trans (by rw [show m = 3 by omega]; rfl)) c3
  rw [em, nI_k1, rd_eq]
  have k1 : (324 : Int32) * 0 = nI (324 * 0) := rfl
  have k2 : (324 : Int32) * nI (m + 1) = nI (324 * (m + 1)) := by rw [show (324 : Int32) = nI 324 from rfl]; exact nI_mul (by omega) (by omega) (by omega)
  have k3 : (6 : Int32) * 0 = nI (6 * 0) := rfl
  have k4 : (6 : Int32) * nI (m + 1) = nI (6 * (m + 1)) := by rw [show (6 : Int32) = nI 6 from rfl]; exact nI_mul (by omega) (by omega) (by omega)
  refine px_copy (f := 0) (t := m + 1) k1 k2 k3 k4 (by omega) (by omega) (by omega) (fun I2 J2 h1 h2 h3 h4 h5 h6 => ?_)
  have e23 : I2 97 23 = nI (m + 1) := by rw [h1 97 (by decide), rd_eq]
  have e102 : uI (uI (uI I 97 1 0) 97 0 0) 97 23 (nI (m + 1)) 102 = I 102 := (uI_ne (by decide)).trans (f1 102 (by decide))
  rw [e102] at h2 h3
  exact Or.inr ⟨m, m3, em, e23, fun k hk => (h3 k hk).trans (by rw [Nat.mul_zero, Nat.zero_add]), h2, fun c hc => by rw [h1 c (by omega), uI_ne (by first | decide | omega)]; exact f1 c (by omega)⟩
theorem W9.mark (hB : Bd I) (hR : RI R) (hL : (I 1 13).toInt = (I 97 23).toInt) (h : W9 I R) (h1 : HMa9 R I I1) (h2 : MMa9 I1 I2) : W9 I2 R := by
  have b := bd13 hB
  have n7 := now_9 hR
  have n9 := n9_p hR
  rcases h1 with ⟨n1, eI⟩ | ⟨m, m3, em, kc, cb, cd⟩
  · have c : ∀ k, ¬ k = 1 → I1 k = I k := fun k hk => by rw [eI]; exact uI_ne hk
    have c23 : I1 97 23 = I 97 23 := congrFun (c 97 (by decide)) 23
    rcases h2 with ⟨n2, r1, r2⟩ | ⟨m, m3, em, _⟩
    · exact h.old hR rfl rfl (fun k hk => (r1 k (by omega)).trans (c k (by omega))) (fun j _ => congrFun ((r1 102 (by decide)).trans (c 102 (by decide))) j) (r2.trans c23)
    · rw [c23] at em
      rw [em, nI_toInt (by omega)] at hL
      exact absurd (show I 1 13 < 3 by rw [Int32.lt_iff_toInt_lt, show (3 : Int32).toInt = 3 from rfl]; omega) n1
  · have c23 : I1 97 23 = I 97 23 := congrFun (kc 97 (by decide) (by omega)) 23
    have c102 : I1 102 = I 102 := kc 102 (by decide) (by omega)
    rcases h2 with ⟨n2, -, -⟩ | ⟨m2, m32, em2, e23, d1, d2, r1⟩
    · rw [c23] at n2
      rw [n2, em, nI_toInt (by omega), show (3 : Int32).toInt = 3 from rfl] at hL
      omega
    · rw [c23] at em2
      have em' : m2 = m := by
        rw [em, em2, nI_toInt (by omega), nI_toInt (by omega)] at hL
        omega
      subst em'
      rw [c102] at d1 d2
      obtain ⟨q1, q2, q3⟩ := h.1
      refine ⟨?_, fun j hj hm => ?_⟩
      · exact (h.1.cg (fun i hi => d2 i (by omega))).cp (fun c x y => (r1 c (by omega)).trans (kc c (by omega) (by omega))) (fun c x y => (r1 c (by omega)).trans (kc c (by omega) (by omega)))
      · rw [e23, nI_toInt (by omega)] at hm
        by_cases z : j = m2
        · subst z
          have w : KW9 (I 102) (61 + 12 * j) (67 + 12 * j) I1 := ⟨q1, q2.cy q1.m.1 cb, q3.cy cd⟩
          exact (w.cg (C2 := blk9 (324 * (j + 1)) I2) (fun i hi => d1 i hi)).cp (fun c x y => r1 c (by omega)) (fun c x y => r1 c (by omega))
        · have hm3 : (j : Int) < (I 97 23).toInt := by rw [← hL, em, nI_toInt (by omega)]; omega
          exact ((h.2 j hj hm3).cg (C2 := blk9 (324 * (j + 1)) I2) (fun i hi => d2 _ (by omega))).cp (fun c x y => (r1 c (by omega)).trans (kc c (by omega) (by omega))) (fun c x y => (r1 c (by omega)).trans (kc c (by omega) (by omega)))
noncomputable def HBb9 (R : Rm) (I I1 : Im) : Prop := (¬ (1 : Int32) ≤ I 1 13 ∧ I1 = uI I 1 0 (I1 1 0)) ∨ ∃ m : Nat, m < 3 ∧ I 1 13 = nI (m + 1) ∧ (∀ c, ¬ c = 1 → ¬ (R 1 7 ≤ c ∧ c ≤ R 1 7 + 5) → ¬ (R 1 9 ≤ c ∧ c ≤ R 1 9 + 5) → I1 c = I c) ∧ CpB9 (R 1 7) (61 + 12 * m) I I1 ∧ CpD9 (R 1 9) (67 + 12 * m) I I1
theorem cx_back9 {d : Nat} (hB : Bd I) (hR : RI R) : AM (d + 3) 148 112 [.ref 1] I J R (fun _ _ I2 _ _ => HBb9 R I I2) := by
  have hO := hR.now.1
  have n7 := now_9 hR
  have n9 := n9_p hR
  obtain ⟨b0, b3⟩ := bd13 hB
  refine w_X11_back ⟨fun c3 => ?_, fun c3 => w_X11_refuse (Or.inl ⟨c3, uI_self (k := 0)⟩)⟩
  have c3' := c3
  rw [Int32.le_iff_toInt_le, show (1 : Int32).toInt = 1 from rfl] at c3'
  obtain ⟨m, m3, em⟩ : ∃ m : Nat, m < 3 ∧ I 1 13 = nI (m + 1) := by
    refine ⟨(I 1 13).toInt.toNat - 1, by omega, Int32.toInt_inj.mp ?_⟩
    rw [nI_toInt (by omega)]; omega
  have e1 : I 1 13 - 1 = nI m := by rw [em]; exact nI_pred m
  have ek := hR.kb_e m3
  have ed := hR.kd_e m3
  have hk := hR.kb m (by omega)
  have hkd := hR.kd m (by omega)
  rw [rd_eq, e1, tn_nI (by omega)]
  refine ⟨hR.now.2, vp_nI (by omega) (by omega), hk.1, bif_t hO (px_cpB hO hk.2 (by omega) (fun I1 J1 f1 g1 _ _ y1 y3 est en => ?_))⟩
  have i13 : I1 1 13 = nI m := by rw [f1 1 (by omega), rd_eq]
  rw [i13, tn_nI (by omega)]
  refine ⟨hR.plan.2, vp_nI (by omega) (by omega), hkd.1, bif_t hR.plan.1 (px_cpD hR.plan.1 hkd.2 (by omega) ?_ (fun I2 f2 q0 _ q2 qk => ?_))⟩
  · rw [f1 _ (by omega), rd_ne (by first | decide | omega)]; exact plan_b hB hkd.2
  · refine w_X11_answer (Or.inr ⟨m, m3, em, fun c z1 z2 z3 => ?_, ⟨?_, ?_, fun k hk => ?_, fun k hk => ?_⟩, ⟨?_, ?_, fun k hk => ?_⟩⟩)
    · rw [uI_ne z1, f2 c (by omega), f1 c (by omega), uI_ne z1]
    · rw [rd_ne (by first | decide | omega), f2 _ (by omega), y1, rd_ne (by first | decide | omega), ek]
    · rw [rd_ne (by first | decide | omega), f2 _ (by omega), y3, rd_ne (by first | decide | omega), ek]
    · rw [rd_ne (by first | decide | omega), f2 _ (by omega), est k hk, rd_ne (by first | decide | omega), ek]
    · obtain ⟨-, w1, w2, w3⟩ := en k hk
      rw [rd_ne (by first | decide | omega), rd_ne (by first | decide | omega), rd_ne (by first | decide | omega), f2 _ (by omega), f2 _ (by omega), f2 _ (by omega), w1, w2, w3, rd_ne (by first | decide | omega), rd_ne (by first | decide | omega), rd_ne (by first | decide | omega), ek]
      exact ⟨rfl, rfl, rfl⟩
    · rw [rd_ne (by first | decide | omega), q0, f1 _ (by omega), rd_ne (by first | decide | omega), ed]
    · rw [rd_ne (by first | decide | omega), q2, f1 _ (by omega), rd_ne (by first | decide | omega), ed]
    · obtain ⟨w1, w2, w3, w4, w5⟩ := qk k hk
      rw [rd_ne (by first | decide | omega), rd_ne (by first | decide | omega), rd_ne (by first | decide | omega), rd_ne (by first | decide | omega), rd_ne (by first | decide | omega), w1, w2, w3, w4, w5, f1 _ (by omega), f1 _ (by omega), f1 _ (by omega), f1 _ (by omega), f1 _ (by omega), rd_ne (by first | decide | omega), rd_ne (by first | decide | omega), rd_ne (by first | decide | omega), rd_ne (by first | decide | omega), rd_ne (by first | decide | omega), ed]
      exact ⟨rfl, rfl, rfl, rfl, rfl⟩
noncomputable def MBb9 (I I2 : Im) : Prop := (I 97 23 = 0 ∧ (∀ c, ¬ c = 97 → I2 c = I c) ∧ I2 97 23 = I 97 23) ∨ ∃ m : Nat, m < 3 ∧ I 97 23 = nI (m + 1) ∧ I2 97 23 = nI m ∧ (∀ k, k < 324 → I2 102 k = I 102 (324 * (m + 1) + k)) ∧ (∀ k, 324 ≤ k → I2 102 k = I 102 k) ∧ ∀ c, c ≤ 96 → I2 c = I c
theorem mx_back9 {d : Nat} (hB : Bd I) : AM (d + 2) 318 112 [.ref 97] I J R (fun _ _ I2 _ _ => MBb9 I I2) := by
  obtain ⟨b0, b3⟩ := bd23 hB
  have f1 : ∀ c, ¬ c = 97 → uI (uI I 97 1 0) 97 0 0 c = I c := fun c h => (uI_ne h).trans (uI_ne h)
  have g1 : uI (uI I 97 1 0) 97 0 0 97 23 = I 97 23 := (rd_k (by decide)).trans (rd_k (by decide))
  refine w_X12_back ?_
  rw [g1]
  refine ⟨fun c3 => ?_, fun c3 => w_X12_refuse (Or.inl ⟨c3, fun c hc => (uI_ne hc).trans (f1 c hc), (rd_k (by decide)).trans g1⟩)⟩
  obtain ⟨m, m3, em⟩ : ∃ m : Nat, m < 3 ∧ I 97 23 = nI (m + 1) := by
    have n0 : ¬ (I 97 23).toInt = 0 := fun q => c3 (Int32.toInt_inj.mp q)
    refine ⟨(I 97 23).toInt.toNat - 1, by omega, Int32.toInt_inj.mp ?_⟩
    rw [nI_toInt (by omega)]; omega
  rw [em]
  have k1 : (324 : Int32) * 0 = nI (324 * 0) := rfl
  have k2 : (324 : Int32) * nI (m + 1) = nI (324 * (m + 1)) := by rw [show (324 : Int32) = nI 324 from rfl]; exact nI_mul (by omega) (by omega) (by omega)
  have k3 : (6 : Int32) * 0 = nI (6 * 0) := rfl
  have k4 : (6 : Int32) * nI (m + 1) = nI (6 * (m + 1)) := by rw [show (6 : Int32) = nI 6 from rfl]; exact nI_mul (by omega) (by omega) (by omega)
  refine px_copy (f := m + 1) (t := 0) k2 k1 k4 k3 (by omega) (by omega) (by omega) (fun I2 J2 h1 h2 h3 h4 h5 h6 => ?_)
  have e23 : I2 97 23 = nI (m + 1) := by rw [h1 97 (by decide), g1, em]
  have e102 : uI (uI I 97 1 0) 97 0 0 102 = I 102 := f1 102 (by decide)
  rw [e102] at h2 h3
  rw [e23, nI_pred]
  refine Or.inr ⟨m, m3, em, rd_eq, fun k hk => ?_, fun k hk => ?_, fun c hc => ?_⟩
  · rw [rd_ne (by decide)]
    have q := h3 k hk
    rw [Nat.mul_zero, Nat.zero_add] at q
    exact q
  · rw [rd_ne (by decide)]; exact h2 k (by omega)
  · rw [uI_ne (by first | decide | omega), h1 c (by omega)]; exact f1 c (by omega)
theorem W9.back (hB : Bd I) (hR : RI R) (hL : (I 1 13).toInt = (I 97 23).toInt) (h : W9 I R) (h1 : HBb9 R I I1) (h2 : MBb9 I1 I2) : W9 I2 R := by
  have b := bd13 hB
  have n7 := now_9 hR
  have n9 := n9_p hR
  rcases h1 with ⟨n1, eI⟩ | ⟨m, m3, em, kc, cb, cd⟩
  · have c : ∀ k, ¬ k = 1 → I1 k = I k := fun k hk => by rw [eI]; exact uI_ne hk
    have c23 : I1 97 23 = I 97 23 := congrFun (c 97 (by decide)) 23
    rcases h2 with ⟨n2, r1, r2⟩ | ⟨m, m3, em, _⟩
    · exact h.old hR rfl rfl (fun k hk => (r1 k (by omega)).trans (c k (by omega))) (fun j _ => congrFun ((r1 102 (by decide)).trans (c 102 (by decide))) j) (r2.trans c23)
    · rw [c23] at em
      rw [em, nI_toInt (by omega)] at hL
      exact absurd (show (1 : Int32) ≤ I 1 13 by rw [le_i, show (1 : Int32).toInt = 1 from rfl]; omega) n1
  · have c23 : I1 97 23 = I 97 23 := congrFun (kc 97 (by decide) (by omega) (by omega)) 23
    have c102 : I1 102 = I 102 := kc 102 (by decide) (by omega) (by omega)
    rcases h2 with ⟨n2, -, -⟩ | ⟨m2, m32, em2, e23, d1, d2, r1⟩
    · rw [c23] at n2
      rw [n2, em, nI_toInt (by omega), show (0 : Int32).toInt = 0 from rfl] at hL
      omega
    · rw [c23] at em2
      have em' : m2 = m := by
        rw [em, em2, nI_toInt (by omega), nI_toInt (by omega)] at hL
        omega
      subst em'
      rw [c102] at d1 d2
      have hm3 : ((m2 : Nat) : Int) < (I 97 23).toInt := by rw [em2, nI_toInt (by omega)]; omega
      obtain ⟨q1, q2, q3⟩ := h.2 m2 m3 hm3
      refine ⟨?_, fun j hj hm => ?_⟩
      · have w : KW9 (blk9 (324 * (m2 + 1)) I) (R 1 7) (R 1 9) I1 := ⟨q1, q2.cy q1.m.1 cb, q3.cy cd⟩
        exact (w.cg (C2 := I2 102) (fun i hi => d1 i hi)).cp (fun c x y => r1 c (by omega)) (fun c x y => r1 c (by omega))
      · rw [e23, nI_toInt (by omega)] at hm
        have hm4 : (j : Int) < (I 97 23).toInt := by rw [em2, nI_toInt (by omega)]; omega
        exact ((h.2 j hj hm4).cg (C2 := blk9 (324 * (j + 1)) I2) (fun i hi => d2 _ (by omega))).cp (fun c x y => (r1 c (by omega)).trans (kc c (by omega) (by omega) (by omega))) (fun c x y => (r1 c (by omega)).trans (kc c (by omega) (by omega) (by omega)))
end W9M
end PT15x7
