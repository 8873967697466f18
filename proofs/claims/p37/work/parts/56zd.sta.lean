section PT15x0
/-! printed by grp9.py: the stores, the dues, what the men have, odds, cuts, the days: what keeps them -/
/-- the class's rows of them -/
noncomputable def arW9 : List Nat := [10, 12, 13, 14, 16, 18, 19, 20, 62, 64, 65, 66, 74, 76, 77, 78, 86, 88, 89, 90, 22, 23, 24, 25, 26, 28, 29, 30, 31, 32, 68, 69, 70, 71, 72, 80, 81, 82, 83, 84, 92, 93, 94, 95, 96]
noncomputable def badW9 (a : Nat) : Bool := arW9.any (fun b => Nat.beq a b)
noncomputable def okgW9 (ci k : Nat) : Bool := !(Nat.beq ci 0 && (Nat.beq k 0 || (Nat.beq k 6 || (Nat.beq k 7 || Nat.beq k 8)))) && !(Nat.beq ci 2 && Nat.ble 3 k)
noncomputable def okpW9 (ci k : Nat) : Bool := !(Nat.beq ci 0 && (Nat.beq k 1 || Nat.beq k 3)) && !Nat.beq ci 2
noncomputable def BP9 : List Nat := [21, 27, 67, 79, 91]
noncomputable def KW99 (I I2 : Im) : Prop := (∀ a, badW9 a = true → I2 a = I a) ∧ (∀ c, c ∈ BKL → I2 c 1 = I c 1 ∧ I2 c 3 = I c 3) ∧ ∀ c, c ∈ BP9 → I2 c = I c
theorem KW99.rf {I : Im} : KW99 I I := ⟨fun _ _ => rfl, fun _ _ => ⟨rfl, rfl⟩, fun _ _ => rfl⟩
theorem KW99.tr {I I2 I3 : Im} (h : KW99 I I2) (h2 : KW99 I2 I3) : KW99 I I3 := ⟨fun a q => (h2.1 a q).trans (h.1 a q), fun c q => ⟨(h2.2.1 c q).1.trans (h.2.1 c q).1, (h2.2.1 c q).2.trans (h.2.1 c q).2⟩, fun c q => (h2.2.2 c q).trans (h.2.2 c q)⟩
theorem badW9_ne {a b : Nat} (h : badW9 a = false) (hb : badW9 b = true) : ¬ b = a := fun q => by
  subst q
  rw [h] at hb
  exact absurd hb (by decide)
theorem arW9_sh : ∀ a, a ∈ arW9 → 100 ≤ (shl.getD (a - 1) (999, 0)).1 := by decide +kernel
theorem badW9_mem {a : Nat} (h : badW9 a = true) : a ∈ arW9 := by
  unfold badW9 at h
  obtain ⟨b, hb, e⟩ := List.any_eq_true.mp h
  have := Nat.eq_of_beq_eq_true e
  rw [this]; exact hb
theorem badW9_o {a ci : Nat} (h : (shl.getD (a - 1) (999, 0)).1 = ci) (hc : ci < 100) : badW9 a = false := by
  cases q : badW9 a with
  | false => rfl
  | true => have := arW9_sh a (badW9_mem q); omega
theorem BP9_sh : ∀ c, c ∈ BP9 → (shl.getD (c - 1) (999, 0)).1 = 2 := by decide +kernel
theorem okpW9_f {ci k : Nat} (h : okpW9 ci k = true) : (ci = 0 → ¬ 1 = k ∧ ¬ 3 = k) ∧ ¬ ci = 2 := by
  refine ⟨fun e => ⟨fun q => ?_, fun q => ?_⟩, fun e => ?_⟩
  · subst e; subst q; exact absurd h (by decide)
  · subst e; subst q; exact absurd h (by decide)
  · subst e
    unfold okpW9 at h
    rw [nb_refl, Bool.not_true, Bool.and_false] at h
    exact absurd h (by decide)
theorem stg_W9 {I0 : Im} : StG badW9 okpW9 (fun I _ _ => KW99 I0 I) := by
  refine ⟨fun I J R o ci k x h1 h2 h3 hF => ?_, fun I J R o ci k x h1 h2 h3 hF => hF, fun I J R a t j x h1 h2 hF => ?_, fun I J R a t j x h1 h2 hF => hF, fun I J R a0 a1 t p q m h1 h2 hF => ?_, fun I J R a0 a1 t p q m h1 h2 hF => hF, fun I J R o ci k x h1 h2 hF => hF⟩
  · have hb := badW9_o h1 h2
    refine ⟨fun a ha => (uI_ne (badW9_ne hb ha)).trans (hF.1 a ha), fun c hc => ?_, fun c hc => ?_⟩
    · by_cases ho : c = o
      · subst ho
        have e := (okpW9_f h3).1 (h1.symm.trans (BKL_sh c hc))
        exact ⟨(rd_k e.1).trans (hF.2.1 c hc).1, (rd_k e.2).trans (hF.2.1 c hc).2⟩
      · rw [uI_ne ho]; exact hF.2.1 c hc
    · have ho : ¬ c = o := fun q => by
        subst q
        exact (okpW9_f h3).2 (h1.symm.trans (BP9_sh c hc))
      rw [uI_ne ho]; exact hF.2.2 c hc
  · refine ⟨fun b hb => (uI_ne (badW9_ne h2 hb)).trans (hF.1 b hb), fun c hc => ?_, fun c hc => ?_⟩
    · have := BKL_sh c hc
      rw [uI_ne (fun q => by subst q; omega)]; exact hF.2.1 c hc
    · have := BP9_sh c hc
      rw [uI_ne (fun q => by subst q; omega)]; exact hF.2.2 c hc
  · refine ⟨fun b hb => (cI_ne (badW9_ne h2 hb)).trans (hF.1 b hb), fun c hc => ?_, fun c hc => ?_⟩
    · have := BKL_sh c hc
      have e : cI I a0 a1 p q m c = I c := cI_ne (fun z => by subst z; omega)
      rw [e]; exact hF.2.1 c hc
    · have := BP9_sh c hc
      have e : cI I a0 a1 p q m c = I c := cI_ne (fun z => by subst z; omega)
      rw [e]; exact hF.2.2 c hc
set_option maxRecDepth 100000 in
theorem gf_W9 : ∀ o ci k, 0 < o → (shl.getD (o - 1) (999, 0)).1 = ci → fkd ci k = 4 → okgW9 ci k = true → badW9 (o + fof ci k) = false := by
  have each : ∀ q ∈ fk4L, okgW9 (shl.getD (q.1 - 1) (999, 0)).1 q.2 = true → badW9 (q.1 + fof (shl.getD (q.1 - 1) (999, 0)).1 q.2) = false := by decide +kernel
  intro o ci k h0 h1 h2 h3
  obtain ⟨i1, i2⟩ := fkd_in h2 (by decide)
  subst h1
  exact each (o, k) (List.contains_iff_mem.mp (fk4_all o (shl_in rfl (by omega)) h0 k i2 h2)) h3
theorem HRf_W9 {R : Rm} (h : RI R) : HRf badW9 R := by
  constructor
  · intro o ci k h0 h1 h2
    obtain ⟨i1, i2⟩ := fkd_in h2 (by decide)
    subst h1
    obtain ⟨rfl, hk⟩ := okH9_s (okH9_all o (shl_in rfl (by omega)) h0 k i2 h2)
    rcases hk with rfl | rfl | rfl | rfl
    · exact badW9_o (isO_spec h.now.1).2.2 (by decide)
    · exact badW9_o (isO_spec h.spare.1).2.2 (by decide)
    · exact badW9_o (isO_spec h.plan.1).2.2 (by decide)
    · exact badW9_o (isO_spec h.splan.1).2.2 (by decide)
  · intro a t j h1 h2
    have ha : a < 113 := by
      rcases Nat.lt_or_ge a 113 with q | q
      · exact q
      · unfold aL at h2
        rw [sh_out (by omega)] at h2
        exact absurd h2 (Nat.not_lt_zero _)
    have lt := shl9_lt a ha
    rcases arr9_all a ha (by omega) lt with ⟨rfl, e⟩ | ⟨rfl, e⟩ | ⟨rfl, e⟩
    · exact badW9_o (isO_spec (h.tray j (by omega)).2).2.2 (by decide)
    · exact badW9_o (isO_spec (h.kb j (by omega)).2).2.2 (by decide)
    · exact badW9_o (isO_spec (h.kd j (by omega)).2).2.2 (by decide)
noncomputable def okasW9 : List Value → Bool
  | [] => true
  | .ref a :: r => !badW9 a && okasW9 r
  | _ :: r => okasW9 r
theorem okasW9_kv : ∀ as : List Value, okasW9 as = true → kvS badW9 as := by
  intro as
  induction as with
  | nil => intro _; exact kvS.n
  | cons v r ih =>
    intro h
    cases v with
    | ref a =>
      unfold okasW9 at h
      rw [Bool.and_eq_true, Bool.not_eq_true'] at h
      exact kvS.c (kvO.rf h.1) (ih h.2)
    | _ => exact kvS.c (fun _ q => by cases q) (ih h)
/-- all that comes to those and is not pure: X0_addLoaves, X0_addMan, X0_copyFrom, X0_cutUp, X0_forget, X0_handBack, X0_handOver, X0_splitUp, X11_back, X11_bake, X11_bakery, X11_come, X11_copyStore, X11_cut, X11_days, X11_give, X11_live, X11_man, X11_mark, X11_mean, X11_owe, X11_rule, X11_split, X11_store, X11_take, X1_readInto, X1_readMan, X1_readOdds, X1_readStore, X2_add, X2_copyFrom, X2_forget, X2_pair, X3_readAct, X3_readCut, X3_readEnd, X3_readInto, X3_readStep, X3_readTest, X4_act, X4_addLoaves, X4_behindEnd, X4_behindStep, X4_cutUp, X4_doAny, X4_handOver, X4_run, X4_splitUp -/
noncomputable def dtyW9 : List Nat := [0, 1, 2, 4, 14, 15, 17, 18, 19, 21, 22, 23, 24, 27, 28, 29, 30, 31, 32, 33, 34, 35, 36, 37, 38, 40, 41, 42, 43, 46, 47, 48, 49, 50, 51, 53, 58, 74, 85, 88, 94, 99, 108, 109, 112, 113, 117, 118, 119, 120, 121, 122, 123, 124, 126, 144, 146, 147, 148, 172]
set_option maxRecDepth 100000 in
theorem clWW9 : ClT pul dtyW9 okgW9 okpW9 := ClT.ef (by decide +kernel)
theorem kpW9 {d mi n : Nat} {as : List Value} {I : Im} {J : Jm} {R : Rm} {Q : Qt} (hd : dtyW9.elem mi = false) (hR : RI R) (ha : okasW9 as = true) (h : AM d mi n as I J R (fun x y I' J' R' => KW99 I I' → Q x y I' J' R')) : AM d mi n as I J R Q :=
  AM_w (F := fun I' _ _ => KW99 I I') pul_kk clWW9 gf_W9 stg_W9 hd (okasW9_kv as ha) (HRf_W9 hR) KW99.rf h
/-- all that writes those fields -/
noncomputable def dtyF9 : List Nat := [0, 1, 2, 15, 17, 21, 22, 27, 28, 29, 30, 32, 33, 34, 35, 36, 37, 38, 40, 41, 43, 46, 47, 48, 49, 53, 58, 74, 85, 88, 94, 99, 108, 109, 119, 120, 126, 144, 146, 147, 148, 172]
set_option maxRecDepth 100000 in
theorem clF9 : ClT pul dtyF9 (fun _ _ => true) okpW9 := ClT.ef (by decide +kernel)
noncomputable def KF9 (I I2 : Im) : Prop := (∀ c, c ∈ BKL → I2 c 1 = I c 1 ∧ I2 c 3 = I c 3) ∧ ∀ c, c ∈ BP9 → I2 c = I c
theorem stg_F9 {I0 : Im} : StG (fun _ => false) okpW9 (fun I _ _ => KF9 I0 I) := by
  refine ⟨fun I J R o ci k x h1 h2 h3 hF => ⟨fun c hc => ?_, fun c hc => ?_⟩, fun I J R o ci k x h1 h2 h3 hF => hF, fun I J R a t j x h1 h2 hF => ⟨fun c hc => ?_, fun c hc => ?_⟩, fun I J R a t j x h1 h2 hF => hF, fun I J R a0 a1 t p q m h1 h2 hF => ⟨fun c hc => ?_, fun c hc => ?_⟩, fun I J R a0 a1 t p q m h1 h2 hF => hF, fun I J R o ci k x h1 h2 hF => hF⟩
  · by_cases ho : c = o
    · subst ho
      have e := (okpW9_f h3).1 (h1.symm.trans (BKL_sh c hc))
      exact ⟨(rd_k e.1).trans (hF.1 c hc).1, (rd_k e.2).trans (hF.1 c hc).2⟩
    · rw [uI_ne ho]; exact hF.1 c hc
  · have ho : ¬ c = o := fun q => by
      subst q
      exact (okpW9_f h3).2 (h1.symm.trans (BP9_sh c hc))
    rw [uI_ne ho]; exact hF.2 c hc
  · have := BKL_sh c hc
    rw [uI_ne (fun q => by subst q; omega)]; exact hF.1 c hc
  · have := BP9_sh c hc
    rw [uI_ne (fun q => by subst q; omega)]; exact hF.2 c hc
  · have := BKL_sh c hc
    have e : cI I a0 a1 p q m c = I c := cI_ne (fun z => by subst z; omega)
    rw [e]; exact hF.1 c hc
  · have := BP9_sh c hc
    have e : cI I a0 a1 p q m c = I c := cI_ne (fun z => by subst z; omega)
    rw [e]; exact hF.2 c hc
theorem arW9_in : ∀ a, a ∈ arW9 → (shl.getD (a - 1) (999, 0)).1 = 100 := by decide +kernel
/-- no row of ints is written, none of those fields -/
theorem kpX9 {d mi n : Nat} {as : List Value} {I : Im} {J : Jm} {R : Rm} {Q : Qt} (hd : nil8.elem mi = true) (hd2 : dtyF9.elem mi = false) (h : AM d mi n as I J R (fun x y I' J' R' => KW99 I I' → Q x y I' J' R')) : AM d mi n as I J R Q := by
  have h1 : AM d mi n as I J R (fun x y I' J' R' => KF9 I I' → (KW99 I I' ∧ (KW99 I I' → Q x y I' J' R'))) := AM_m d _ _ _ _ _ _ _ _ (fun x y I' J' R' q f => ⟨⟨fun a ha => q.1 a (arW9_in a (badW9_mem ha)), f.1, f.2⟩, q.2⟩) (AM_i nil8_t d mi n as I J R _ hd h)
  have h2 : AM d mi n as I J R (fun x y I' J' R' => KW99 I I' ∧ (KW99 I I' → Q x y I' J' R')) := AM_w (F := fun I' _ _ => KF9 I I') pul_kk clF9 gf_none stg_F9 hd2 kvS_none HRf_none ⟨fun _ _ => ⟨rfl, rfl⟩, fun _ _ => rfl⟩ h1
  exact AM_m d _ _ _ _ _ _ _ _ (fun x y I' J' R' q => q.2 q.1) h2
end PT15x0
section PT15x1
/-! printed by grpL.py: the latest life on both sides: what keeps it -/
noncomputable def badL9 (a : Nat) : Bool := Nat.beq a 112
noncomputable def okgL9 (ci k : Nat) : Bool := !(Nat.beq ci 12 && Nat.beq k 39)
noncomputable def okpL9 (ci k : Nat) : Bool := !Nat.beq ci 4 && !(Nat.beq ci 12 && Nat.beq k 40)
noncomputable def KL9 (I I2 : Im) : Prop := I2 49 = I 49 ∧ I2 112 = I 112 ∧ I2 97 40 = I 97 40
theorem KL9.rf {I : Im} : KL9 I I := ⟨rfl, rfl, rfl⟩
theorem KL9.tr {I I2 I3 : Im} (h : KL9 I I2) (h2 : KL9 I2 I3) : KL9 I I3 := ⟨h2.1.trans h.1, h2.2.1.trans h.2.1, h2.2.2.trans h.2.2⟩
theorem badL9_ne {a : Nat} (h : badL9 a = false) : ¬ 112 = a := fun q => by subst q; exact absurd h (by decide)
theorem badL9_o {a ci : Nat} (h : (shl.getD (a - 1) (999, 0)).1 = ci) (hc : ci < 100) : badL9 a = false := by
  cases q : badL9 a with
  | false => rfl
  | true =>
    have e : a = 112 := Nat.eq_of_beq_eq_true q
    subst e
    have z : (shl.getD (112 - 1) (999, 0)).1 = 100 := by decide +kernel
    omega
theorem shL49 : (shl.getD (49 - 1) (999, 0)).1 = 4 := by decide +kernel
theorem shL97 : (shl.getD (97 - 1) (999, 0)).1 = 12 := by decide +kernel
theorem shL112 : (shl.getD (112 - 1) (999, 0)).1 = 100 := by decide +kernel
theorem okpL9_f {ci k : Nat} (h : okpL9 ci k = true) : ¬ ci = 4 ∧ (ci = 12 → ¬ 40 = k) := by
  refine ⟨fun e => ?_, fun e q => ?_⟩
  · subst e
    unfold okpL9 at h
    rw [nb_refl, Bool.not_true, Bool.false_and] at h
    exact absurd h (by decide)
  · subst e; subst q; exact absurd h (by decide)
theorem stg_L9 {I0 : Im} : StG badL9 okpL9 (fun I _ _ => KL9 I0 I) := by
  refine ⟨fun I J R o ci k x h1 h2 h3 hF => ?_, fun I J R o ci k x h1 h2 h3 hF => hF, fun I J R a t j x h1 h2 hF => ?_, fun I J R a t j x h1 h2 hF => hF, fun I J R a0 a1 t p q m h1 h2 hF => ?_, fun I J R a0 a1 t p q m h1 h2 hF => hF, fun I J R o ci k x h1 h2 hF => hF⟩
  · have f := okpL9_f h3
    have s49 := shL49
    have s97 := shL97
    have s112 := shL112
    refine ⟨(uI_ne (fun q => by subst q; omega)).trans hF.1, (uI_ne (fun q => by subst q; omega)).trans hF.2.1, ?_⟩
    by_cases ho : 97 = o
    · subst ho
      exact (rd_k (f.2 (h1.symm.trans s97))).trans hF.2.2
    · rw [uI_ne ho]; exact hF.2.2
  · have s49 := shL49
    have s97 := shL97
    refine ⟨(uI_ne (fun q => by subst q; omega)).trans hF.1, (uI_ne (badL9_ne h2)).trans hF.2.1, ?_⟩
    rw [uI_ne (fun q => by subst q; omega)]; exact hF.2.2
  · have s49 := shL49
    have s97 := shL97
    have e49 : cI I a0 a1 p q m 49 = I 49 := cI_ne (fun z => by subst z; omega)
    have e97 : cI I a0 a1 p q m 97 = I 97 := cI_ne (fun z => by subst z; omega)
    have e112 : cI I a0 a1 p q m 112 = I 112 := cI_ne (badL9_ne h2)
    exact ⟨e49.trans hF.1, e112.trans hF.2.1, (congrFun e97 40).trans hF.2.2⟩
set_option maxRecDepth 100000 in
theorem gf_L9 : ∀ o ci k, 0 < o → (shl.getD (o - 1) (999, 0)).1 = ci → fkd ci k = 4 → okgL9 ci k = true → badL9 (o + fof ci k) = false := by
  have each : ∀ q ∈ fk4L, okgL9 (shl.getD (q.1 - 1) (999, 0)).1 q.2 = true → badL9 (q.1 + fof (shl.getD (q.1 - 1) (999, 0)).1 q.2) = false := by decide +kernel
  intro o ci k h0 h1 h2 h3
  obtain ⟨i1, i2⟩ := fkd_in h2 (by decide)
  subst h1
  exact each (o, k) (List.contains_iff_mem.mp (fk4_all o (shl_in rfl (by omega)) h0 k i2 h2)) h3
theorem HRf_L9 {R : Rm} (h : RI R) : HRf badL9 R := by
  constructor
  · intro o ci k h0 h1 h2
    obtain ⟨i1, i2⟩ := fkd_in h2 (by decide)
    subst h1
    obtain ⟨rfl, hk⟩ := okH9_s (okH9_all o (shl_in rfl (by omega)) h0 k i2 h2)
    rcases hk with rfl | rfl | rfl | rfl
    · exact badL9_o (isO_spec h.now.1).2.2 (by decide)
    · exact badL9_o (isO_spec h.spare.1).2.2 (by decide)
    · exact badL9_o (isO_spec h.plan.1).2.2 (by decide)
    · exact badL9_o (isO_spec h.splan.1).2.2 (by decide)
  · intro a t j h1 h2
    have ha : a < 113 := by
      rcases Nat.lt_or_ge a 113 with q | q
      · exact q
      · unfold aL at h2
        rw [sh_out (by omega)] at h2
        exact absurd h2 (Nat.not_lt_zero _)
    have lt := shl9_lt a ha
    rcases arr9_all a ha (by omega) lt with ⟨rfl, e⟩ | ⟨rfl, e⟩ | ⟨rfl, e⟩
    · exact badL9_o (isO_spec (h.tray j (by omega)).2).2.2 (by decide)
    · exact badL9_o (isO_spec (h.kb j (by omega)).2).2.2 (by decide)
    · exact badL9_o (isO_spec (h.kd j (by omega)).2).2.2 (by decide)
end PT15x1
