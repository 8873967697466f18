/-! printed by grpL.py: the latest life on both sides: what keeps it -/
noncomputable def badL9 (a : Nat) : Bool := Nat.beq a 112
noncomputable def okgL9 (ci k : Nat) : Bool := !(Nat.beq ci 12 && Nat.beq k 39)
noncomputable def okpL9 (ci k : Nat) : Bool := !Nat.beq ci 4 && !(Nat.beq ci 12 && Nat.beq k 40)
noncomputable def KL9 (I I2 : Im) : Prop := I2 49 = I 49 ∧ I2 112 = I 112 ∧ I2 97 40 = I 97 40
theorem KL9.rf {I : Im} : KL9 I I := ⟨rfl, rfl, rfl⟩
theorem KL9.tr {I I2 I3 : Im} (h : KL9 I I2) (h2 : KL9 I2 I3) : KL9 I I3 := ⟨h2.1.trans h.1, h2.2.1.trans h.2.1, h2.2.2.trans h.2.2⟩
theorem badL9_ne {a : Nat} (h : badL9 a = false) : ¬ 112 = a := fun q => by subst q; exact absurd h (by decide)
theorem badL9_o {a ci : Nat} (h : (shl.getD (a - 1) (999, 0)).1 = ci) (hc : ci < 100) : badL9 a = false := by
  cases q : badL9 a with
  | false => rfl
  | true =>
    have e : a = 112 := Nat.eq_of_beq_eq_true q
    subst e
    have z : (shl.getD (112 - 1) (999, 0)).1 = 100 := by decide +kernel
    omega
theorem shL49 : (shl.getD (49 - 1) (999, 0)).1 = 4 := by decide +kernel
theorem shL97 : (shl.getD (97 - 1) (999, 0)).1 = 12 := by decide +kernel
theorem shL112 : (shl.getD (112 - 1) (999, 0)).1 = 100 := by decide +kernel
theorem okpL9_f {ci k : Nat} (h : okpL9 ci k = true) : ¬ ci = 4 ∧ (ci = 12 → ¬ 40 = k) := by
  refine ⟨fun e => ?_, fun e q => ?_⟩
  · subst e
    unfold okpL9 at h
    rw [nb_refl, Bool.not_true, Bool.false_and] at h
    exact absurd h (by decide)
  · subst e; subst q; exact absurd h (by decide)
theorem stg_L9 {I0 : Im} : StG badL9 okpL9 (fun I _ _ => KL9 I0 I) := by
  refine ⟨fun I J R o ci k x h1 h2 h3 hF => ?_, fun I J R o ci k x h1 h2 h3 hF => hF, fun I J R a t j x h1 h2 hF => ?_, fun I J R a t j x h1 h2 hF => hF, fun I J R a0 a1 t p q m h1 h2 hF => ?_, fun I J R a0 a1 t p q m h1 h2 hF => hF, fun I J R o ci k x h1 h2 hF => hF⟩
  · have f := okpL9_f h3
    have s49 := shL49
    have s97 := shL97
    have s112 := shL112
    refine ⟨(uI_ne (fun q => by subst q; omega)).trans hF.1, (uI_ne (fun q => by subst q; omega)).trans hF.2.1, ?_⟩
    by_cases ho : 97 = o
    · subst ho
      exact (rd_k (f.2 (h1.symm.trans s97))).trans hF.2.2
    · rw [uI_ne ho]; exact hF.2.2
  · have s49 := shL49
    have s97 := shL97
    refine ⟨(uI_ne (fun q => by subst q; omega)).trans hF.1, (uI_ne (badL9_ne h2)).trans hF.2.1, ?_⟩
    rw [uI_ne (fun q => by subst q; omega)]; exact hF.2.2
  · have s49 := shL49
    have s97 := shL97
    have e49 : cI I a0 a1 p q m 49 = I 49 := cI_ne (fun z => by subst z; omega)
    have e97 : cI I a0 a1 p q m 97 = I 97 := cI_ne (fun z => by subst z; omega)
    have e112 : cI I a0 a1 p q m 112 = I 112 := cI_ne (badL9_ne h2)
    exact ⟨e49.trans hF.1, e112.trans hF.2.1, (congrFun e97 40).trans hF.2.2⟩
set_option maxRecDepth 100000 in
theorem gf_L9 : ∀ o ci k, 0 < o → (shl.getD (o - 1) (999, 0)).1 = ci → fkd ci k = 4 → okgL9 ci k = true → badL9 (o + fof ci k) = false := by
  have each : ∀ q ∈ fk4L, okgL9 (shl.getD (q.1 - 1) (999, 0)).1 q.2 = true → badL9 (q.1 + fof (shl.getD (q.1 - 1) (999, 0)).1 q.2) = false := by decide +kernel
  intro o ci k h0 h1 h2 h3
  obtain ⟨i1, i2⟩ := fkd_in h2 (by decide)
  subst h1
  exact each (o, k) (List.contains_iff_mem.mp (fk4_all o (shl_in rfl (by omega)) h0 k i2 h2)) h3
theorem HRf_L9 {R : Rm} (h : RI R) : HRf badL9 R := by
  constructor
  · intro o ci k h0 h1 h2
    obtain ⟨i1, i2⟩ := fkd_in h2 (by decide)
    subst h1
    obtain ⟨rfl, hk⟩ := okH9_s (okH9_all o (shl_in rfl (by omega)) h0 k i2 h2)
    rcases hk with rfl | rfl | rfl | rfl
    · exact badL9_o (isO_spec h.now.1).2.2 (by decide)
    · exact badL9_o (isO_spec h.spare.1).2.2 (by decide)
    · exact badL9_o (isO_spec h.plan.1).2.2 (by decide)
    · exact badL9_o (isO_spec h.splan.1).2.2 (by decide)
  · intro a t j h1 h2
    have ha : a < 113 := by
      rcases Nat.lt_or_ge a 113 with q | q
      · exact q
      · have hl : shl.length = 112 := by decide +kernel
        unfold aL at h2
        rw [List.getD_eq_getElem?_getD, List.getElem?_eq_none (by omega)] at h2
        exact absurd h2 (Nat.not_lt_zero _)
    have lt := shl9_lt a ha
    rcases arr9_all a ha (by omega) lt with ⟨rfl, e⟩ | ⟨rfl, e⟩ | ⟨rfl, e⟩
    · exact badL9_o (isO_spec (h.tray j (by omega)).2).2.2 (by decide)
    · exact badL9_o (isO_spec (h.kb j (by omega)).2).2.2 (by decide)
    · exact badL9_o (isO_spec (h.kd j (by omega)).2).2.2 (by decide)
noncomputable def okasL9 : List Value → Bool
  | [] => true
  | .ref a :: r => !badL9 a && okasL9 r
  | _ :: r => okasL9 r
theorem okasL9_kv : ∀ as : List Value, okasL9 as = true → kvS badL9 as := by
  intro as
  induction as with
  | nil => intro _; exact kvS.n
  | cons v r ih =>
    intro h
    cases v with
    | ref a =>
      unfold okasL9 at h
      rw [Bool.and_eq_true, Bool.not_eq_true'] at h
      exact kvS.c (kvO.rf h.1) (ih h.2)
    | _ => exact kvS.c (fun _ q => by cases q) (ih h)
/-- all that comes to those and is not pure: X11_live, X11_mean, X12_live, X12_lived, X4_act, X4_addLoaves, X4_behindStep, X4_cutUp, X4_doAny, X4_draw, X4_handOver, X4_run, X4_splitUp -/
noncomputable def dtyL9 : List Nat := [0, 27, 32, 40, 41, 43, 46, 47, 48, 49, 50, 51, 52, 53, 58, 74, 85, 88, 94, 99, 144, 146, 172, 313, 314]
set_option maxRecDepth 100000 in
theorem clL9 : ClT pul dtyL9 okgL9 okpL9 := ClT.ev (by decide +kernel)
theorem kpL9 {d mi n : Nat} {as : List Value} {I : Im} {J : Jm} {R : Rm} {Q : Qt} (hd : dtyL9.elem mi = false) (hR : RI R) (ha : okasL9 as = true) (h : AM d mi n as I J R (fun x y I' J' R' => KL9 I I' → Q x y I' J' R')) : AM d mi n as I J R Q :=
  AM_w (F := fun I' _ _ => KL9 I I') pul_kk clL9 gf_L9 stg_L9 hd (okasL9_kv as ha) (HRf_L9 hR) KL9.rf h
