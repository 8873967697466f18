section PT7x5
theorem badnm_o {a ci : Nat} (h : (shl.getD (a - 1) (999, 0)).1 = ci) (hc : ci < 100) : badnm a = false := by
  refine badnm_i ⟨fun q => ?_, fun q => ?_, fun q => ?_, fun q => ?_, fun q => ?_, fun q => ?_⟩ <;> subst q
  · have : (shl.getD (11 - 1) (999, 0)).1 = 101 := rfl
    omega
  · have : (shl.getD (17 - 1) (999, 0)).1 = 101 := rfl
    omega
  · have : (shl.getD (63 - 1) (999, 0)).1 = 101 := rfl
    omega
  · have : (shl.getD (75 - 1) (999, 0)).1 = 101 := rfl
    omega
  · have : (shl.getD (87 - 1) (999, 0)).1 = 101 := rfl
    omega
  · have : (shl.getD (104 - 1) (999, 0)).1 = 101 := rfl
    omega
theorem stg_nm {I0 : Im} {J0 : Jm} : StG badnm (fun _ _ => true) (fun I J _ => Knm I0 J0 I J) := by
  refine ⟨fun I J R o ci k x h1 h2 h3 hF => ?_, fun I J R o ci k x h1 h2 h3 hF => ?_, fun I J R a t j x h1 h2 hF => ?_, fun I J R a t j x h1 h2 hF => ?_, fun I J R a0 a1 t p q m h1 h2 hF => ?_, fun I J R a0 a1 t p q m h1 h2 hF => ?_, fun I J R o ci k x h1 h2 hF => hF⟩
  · exact hF
  · have hb := badnm_f (badnm_o h1 h2)
    exact ⟨(uJ_ne (fun q => hb.1 q.symm)).trans hF.1, (uJ_ne (fun q => hb.2.1 q.symm)).trans hF.2.1, (uJ_ne (fun q => hb.2.2.1 q.symm)).trans hF.2.2.1, (uJ_ne (fun q => hb.2.2.2.1 q.symm)).trans hF.2.2.2.1, (uJ_ne (fun q => hb.2.2.2.2.1 q.symm)).trans hF.2.2.2.2.1, (uJ_ne (fun q => hb.2.2.2.2.2 q.symm)).trans hF.2.2.2.2.2⟩
  · exact hF
  · have hb := badnm_f h2
    exact ⟨(uJ_ne (fun q => hb.1 q.symm)).trans hF.1, (uJ_ne (fun q => hb.2.1 q.symm)).trans hF.2.1, (uJ_ne (fun q => hb.2.2.1 q.symm)).trans hF.2.2.1, (uJ_ne (fun q => hb.2.2.2.1 q.symm)).trans hF.2.2.2.1, (uJ_ne (fun q => hb.2.2.2.2.1 q.symm)).trans hF.2.2.2.2.1, (uJ_ne (fun q => hb.2.2.2.2.2 q.symm)).trans hF.2.2.2.2.2⟩
  · exact hF
  · have hb := badnm_f h2
    exact ⟨(if_neg (fun q => hb.1 q.symm)).trans hF.1, (if_neg (fun q => hb.2.1 q.symm)).trans hF.2.1, (if_neg (fun q => hb.2.2.1 q.symm)).trans hF.2.2.1, (if_neg (fun q => hb.2.2.2.1 q.symm)).trans hF.2.2.2.1, (if_neg (fun q => hb.2.2.2.2.1 q.symm)).trans hF.2.2.2.2.1, (if_neg (fun q => hb.2.2.2.2.2 q.symm)).trans hF.2.2.2.2.2⟩
set_option maxRecDepth 100000 in
theorem gf_nm : ∀ o ci k, 0 < o → (shl.getD (o - 1) (999, 0)).1 = ci → fkd ci k = 4 → okgnm ci k = true → badnm (o + fof ci k) = false := by
  have each : ∀ q ∈ fk4L, okgnm (shl.getD (q.1 - 1) (999, 0)).1 q.2 = true → badnm (q.1 + fof (shl.getD (q.1 - 1) (999, 0)).1 q.2) = false := by decide +kernel
  have all : ∀ o, o < 113 → 0 < o → ∀ k, k < 60 → fkd (shl.getD (o - 1) (999, 0)).1 k = 4 → okgnm (shl.getD (o - 1) (999, 0)).1 k = true → badnm (o + fof (shl.getD (o - 1) (999, 0)).1 k) = false := fun o h1 h0 k h2 h3 h4 => each (o, k) (List.contains_iff_mem.mp (fk4_all o h1 h0 k h2 h3)) h4
  intro o ci k h0 h1 h2 h3
  obtain ⟨i1, i2⟩ := fkd_in h2 (by decide)
  subst h1
  exact all o (shl_in rfl (by omega)) h0 k i2 h2 h3
set_option maxRecDepth 100000 in
theorem HRf_nm {R : Rm} (h : RI R) : HRf badnm R := by
  constructor
  · intro o ci k h0 h1 h2
    have all : ∀ o, o < 113 → 0 < o → ∀ k, k < 60 → fkd (shl.getD (o - 1) (999, 0)).1 k = 3 → okH9 o k = true := okH9_all
    obtain ⟨i1, i2⟩ := fkd_in h2 (by decide)
    subst h1
    obtain ⟨rfl, hk⟩ := okH9_s (all o (shl_in rfl (by omega)) h0 k i2 h2)
    rcases hk with rfl | rfl | rfl | rfl
    · exact badnm_o (isO_spec h.now.1).2.2 (by decide)
    · exact badnm_o (isO_spec h.spare.1).2.2 (by decide)
    · exact badnm_o (isO_spec h.plan.1).2.2 (by decide)
    · exact badnm_o (isO_spec h.splan.1).2.2 (by decide)
  · intro a t j h1 h2
    have ha : a < 113 := by
      rcases Nat.lt_or_ge a 113 with q | q
      · exact q
      · unfold aL at h2
        rw [sh_out (by omega)] at h2
        exact absurd h2 (Nat.not_lt_zero _)
    have all : ∀ a, a < 113 → 103 ≤ (shl.getD (a - 1) (999, 0)).1 → (shl.getD (a - 1) (999, 0)).1 < 999 → (a = 2 ∧ aL a = 4) ∨ (a = 33 ∧ aL a = 3) ∨ (a = 34 ∧ aL a = 3) := arr9_all
    have lt : (shl.getD (a - 1) (999, 0)).1 < 999 := by
      have h3 : ∀ a, a < 113 → (shl.getD (a - 1) (999, 0)).1 < 999 := shl9_lt
      exact h3 a ha
    rcases all a ha (by omega) lt with ⟨rfl, e⟩ | ⟨rfl, e⟩ | ⟨rfl, e⟩
    · exact badnm_o (isO_spec (h.tray j (by omega)).2).2.2 (by decide)
    · exact badnm_o (isO_spec (h.kb j (by omega)).2).2.2 (by decide)
    · exact badnm_o (isO_spec (h.kd j (by omega)).2).2.2 (by decide)
noncomputable def okasnm : List Value → Bool
  | [] => true
  | .ref a :: r => !badnm a && okasnm r
  | _ :: r => okasnm r
theorem okasnm_kv : ∀ as : List Value, okasnm as = true → kvS badnm as := by
  intro as
  induction as with
  | nil => intro _; exact kvS.n
  | cons v r ih =>
    intro h
    cases v with
    | ref a =>
      unfold okasnm at h
      rw [Bool.and_eq_true, Bool.not_eq_true'] at h
      exact kvS.c (kvO.rf h.1) (ih h.2)
    | _ => exact kvS.c (fun _ q => by cases q) (ih h)
/-- all that comes to the names and is not pure -/
noncomputable def dtynm : List Nat := [0, 2, 4, 21, 24, 27, 32, 40, 53, 58, 74, 85, 88, 94, 99, 108, 124, 146, 147, 148, 172, 231, 232, 233, 268, 316, 317, 318]
set_option maxRecDepth 100000 in
theorem clnm : ClT pul dtynm okgnm (fun _ _ => true) := ClT.ef (by decide +kernel)
theorem kpnm {d mi n : Nat} {as : List Value} {I : Im} {J : Jm} {R : Rm} {Q : Qt} (hd : dtynm.elem mi = false) (hR : RI R) (ha : okasnm as = true) (h : AM d mi n as I J R (fun x y I' J' R' => Knm I J I' J' → Q x y I' J' R')) : AM d mi n as I J R Q :=
  AM_w (F := fun I' J' _ => Knm I J I' J') pul_kk clnm gf_nm stg_nm hd (okasnm_kv as ha) (HRf_nm hR) Knm.rf h
noncomputable def BKL : List Nat := [9, 15, 61, 73, 85]
theorem BKL_sh : ∀ c, c ∈ BKL → (shl.getD (c - 1) (999, 0)).1 = 0 := by decide
noncomputable def okpA (ci k : Nat) : Bool := !(Nat.beq ci 0 && (Nat.beq k 4 || Nat.beq k 2)) && !(Nat.beq ci 12 && Nat.beq k 23)
theorem okpA_f {ci k : Nat} (h : okpA ci k = true) : (ci = 0 → ¬ 4 = k ∧ ¬ 2 = k) ∧ (ci = 12 → ¬ 23 = k) := by
  refine ⟨fun e => ⟨fun q => ?_, fun q => ?_⟩, fun e q => ?_⟩ <;> subst e <;> subst q <;> exact absurd h (by decide)
noncomputable def KA (I I2 : Im) : Prop := (∀ c, c ∈ BKL → I2 c 4 = I c 4 ∧ I2 c 2 = I c 2) ∧ I2 97 23 = I 97 23
theorem KA.rf {I : Im} : KA I I := ⟨fun _ _ => ⟨rfl, rfl⟩, rfl⟩
theorem KA.tr {I I2 I3 : Im} (h : KA I I2) (h2 : KA I2 I3) : KA I I3 := ⟨fun c hc => ⟨(h2.1 c hc).1.trans (h.1 c hc).1, (h2.1 c hc).2.trans (h.1 c hc).2⟩, h2.2.trans h.2⟩
theorem KA.ne {I I2 I3 : Im} (h : KA I I2) (e : ∀ c, c ∈ BKL → I3 c = I2 c) (e2 : I3 97 = I2 97) : KA I I3 := ⟨fun c hc => by rw [e c hc]; exact h.1 c hc, by rw [e2]; exact h.2⟩
theorem stg_A {I0 : Im} : StG (fun _ => false) okpA (fun I _ _ => KA I0 I) := by
  have s97 : (shl.getD (97 - 1) (999, 0)).1 = 12 := rfl
  refine ⟨fun I J R o ci k x h1 h2 h3 hF => ⟨fun c hc => ?_, ?_⟩, fun I J R o ci k x h1 h2 h3 hF => hF, fun I J R a t j x h1 h2 hF => ?_, fun I J R a t j x h1 h2 hF => hF, fun I J R a0 a1 t p q m h1 h2 hF => ?_, fun I J R a0 a1 t p q m h1 h2 hF => hF, fun I J R o ci k x h1 h2 hF => hF⟩
  · by_cases ho : c = o
    · subst ho
      have e := (okpA_f h3).1 (h1.symm.trans (BKL_sh c hc))
      exact ⟨(rd_k e.1).trans (hF.1 c hc).1, (rd_k e.2).trans (hF.1 c hc).2⟩
    · rw [uI_ne ho]; exact hF.1 c hc
  · by_cases ho : 97 = o
    · subst ho
      exact (rd_k ((okpA_f h3).2 (h1.symm.trans s97))).trans hF.2
    · rw [uI_ne ho]; exact hF.2
  · refine KA.ne hF (fun c hc => uI_ne (fun q => ?_)) (uI_ne (fun q => ?_))
    · have := BKL_sh c hc; subst q; omega
    · subst q; omega
  · refine KA.ne hF (fun c hc => if_neg (fun q => ?_)) (if_neg (fun q => ?_))
    · have := BKL_sh c hc; subst q; omega
    · subst q; omega
/-- all that may write those: X0_addMan, X0_copyFrom, X0_forget, X11_back, X11_bakery, X11_come, X11_learn, X11_mark, X11_mean, X12_back, X12_mark, X1_readInto, X1_readKnown, X1_readMan -/
noncomputable def dtyA : List Nat := [0, 1, 2, 4, 21, 24, 25, 27, 32, 40, 53, 58, 74, 85, 88, 94, 99, 108, 124, 125, 146, 147, 148, 172, 317, 318]
set_option maxRecDepth 100000 in
theorem clMn8 : ClT pul dtyA (fun _ _ => true) okpA := ClT.ef (by decide +kernel)
theorem kpA {d mi n : Nat} {as : List Value} {I : Im} {J : Jm} {R : Rm} {Q : Qt} (hd : dtyA.elem mi = false) (h : AM d mi n as I J R (fun x y I' J' R' => KA I I' → Q x y I' J' R')) : AM d mi n as I J R Q :=
  AM_w (F := fun I' _ _ => KA I I') pul_kk clMn8 gf_none stg_A hd kvS_none HRf_none KA.rf h
end PT7x5
