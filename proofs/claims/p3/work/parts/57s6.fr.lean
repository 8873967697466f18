/-! printed by grpF.py: the fraction told: what keeps it, on each side -/
noncomputable def okpFc (ci k : Nat) : Bool := !(Nat.beq ci 11 && (Nat.beq k 1 || Nat.beq k 2))
theorem okpFc_f {ci k : Nat} (h : okpFc ci k = true) : ci = 11 → ¬ 1 = k ∧ ¬ 2 = k := by
  intro e
  subst e
  exact ⟨fun q => by subst q; exact absurd h (by decide), fun q => by subst q; exact absurd h (by decide)⟩
theorem shFc : (shl.getD (1 - 1) (999, 0)).1 = 11 := by decide +kernel
theorem stg_Fc {J0 : Jm} : StG (fun _ => false) okpFc (fun _ J _ => KFc J0 J) := by
  refine ⟨fun I J R o ci k x h1 h2 h3 hF => hF, fun I J R o ci k x h1 h2 h3 hF => ?_, fun I J R a t j x h1 h2 hF => hF, fun I J R a t j x h1 h2 hF => ?_, fun I J R a0 a1 t p q m h1 h2 hF => hF, fun I J R a0 a1 t p q m h1 h2 hF => ?_, fun I J R o ci k x h1 h2 hF => hF⟩
  · have s := shFc
    by_cases ho : 1 = o
    · subst ho
      have f := okpFc_f h3 (h1.symm.trans s)
      exact ⟨(jd_k f.1).trans hF.1, (jd_k f.2).trans hF.2⟩
    · have e : uJ J o k x 1 = J 1 := uJ_ne ho
      exact ⟨(congrFun e 1).trans hF.1, (congrFun e 2).trans hF.2⟩
  · have s := shFc
    have e : uJ J a j x 1 = J 1 := uJ_ne (fun q => by subst q; omega)
    exact ⟨(congrFun e 1).trans hF.1, (congrFun e 2).trans hF.2⟩
  · have s := shFc
    have e : cJ J a0 a1 p q m 1 = J 1 := if_neg (fun z => by subst z; omega)
    exact ⟨(congrFun e 1).trans hF.1, (congrFun e 2).trans hF.2⟩
/-- all that writes those -/
noncomputable def dtyFc : List Nat := [0, 27, 32, 40, 53, 58, 74, 85, 88, 94, 99, 114, 115, 116, 130, 142, 143, 146, 155, 172]
set_option maxRecDepth 100000 in
theorem clFc : ClT pul dtyFc (fun _ _ => true) okpFc := ClT.ef (by decide +kernel)
theorem kpFc {d mi n : Nat} {as : List Value} {I : Im} {J : Jm} {R : Rm} {Q : Qt} (hd : dtyFc.elem mi = false) (h : AM d mi n as I J R (fun x y I' J' R' => KFc J J' → Q x y I' J' R')) : AM d mi n as I J R Q :=
  AM_w (F := fun _ J' _ => KFc J J') pul_kk clFc gf_none stg_Fc hd kvS_none HRf_none ⟨rfl, rfl⟩ h
noncomputable def okpFm (ci k : Nat) : Bool := !(Nat.beq ci 12 && (Nat.beq k 2 || Nat.beq k 3))
theorem okpFm_f {ci k : Nat} (h : okpFm ci k = true) : ci = 12 → ¬ 2 = k ∧ ¬ 3 = k := by
  intro e
  subst e
  exact ⟨fun q => by subst q; exact absurd h (by decide), fun q => by subst q; exact absurd h (by decide)⟩
theorem shFm : (shl.getD (97 - 1) (999, 0)).1 = 12 := by decide +kernel
theorem stg_Fm {J0 : Jm} : StG (fun _ => false) okpFm (fun _ J _ => KFm J0 J) := by
  refine ⟨fun I J R o ci k x h1 h2 h3 hF => hF, fun I J R o ci k x h1 h2 h3 hF => ?_, fun I J R a t j x h1 h2 hF => hF, fun I J R a t j x h1 h2 hF => ?_, fun I J R a0 a1 t p q m h1 h2 hF => hF, fun I J R a0 a1 t p q m h1 h2 hF => ?_, fun I J R o ci k x h1 h2 hF => hF⟩
  · have s := shFm
    by_cases ho : 97 = o
    · subst ho
      have f := okpFm_f h3 (h1.symm.trans s)
      exact ⟨(jd_k f.1).trans hF.1, (jd_k f.2).trans hF.2⟩
    · have e : uJ J o k x 97 = J 97 := uJ_ne ho
      exact ⟨(congrFun e 2).trans hF.1, (congrFun e 3).trans hF.2⟩
  · have s := shFm
    have e : uJ J a j x 97 = J 97 := uJ_ne (fun q => by subst q; omega)
    exact ⟨(congrFun e 2).trans hF.1, (congrFun e 3).trans hF.2⟩
  · have s := shFm
    have e : cJ J a0 a1 p q m 97 = J 97 := if_neg (fun z => by subst z; omega)
    exact ⟨(congrFun e 2).trans hF.1, (congrFun e 3).trans hF.2⟩
/-- all that writes those -/
noncomputable def dtyFm : List Nat := [0, 27, 32, 40, 53, 58, 74, 85, 88, 94, 99, 172, 179, 251, 252, 253, 278, 302, 303, 315]
set_option maxRecDepth 100000 in
theorem clFm : ClT pul dtyFm (fun _ _ => true) okpFm := ClT.ef (by decide +kernel)
theorem kpFm {d mi n : Nat} {as : List Value} {I : Im} {J : Jm} {R : Rm} {Q : Qt} (hd : dtyFm.elem mi = false) (h : AM d mi n as I J R (fun x y I' J' R' => KFm J J' → Q x y I' J' R')) : AM d mi n as I J R Q :=
  AM_w (F := fun _ J' _ => KFm J J') pul_kk clFm gf_none stg_Fm hd kvS_none HRf_none ⟨rfl, rfl⟩ h
section FRT
variable {I : Im} {J J1 J2 : Jm} {R : Rm} {P : Prop} {x x2 : Int32}
theorem FQ9.mean (h : FQ9 J) (H : ∃ a c, FrX 1 1 2 P a c J J1 x ∧ FrX 97 2 3 P a c J1 J2 x2) (k1 : KFm J J1) (k2 : KFc J1 J2) : FQ9 J2 := by
  obtain ⟨a, c, h1, h2⟩ := H
  exact h.two h1 k1 h2 k2
theorem cx_top9 {d : Nat} : AM (d + 1) 101 112 [.ref 1] I J R (fun _ y _ _ _ => y = J 1 1) := w_X11_top rfl
theorem mx_top9 {d : Nat} : AM (d + 1) 174 112 [.ref 97] I J R (fun _ y _ _ _ => y = J 97 2) := w_X12_top rfl
theorem FQ9.top {y y2 : Int64} (h : FQ9 J) (k : KFm J J1) (h1 : y = J 1 1) (h2 : y2 = J1 97 2) : y2 = y := h2.trans (k.1.trans (h.1.symm.trans h1.symm))
theorem FQ9.bottom {y y2 : Int64} (h : FQ9 J) (k : KFm J J1) (h1 : y = J 1 2) (h2 : y2 = J1 97 3) : y2 = y := h2.trans (k.2.trans (h.2.symm.trans h1.symm))
end FRT
