section PT7x4
theorem HB.le {f : Nat} {T : Nat → Int32} {v x z z0 : Int32} (hz : 0 ≤ z0.toInt) (h : HB f T v x z z0) : z.toInt ≤ z0.toInt := by
  rcases h with ⟨a1, a2, a3⟩ | ⟨n, a1, a2, a3, a4⟩
  · rw [a3]; exact Int.le_refl _
  · rw [a3]; exact hz
end PT7x4
section PT7x5
/-! printed by grp4.py: the men, their names, what is known: what keeps them -/
noncomputable def badnm (a : Nat) : Bool := Nat.beq a 11 || (Nat.beq a 17 || (Nat.beq a 63 || (Nat.beq a 75 || (Nat.beq a 87 || (Nat.beq a 104)))))
noncomputable def okgnm (ci k : Nat) : Bool := !(Nat.beq ci 0 && Nat.beq k 5) && !(Nat.beq ci 12 && Nat.beq k 22)
noncomputable def Knm (I : Im) (J : Jm) (I2 : Im) (J2 : Jm) : Prop := J2 11 = J 11 ∧ J2 17 = J 17 ∧ J2 63 = J 63 ∧ J2 75 = J 75 ∧ J2 87 = J 87 ∧ J2 104 = J 104
theorem Knm.rf {I : Im} {J : Jm} : Knm I J I J := ⟨rfl, rfl, rfl, rfl, rfl, rfl⟩
theorem badnm_f {a : Nat} (h : badnm a = false) : ¬ a = 11 ∧ ¬ a = 17 ∧ ¬ a = 63 ∧ ¬ a = 75 ∧ ¬ a = 87 ∧ ¬ a = 104 := by
  refine ⟨?_, ?_, ?_, ?_, ?_, ?_⟩ <;> intro q <;> subst q <;> exact absurd h (by decide)
theorem badnm_i {a : Nat} (h : ¬ a = 11 ∧ ¬ a = 17 ∧ ¬ a = 63 ∧ ¬ a = 75 ∧ ¬ a = 87 ∧ ¬ a = 104) : badnm a = false := by
  cases q : badnm a with
  | false => rfl
  | true =>
    unfold badnm at q
    rw [Bool.or_eq_true, Bool.or_eq_true, Bool.or_eq_true, Bool.or_eq_true, Bool.or_eq_true] at q
    rcases q with q | q
    · exact absurd (Nat.eq_of_beq_eq_true q) h.1
    rcases q with q | q
    · exact absurd (Nat.eq_of_beq_eq_true q) h.2.1
    rcases q with q | q
    · exact absurd (Nat.eq_of_beq_eq_true q) h.2.2.1
    rcases q with q | q
    · exact absurd (Nat.eq_of_beq_eq_true q) h.2.2.2.1
    rcases q with q | q
    · exact absurd (Nat.eq_of_beq_eq_true q) h.2.2.2.2.1
    exact absurd (Nat.eq_of_beq_eq_true q) h.2.2.2.2.2
theorem badnm_o {a ci : Nat} (h : (shl.getD (a - 1) (999, 0)).1 = ci) (hc : ci < 100) : badnm a = false := by
  refine badnm_i ⟨fun q => ?_, fun q => ?_, fun q => ?_, fun q => ?_, fun q => ?_, fun q => ?_⟩ <;> subst q
  · have : (shl.getD (11 - 1) (999, 0)).1 = 101 := rfl
    omega
  · have : (shl.getD (17 - 1) (999, 0)).1 = 101 := rfl
    omega
  · have : (shl.getD (63 - 1) (999, 0)).1 = 101 := rfl
    omega
  · have : (shl.getD (75 - 1) (999, 0)).1 = 101 := rfl
    omega
  · have : (shl.getD (87 - 1) (999, 0)).1 = 101 := rfl
    omega
  · have : (shl.getD (104 - 1) (999, 0)).1 = 101 := rfl
    omega
theorem stg_nm {I0 : Im} {J0 : Jm} : StG badnm (fun _ _ => true) (fun I J _ => Knm I0 J0 I J) := by
  refine ⟨fun I J R o ci k x h1 h2 h3 hF => ?_, fun I J R o ci k x h1 h2 h3 hF => ?_, fun I J R a t j x h1 h2 hF => ?_, fun I J R a t j x h1 h2 hF => ?_, fun I J R a0 a1 t p q m h1 h2 hF => ?_, fun I J R a0 a1 t p q m h1 h2 hF => ?_, fun I J R o ci k x h1 h2 hF => hF⟩
  · exact hF
  · have hb := badnm_f (badnm_o h1 h2)
    exact ⟨(uJ_ne (fun q => hb.1 q.symm)).trans hF.1, (uJ_ne (fun q => hb.2.1 q.symm)).trans hF.2.1, (uJ_ne (fun q => hb.2.2.1 q.symm)).trans hF.2.2.1, (uJ_ne (fun q => hb.2.2.2.1 q.symm)).trans hF.2.2.2.1, (uJ_ne (fun q => hb.2.2.2.2.1 q.symm)).trans hF.2.2.2.2.1, (uJ_ne (fun q => hb.2.2.2.2.2 q.symm)).trans hF.2.2.2.2.2⟩
  · exact hF
  · have hb := badnm_f h2
    exact ⟨(uJ_ne (fun q => hb.1 q.symm)).trans hF.1, (uJ_ne (fun q => hb.2.1 q.symm)).trans hF.2.1, (uJ_ne (fun q => hb.2.2.1 q.symm)).trans hF.2.2.1, (uJ_ne (fun q => hb.2.2.2.1 q.symm)).trans hF.2.2.2.1, (uJ_ne (fun q => hb.2.2.2.2.1 q.symm)).trans hF.2.2.2.2.1, (uJ_ne (fun q => hb.2.2.2.2.2 q.symm)).trans hF.2.2.2.2.2⟩
  · exact hF
  · have hb := badnm_f h2
    exact ⟨(if_neg (fun q => hb.1 q.symm)).trans hF.1, (if_neg (fun q => hb.2.1 q.symm)).trans hF.2.1, (if_neg (fun q => hb.2.2.1 q.symm)).trans hF.2.2.1, (if_neg (fun q => hb.2.2.2.1 q.symm)).trans hF.2.2.2.1, (if_neg (fun q => hb.2.2.2.2.1 q.symm)).trans hF.2.2.2.2.1, (if_neg (fun q => hb.2.2.2.2.2 q.symm)).trans hF.2.2.2.2.2⟩
set_option maxRecDepth 100000 in
theorem gf_nm : ∀ o ci k, 0 < o → (shl.getD (o - 1) (999, 0)).1 = ci → fkd ci k = 4 → okgnm ci k = true → badnm (o + fof ci k) = false := by
  have each : ∀ q ∈ fk4L, okgnm (shl.getD (q.1 - 1) (999, 0)).1 q.2 = true → badnm (q.1 + fof (shl.getD (q.1 - 1) (999, 0)).1 q.2) = false := by decide +kernel
  have all : ∀ o, o < 113 → 0 < o → ∀ k, k < 60 → fkd (shl.getD (o - 1) (999, 0)).1 k = 4 → okgnm (shl.getD (o - 1) (999, 0)).1 k = true → badnm (o + fof (shl.getD (o - 1) (999, 0)).1 k) = false := fun o h1 h0 k h2 h3 h4 => each (o, k) (List.contains_iff_mem.mp (fk4_all o h1 h0 k h2 h3)) h4
  intro o ci k h0 h1 h2 h3
  obtain ⟨i1, i2⟩ := fkd_in h2 (by decide)
  subst h1
  exact all o (shl_in rfl (by omega)) h0 k i2 h2 h3
set_option maxRecDepth 100000 in
theorem HRf_nm {R : Rm} (h : RI R) : HRf badnm R := by
  constructor
  · intro o ci k h0 h1 h2
    have all : ∀ o, o < 113 → 0 < o → ∀ k, k < 60 → fkd (shl.getD (o - 1) (999, 0)).1 k = 3 → okH9 o k = true := okH9_all
    obtain ⟨i1, i2⟩ := fkd_in h2 (by decide)
    subst h1
    obtain ⟨rfl, hk⟩ := okH9_s (all o (shl_in rfl (by omega)) h0 k i2 h2)
    rcases hk with rfl | rfl | rfl | rfl
    · exact badnm_o (isO_spec h.now.1).2.2 (by decide)
    · exact badnm_o (isO_spec h.spare.1).2.2 (by decide)
    · exact badnm_o (isO_spec h.plan.1).2.2 (by decide)
    · exact badnm_o (isO_spec h.splan.1).2.2 (by decide)
  · intro a t j h1 h2
    have ha : a < 113 := by
      rcases Nat.lt_or_ge a 113 with q | q
      · exact q
      · have hl : shl.length = 112 := by decide +kernel
        unfold aL at h2
        rw [List.getD_eq_getElem?_getD, List.getElem?_eq_none (by omega)] at h2
        exact absurd h2 (Nat.not_lt_zero _)
    have all : ∀ a, a < 113 → 103 ≤ (shl.getD (a - 1) (999, 0)).1 → (shl.getD (a - 1) (999, 0)).1 < 999 → (a = 2 ∧ aL a = 4) ∨ (a = 33 ∧ aL a = 3) ∨ (a = 34 ∧ aL a = 3) := arr9_all
    have lt : (shl.getD (a - 1) (999, 0)).1 < 999 := by
      have h3 : ∀ a, a < 113 → (shl.getD (a - 1) (999, 0)).1 < 999 := shl9_lt
      exact h3 a ha
    rcases all a ha (by omega) lt with ⟨rfl, e⟩ | ⟨rfl, e⟩ | ⟨rfl, e⟩
    · exact badnm_o (isO_spec (h.tray j (by omega)).2).2.2 (by decide)
    · exact badnm_o (isO_spec (h.kb j (by omega)).2).2.2 (by decide)
    · exact badnm_o (isO_spec (h.kd j (by omega)).2).2.2 (by decide)
noncomputable def okasnm : List Value → Bool
  | [] => true
  | .ref a :: r => !badnm a && okasnm r
  | _ :: r => okasnm r
theorem okasnm_kv : ∀ as : List Value, okasnm as = true → kvS badnm as := by
  intro as
  induction as with
  | nil => intro _; exact kvS.n
  | cons v r ih =>
    intro h
    cases v with
    | ref a =>
      unfold okasnm at h
      rw [Bool.and_eq_true, Bool.not_eq_true'] at h
      exact kvS.c (kvO.rf h.1) (ih h.2)
    | _ => exact kvS.c (fun _ q => by cases q) (ih h)
/-- all that comes to the names and is not pure -/
noncomputable def dtynm : List Nat := [0, 2, 4, 21, 24, 27, 32, 40, 53, 58, 74, 85, 88, 94, 99, 108, 124, 146, 147, 148, 172, 231, 232, 233, 268, 316, 317, 318]
set_option maxRecDepth 100000 in
theorem clnm : ClT pul dtynm okgnm (fun _ _ => true) := ClT.ef (by decide +kernel)
theorem kpnm {d mi n : Nat} {as : List Value} {I : Im} {J : Jm} {R : Rm} {Q : Qt} (hd : dtynm.elem mi = false) (hR : RI R) (ha : okasnm as = true) (h : AM d mi n as I J R (fun x y I' J' R' => Knm I J I' J' → Q x y I' J' R')) : AM d mi n as I J R Q :=
  AM_w (F := fun I' J' _ => Knm I J I' J') pul_kk clnm gf_nm stg_nm hd (okasnm_kv as ha) (HRf_nm hR) Knm.rf h
noncomputable def BKL : List Nat := [9, 15, 61, 73, 85]
theorem BKL_sh : ∀ c, c ∈ BKL → (shl.getD (c - 1) (999, 0)).1 = 0 := by decide
noncomputable def okpA (ci k : Nat) : Bool := !(Nat.beq ci 0 && (Nat.beq k 4 || Nat.beq k 2)) && !(Nat.beq ci 12 && Nat.beq k 23)
theorem okpA_f {ci k : Nat} (h : okpA ci k = true) : (ci = 0 → ¬ 4 = k ∧ ¬ 2 = k) ∧ (ci = 12 → ¬ 23 = k) := by
  refine ⟨fun e => ⟨fun q => ?_, fun q => ?_⟩, fun e q => ?_⟩ <;> subst e <;> subst q <;> exact absurd h (by decide)
end PT7x5
