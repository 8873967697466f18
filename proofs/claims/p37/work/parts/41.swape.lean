section PT7x2
section CB
variable {d : Nat} {I : Im} {J : Jm} {R : Rm} {Q : Qt}
end CB
end PT7x2
section PT7x3
/-! printed by grp3.py: the tapes, the words that are no names: what keeps them -/
noncomputable def bad7 (a : Nat) : Bool := Nat.beq a 4 || (Nat.beq a 5 || Nat.beq a 101)
noncomputable def okg7 (ci k : Nat) : Bool := !(Nat.beq ci 6 && (Nat.beq k 0 || Nat.beq k 2)) && !(Nat.beq ci 12 && Nat.beq k 7)
noncomputable def K7 (I : Im) (J : Jm) (I2 : Im) (J2 : Jm) : Prop := I2 4 = I 4 ∧ I2 101 = I 101 ∧ J2 5 = J 5
theorem K7.rf {I : Im} {J : Jm} : K7 I J I J := ⟨rfl, rfl, rfl⟩
theorem K7.tr {I I2 I3 : Im} {J J2 J3 : Jm} (h : K7 I J I2 J2) (h2 : K7 I2 J2 I3 J3) : K7 I J I3 J3 := ⟨h2.1.trans h.1, h2.2.1.trans h.2.1, h2.2.2.trans h.2.2⟩
theorem bad7_f {a : Nat} (h : bad7 a = false) : ¬ a = 4 ∧ ¬ a = 5 ∧ ¬ a = 101 := by
  refine ⟨?_, ?_, ?_⟩ <;> intro q <;> subst q <;> exact absurd h (by decide)
theorem bad7_i {a : Nat} (h : ¬ a = 4 ∧ ¬ a = 5 ∧ ¬ a = 101) : bad7 a = false := by
  cases q : bad7 a with
  | false => rfl
  | true =>
    unfold bad7 at q
    rw [Bool.or_eq_true, Bool.or_eq_true] at q
    rcases q with q | q | q
    · exact absurd (Nat.eq_of_beq_eq_true q) h.1
    · exact absurd (Nat.eq_of_beq_eq_true q) h.2.1
    · exact absurd (Nat.eq_of_beq_eq_true q) h.2.2
theorem bad7_o {a ci : Nat} (h : (shl.getD (a - 1) (999, 0)).1 = ci) (hc : ci < 100) : bad7 a = false := by
  refine bad7_i ⟨fun q => ?_, fun q => ?_, fun q => ?_⟩ <;> subst q
  · have : (shl.getD (4 - 1) (999, 0)).1 = 102 := rfl
    omega
  · have : (shl.getD (5 - 1) (999, 0)).1 = 101 := rfl
    omega
  · have : (shl.getD (101 - 1) (999, 0)).1 = 102 := rfl
    omega
theorem stg_7 {I0 : Im} {J0 : Jm} : StG bad7 (fun _ _ => true) (fun I J _ => K7 I0 J0 I J) := by
  refine ⟨fun I J R o ci k x h1 h2 h3 hF => ?_, fun I J R o ci k x h1 h2 h3 hF => ?_, fun I J R a t j x h1 h2 hF => ?_, fun I J R a t j x h1 h2 hF => ?_, fun I J R a0 a1 t p q m h1 h2 hF => ?_, fun I J R a0 a1 t p q m h1 h2 hF => ?_, fun I J R o ci k x h1 h2 hF => hF⟩
  · have hb := bad7_f (bad7_o h1 h2)
    exact ⟨(uI_ne (fun q => hb.1 q.symm)).trans hF.1, (uI_ne (fun q => hb.2.2 q.symm)).trans hF.2.1, hF.2.2⟩
  · have hb := bad7_f (bad7_o h1 h2)
    exact ⟨hF.1, hF.2.1, (uJ_ne (fun q => hb.2.1 q.symm)).trans hF.2.2⟩
  · have hb := bad7_f h2
    exact ⟨(uI_ne (fun q => hb.1 q.symm)).trans hF.1, (uI_ne (fun q => hb.2.2 q.symm)).trans hF.2.1, hF.2.2⟩
  · have hb := bad7_f h2
    exact ⟨hF.1, hF.2.1, (uJ_ne (fun q => hb.2.1 q.symm)).trans hF.2.2⟩
  · have hb := bad7_f h2
    exact ⟨(if_neg (fun q => hb.1 q.symm)).trans hF.1, (if_neg (fun q => hb.2.2 q.symm)).trans hF.2.1, hF.2.2⟩
  · have hb := bad7_f h2
    exact ⟨hF.1, hF.2.1, (if_neg (fun q => hb.2.1 q.symm)).trans hF.2.2⟩
set_option maxRecDepth 100000 in
theorem gf_7 : ∀ o ci k, 0 < o → (shl.getD (o - 1) (999, 0)).1 = ci → fkd ci k = 4 → okg7 ci k = true → bad7 (o + fof ci k) = false := by
  have each : ∀ q ∈ fk4L, okg7 (shl.getD (q.1 - 1) (999, 0)).1 q.2 = true → bad7 (q.1 + fof (shl.getD (q.1 - 1) (999, 0)).1 q.2) = false := by decide +kernel
  have all : ∀ o, o < 113 → 0 < o → ∀ k, k < 60 → fkd (shl.getD (o - 1) (999, 0)).1 k = 4 → okg7 (shl.getD (o - 1) (999, 0)).1 k = true → bad7 (o + fof (shl.getD (o - 1) (999, 0)).1 k) = false := fun o h1 h0 k h2 h3 h4 => each (o, k) (List.contains_iff_mem.mp (fk4_all o h1 h0 k h2 h3)) h4
  intro o ci k h0 h1 h2 h3
  obtain ⟨i1, i2⟩ := fkd_in h2 (by decide)
  subst h1
  exact all o (shl_in rfl (by omega)) h0 k i2 h2 h3
set_option maxRecDepth 100000 in
theorem HRf_7 {R : Rm} (h : RI R) : HRf bad7 R := by
  constructor
  · intro o ci k h0 h1 h2
    have all : ∀ o, o < 113 → 0 < o → ∀ k, k < 60 → fkd (shl.getD (o - 1) (999, 0)).1 k = 3 → okH9 o k = true := okH9_all
    obtain ⟨i1, i2⟩ := fkd_in h2 (by decide)
    subst h1
    obtain ⟨rfl, hk⟩ := okH9_s (all o (shl_in rfl (by omega)) h0 k i2 h2)
    rcases hk with rfl | rfl | rfl | rfl
    · exact bad7_o (isO_spec h.now.1).2.2 (by decide)
    · exact bad7_o (isO_spec h.spare.1).2.2 (by decide)
    · exact bad7_o (isO_spec h.plan.1).2.2 (by decide)
    · exact bad7_o (isO_spec h.splan.1).2.2 (by decide)
  · intro a t j h1 h2
    have ha : a < 113 := by
      rcases Nat.lt_or_ge a 113 with q | q
      · exact q
      · unfold aL at h2
        rw [sh_out (by omega)] at h2
        exact absurd h2 (Nat.not_lt_zero _)
    have all : ∀ a, a < 113 → 103 ≤ (shl.getD (a - 1) (999, 0)).1 → (shl.getD (a - 1) (999, 0)).1 < 999 → (a = 2 ∧ aL a = 4) ∨ (a = 33 ∧ aL a = 3) ∨ (a = 34 ∧ aL a = 3) := arr9_all
    have lt : (shl.getD (a - 1) (999, 0)).1 < 999 := by
      have h3 : ∀ a, a < 113 → (shl.getD (a - 1) (999, 0)).1 < 999 := shl9_lt
      exact h3 a ha
    rcases all a ha (by omega) lt with ⟨rfl, e⟩ | ⟨rfl, e⟩ | ⟨rfl, e⟩
    · exact bad7_o (isO_spec (h.tray j (by omega)).2).2.2 (by decide)
    · exact bad7_o (isO_spec (h.kb j (by omega)).2).2.2 (by decide)
    · exact bad7_o (isO_spec (h.kd j (by omega)).2).2.2 (by decide)
noncomputable def okas7 : List Value → Bool
  | [] => true
  | .ref a :: r => !bad7 a && okas7 r
  | _ :: r => okas7 r
theorem okas7_kv : ∀ as : List Value, okas7 as = true → kvS bad7 as := by
  intro as
  induction as with
  | nil => intro _; exact kvS.n
  | cons v r ih =>
    intro h
    cases v with
    | ref a =>
      unfold okas7 at h
      rw [Bool.and_eq_true, Bool.not_eq_true'] at h
      exact kvS.c (kvO.rf h.1) (ih h.2)
    | _ => exact kvS.c (fun _ q => by cases q) (ih h)
/-- all that reads or writes those rows and is not pure: X11_bakery, X11_days, X11_feed, X12_feed, X12_lay, X1_readInto, X1_readKnown, X1_readMan, X1_readOdds, X1_readStore, X1_takeSlices, X3_readAct, X3_readCut, X3_readEnd, X3_readInto, X3_readStep, X3_readTest, X3_takeMan, X6_advance, X6_append, X6_open, X6_readNumber, X6_readWord, X6_takeAny, X6_takeCompares, X6_takeName, X6_takeNumber, X6_takeSemicolon, X6_takeWord -/
noncomputable def dty7 : List Nat := [0, 21, 22, 23, 24, 25, 26, 27, 32, 33, 34, 35, 36, 37, 38, 39, 40, 53, 58, 60, 61, 62, 63, 64, 68, 69, 70, 71, 72, 73, 74, 85, 88, 94, 99, 107, 108, 109, 172, 220, 221]
set_option maxRecDepth 100000 in
theorem cl7 : ClT pul dty7 okg7 (fun _ _ => true) := ClT.ef (by decide +kernel)
theorem kp7 {d mi n : Nat} {as : List Value} {I : Im} {J : Jm} {R : Rm} {Q : Qt} (hd : dty7.elem mi = false) (hR : RI R) (ha : okas7 as = true) (h : AM d mi n as I J R (fun x y I' J' R' => K7 I J I' J' → Q x y I' J' R')) : AM d mi n as I J R Q :=
  AM_w (F := fun I' J' _ => K7 I J I' J') pul_kk cl7 gf_7 stg_7 hd (okas7_kv as ha) (HRf_7 hR) K7.rf h
/-- no row of bytes, none of longs is written by these -/
noncomputable def nbl : List Nat := [1, 3, 5, 6, 7, 8, 9, 10, 11, 12, 13, 14, 15, 16, 17, 18, 19, 20, 22, 23, 25, 26, 28, 29, 30, 31, 33, 34, 35, 36, 37, 38, 39, 41, 42, 43, 44, 45, 46, 47, 48, 49, 50, 51, 52, 54, 55, 56, 57, 59, 61, 62, 63, 64, 65, 66, 67, 68, 69, 70, 71, 72, 73, 75, 76, 77, 78, 79, 80, 81, 82, 83, 84, 86, 87, 92, 93, 95, 97, 100, 101, 102, 105, 109, 110, 111, 112, 113, 114, 115, 116, 118, 119, 120, 121, 122, 123, 125, 126, 127, 128, 129, 130, 131, 132, 133, 134, 135, 136, 137, 138, 139, 143, 144, 145, 149, 150, 151, 152, 153, 154, 155, 156, 157, 158, 159, 160, 161, 162, 163, 164, 165, 166, 167, 168, 169, 170, 171, 173, 174, 175, 176, 177, 178, 179, 180, 182, 183, 185, 187, 188, 189, 190, 191, 192, 193, 194, 195, 196, 197, 198, 199, 200, 201, 202, 203, 204, 205, 206, 207, 208, 209, 210, 211, 212, 213, 214, 215, 216, 217, 218, 219, 222, 223, 224, 225, 226, 227, 228, 229, 230, 234, 235, 236, 237, 238, 239, 240, 241, 242, 243, 244, 245, 246, 247, 248, 249, 250, 251, 252, 253, 255, 256, 257, 258, 259, 260, 261, 262, 263, 264, 265, 266, 267, 269, 270, 271, 272, 273, 274, 275, 276, 277, 278, 279, 280, 281, 282, 283, 284, 285, 286, 287, 288, 289, 290, 291, 292, 293, 294, 295, 296, 297, 298, 299, 300, 301, 302, 304, 305, 306, 307, 308, 309, 310, 311, 312, 313, 314, 315, 319, 321]
set_option maxRecDepth 100000 in
theorem nbl_t : NbT nbl := NbT.of (by decide +kernel)
theorem kt7 {d mi n : Nat} {as : List Value} {I : Im} {J : Jm} {R : Rm} {Q : Qt} (hd : nbl.elem mi = true) (h : AM d mi n as I J R (fun x y I' J' R' => K7 I J I' J' → Q x y I' J' R')) : AM d mi n as I J R Q :=
  AM_m d _ _ _ _ _ _ _ _ (fun x y I' J' R' q => q.2 ⟨q.1.1 4 rfl, q.1.1 101 rfl, q.1.2 5 rfl⟩) (AM_t nbl_t d mi n as I J R _ hd h)
/-- what is shown of a run by another way may be taken along -/
theorem kx {d mi n : Nat} {as : List Value} {I : Im} {J : Jm} {R : Rm} {Q X : Qt} (hx : AM d mi n as I J R X) (h : AM d mi n as I J R (fun x y I' J' R' => X x y I' J' R' → Q x y I' J' R')) : AM d mi n as I J R Q :=
  AM_2 d _ _ _ _ _ _ _ _ _ (fun _ _ _ _ _ a b => b a) hx h
end PT7x3
