section PT4x0
/-! the relation of the trays -/
noncomputable def RT (I : Im) : Prop := ∀ t, t < 4 → I (53 + 2 * t) 0 = I 98 t ∧ I (53 + 2 * t) 1 = I 99 t
theorem TC_in : ∀ t, t < 4 → 53 + 2 * t ∈ TC := by decide
theorem TC1 : ∀ c, c ∈ TC → ¬ c = 1 := by decide
/-- what both sides have alike -/
noncomputable def RLk (I : Im) (J : Jm) : Prop := (I 3 1).toInt = (I 97 8).toInt ∧ (I 1 13).toInt = (I 97 23).toInt ∧ RT I ∧ J 47 0 = 0
theorem RT.kp {I I2 : Im} (h : RT I) (k4 : KT I I2) (k9 : K9 I I2) : RT I2 := fun t ht => by
  rw [k4 _ (TC_in t ht), k9.1, k9.2]; exact h t ht
noncomputable def TL (I I2 : Im) (o : Nat) (a b : Int32) : Prop := ∀ c, c ∈ TC → I2 c = uI (uI I o 0 a) o 1 b c
noncomputable def TE (I I2 : Im) (v a b : Int32) : Prop := I2 98 = upd (I 98) (Int32.toNatClampNeg v) a ∧ I2 99 = upd (I 99) (Int32.toNatClampNeg v) b
theorem RT.a1 {I I1 : Im} {R : Rm} {v : Int32} (h : RT I) (hR : RI R) (k : K9 I I1) (h0 : 0 ≤ v.toInt) (h3 : v.toInt ≤ 3) : (I (R 2 (Int32.toNatClampNeg v)) 1).toInt = (I1 99 (Int32.toNatClampNeg v)).toInt := by
  have hn : Int32.toNatClampNeg v < 4 := by show v.toInt.toNat < 4; omega
  rw [hR.tr _ hn, k.2, (h _ hn).2]
theorem RT.a0 {I I1 : Im} {R : Rm} {v : Int32} (h : RT I) (hR : RI R) (k : K9 I I1) (h0 : 0 ≤ v.toInt) (h3 : v.toInt ≤ 3) : (I (R 2 (Int32.toNatClampNeg v)) 0).toInt = (I1 98 (Int32.toNatClampNeg v)).toInt := by
  have hn : Int32.toNatClampNeg v < 4 := by show v.toInt.toNat < 4; omega
  rw [hR.tr _ hn, k.1, (h _ hn).1]
theorem RT.tray {I I1 I2 : Im} {R : Rm} {v a b : Int32} {x x2 : Int} (h : RT I) (hR : RI R) (p : (x = 1 ∧ TL I I1 (R 2 (Int32.toNatClampNeg v)) a b) ∨ (x = 0 ∧ KT I I1)) (p2 : (x2 = 1 ∧ TE I1 I2 v a b) ∨ (x2 = 0 ∧ K9 I1 I2)) (hx : x = x2) (hv : x = 1 → 0 ≤ v.toInt ∧ v.toInt ≤ 3) (k9 : K9 I I1) (k4 : KT I1 I2) : RT I2 := by
  rcases p with ⟨x1, p⟩ | ⟨x1, p⟩
  · rcases p2 with ⟨x3, p2⟩ | ⟨x3, p2⟩
    · intro t ht
      have hv1 := hv x1
      have hn : Int32.toNatClampNeg v < 4 := by show v.toInt.toNat < 4; omega
      rw [k4 _ (TC_in t ht), p _ (TC_in t ht), hR.tr _ hn, p2.1, p2.2, k9.1, k9.2]
      by_cases ht2 : t = Int32.toNatClampNeg v
      · rw [← ht2]
        constructor <;> simp [uI, upd]
      · have ho : ¬ 53 + 2 * t = 53 + 2 * Int32.toNatClampNeg v := by omega
        rw [uI_ne ho, uI_ne ho]
        have e : ∀ (f : Nat → Int32) (z : Int32), upd f (Int32.toNatClampNeg v) z t = f t := fun f z => by simp [upd, ht2]
        rw [e, e]
        exact h t ht
    · omega
  · rcases p2 with ⟨x3, p2⟩ | ⟨x3, p2⟩
    · omega
    · exact (h.kp p k9).kp k4 p2
/-- the scribe's sums, a whole array of longs, to which few come -/
noncomputable def bad47 (a : Nat) : Bool := Nat.beq a 47
noncomputable def okg47 (ci k : Nat) : Bool := !(Nat.beq ci 9 && Nat.beq k 2)
theorem sh47 : 100 ≤ (shl.getD (47 - 1) (999, 0)).1 := by decide
theorem bad47_f {a : Nat} (h : bad47 a = false) : ¬ a = 47 := by
  intro q; subst q; exact absurd h (by decide)
theorem bad47_o {a ci : Nat} (h : (shl.getD (a - 1) (999, 0)).1 = ci) (hc : ci < 100) : bad47 a = false := by
  cases q : bad47 a with
  | false => rfl
  | true =>
    have e : a = 47 := Nat.eq_of_beq_eq_true q
    subst e
    have := sh47
    omega
theorem stg_47 {J0 : Jm} : StG bad47 (fun _ _ => true) (fun _ J _ => J 47 = J0 47) := by
  refine ⟨fun I J R o ci k x h1 h2 h3 hF => hF, fun I J R o ci k x h1 h2 h3 hF => ?_, fun I J R a t j x h1 h2 hF => hF, fun I J R a t j x h1 h2 hF => ?_, fun I J R a0 a1 t p q m h1 h2 hF => hF, fun I J R a0 a1 t p q m h1 h2 hF => ?_, fun I J R o ci k x h1 h2 hF => hF⟩
  · exact (if_neg (fun q => bad47_f (bad47_o h1 h2) q.symm)).trans hF
  · exact (if_neg (fun q => bad47_f h2 q.symm)).trans hF
  · exact (if_neg (fun q => bad47_f h2 q.symm)).trans hF
set_option maxRecDepth 100000 in
theorem gf_47 : ∀ o ci k, 0 < o → (shl.getD (o - 1) (999, 0)).1 = ci → fkd ci k = 4 → okg47 ci k = true → bad47 (o + fof ci k) = false := by
  have each : ∀ q ∈ fk4L, okg47 (shl.getD (q.1 - 1) (999, 0)).1 q.2 = true → bad47 (q.1 + fof (shl.getD (q.1 - 1) (999, 0)).1 q.2) = false := by decide +kernel
  intro o ci k h0 h1 h2 h3
  obtain ⟨i1, i2⟩ := fkd_in h2 (by decide)
  subst h1
  exact each (o, k) (List.contains_iff_mem.mp (fk4_all o (shl_in rfl (by omega)) h0 k i2 h2)) h3
set_option maxRecDepth 100000 in
theorem HRf_47 {R : Rm} (h : RI R) : HRf bad47 R := by
  constructor
  · intro o ci k h0 h1 h2
    have all : ∀ o, o < 113 → 0 < o → ∀ k, k < 60 → fkd (shl.getD (o - 1) (999, 0)).1 k = 3 → okH9 o k = true := okH9_all
    obtain ⟨i1, i2⟩ := fkd_in h2 (by decide)
    subst h1
    obtain ⟨rfl, hk⟩ := okH9_s (all o (shl_in rfl (by omega)) h0 k i2 h2)
    rcases hk with rfl | rfl | rfl | rfl
    · exact bad47_o (isO_spec h.now.1).2.2 (by decide)
    · exact bad47_o (isO_spec h.spare.1).2.2 (by decide)
    · exact bad47_o (isO_spec h.plan.1).2.2 (by decide)
    · exact bad47_o (isO_spec h.splan.1).2.2 (by decide)
  · intro a t j h1 h2
    have ha : a < 113 := by
      rcases Nat.lt_or_ge a 113 with q | q
      · exact q
      · have hl : shl.length = 112 := by decide +kernel
        unfold aL at h2
        rw [List.getD_eq_getElem?_getD, List.getElem?_eq_none (by omega)] at h2
        exact absurd h2 (Nat.not_lt_zero _)
    have all : ∀ a, a < 113 → 103 ≤ (shl.getD (a - 1) (999, 0)).1 → (shl.getD (a - 1) (999, 0)).1 < 999 → (a = 2 ∧ aL a = 4) ∨ (a = 33 ∧ aL a = 3) ∨ (a = 34 ∧ aL a = 3) := arr9_all
    have lt : (shl.getD (a - 1) (999, 0)).1 < 999 := by
      have h3 : ∀ a, a < 113 → (shl.getD (a - 1) (999, 0)).1 < 999 := shl9_lt
      exact h3 a ha
    rcases all a ha (by omega) lt with ⟨rfl, e⟩ | ⟨rfl, e⟩ | ⟨rfl, e⟩
    · exact bad47_o (isO_spec (h.tray j (by omega)).2).2.2 (by decide)
    · exact bad47_o (isO_spec (h.kb j (by omega)).2).2.2 (by decide)
    · exact bad47_o (isO_spec (h.kd j (by omega)).2).2.2 (by decide)
noncomputable def okas47 : List Value → Bool
  | [] => true
  | .ref a :: r => !bad47 a && okas47 r
  | _ :: r => okas47 r
theorem okas47_kv : ∀ as : List Value, okas47 as = true → kvS bad47 as := by
  intro as
  induction as with
  | nil => intro _; exact kvS.n
  | cons v r ih =>
    intro h
    cases v with
    | ref a =>
      unfold okas47 at h
      rw [Bool.and_eq_true, Bool.not_eq_true'] at h
      exact kvS.c (kvO.rf h.1) (ih h.2)
    | _ => exact kvS.c (fun _ q => by cases q) (ih h)
/-- all that reads or writes that array and is not pure: X11_luck, X11_plate, X11_plateMove, X9_addSlice, X9_firstWinning, X9_lay -/
noncomputable def dty6 : List Nat := [0, 27, 32, 40, 53, 58, 74, 85, 88, 89, 90, 91, 94, 99, 140, 141, 142, 172]
set_option maxRecDepth 100000 in
theorem cl6 : ClT pul dty6 okg47 (fun _ _ => true) := ClT.ef (by decide +kernel)
theorem kp6 {d mi n : Nat} {as : List Value} {I : Im} {J : Jm} {R : Rm} {Q : Qt} (hd : dty6.elem mi = false) (hR : RI R) (ha : okas47 as = true) (h : AM d mi n as I J R (fun x y I' J' R' => J' 47 = J 47 → Q x y I' J' R')) : AM d mi n as I J R Q :=
  AM_w (F := fun _ J' _ => J' 47 = J 47) pul_kk cl6 gf_47 stg_47 hd (okas47_kv as ha) (HRf_47 hR) rfl h
theorem kpp {d mi n : Nat} {as : List Value} {I : Im} {J : Jm} {R : Rm} {Q : Qt} (hd : pul.elem mi = true) (h : AM d mi n as I J R (fun x y I' J' R' => I' = I → J' = J → R' = R → Q x y I' J' R')) : AM d mi n as I J R Q :=
  AM_m d _ _ _ _ _ _ _ _ (fun x y I' J' R' q => q.2.2.2 q.1 q.2.1 q.2.2.1) (AM_p pul_kk d mi n as I J R _ hd h)
noncomputable def bad102 (a : Nat) : Bool := Nat.beq a 102 || (Nat.beq a 103)
noncomputable def okg102 (ci k : Nat) : Bool := !(Nat.beq ci 12 && (Nat.beq k 20 || Nat.beq k 21))
noncomputable def K102 (I : Im) (J : Jm) (I2 : Im) (J2 : Jm) : Prop := I2 102 = I 102 ∧ I2 103 = I 103
theorem K102.rf {I : Im} {J : Jm} : K102 I J I J := ⟨rfl, rfl⟩
theorem bad102_f {a : Nat} (h : bad102 a = false) : ¬ a = 102 ∧ ¬ a = 103 := by
  refine ⟨?_, ?_⟩ <;> intro q <;> subst q <;> exact absurd h (by decide)
theorem bad102_i {a : Nat} (h : ¬ a = 102 ∧ ¬ a = 103) : bad102 a = false := by
  cases q : bad102 a with
  | false => rfl
  | true =>
    unfold bad102 at q
    rw [Bool.or_eq_true] at q
    rcases q with q | q
    · exact absurd (Nat.eq_of_beq_eq_true q) h.1
    exact absurd (Nat.eq_of_beq_eq_true q) h.2
theorem bad102_o {a ci : Nat} (h : (shl.getD (a - 1) (999, 0)).1 = ci) (hc : ci < 100) : bad102 a = false := by
  refine bad102_i ⟨fun q => ?_, fun q => ?_⟩ <;> subst q
  · have : (shl.getD (102 - 1) (999, 0)).1 = 100 := rfl
    omega
  · have : (shl.getD (103 - 1) (999, 0)).1 = 100 := rfl
    omega
theorem stg_102 {I0 : Im} {J0 : Jm} : StG bad102 (fun _ _ => true) (fun I J _ => K102 I0 J0 I J) := by
  refine ⟨fun I J R o ci k x h1 h2 h3 hF => ?_, fun I J R o ci k x h1 h2 h3 hF => ?_, fun I J R a t j x h1 h2 hF => ?_, fun I J R a t j x h1 h2 hF => ?_, fun I J R a0 a1 t p q m h1 h2 hF => ?_, fun I J R a0 a1 t p q m h1 h2 hF => ?_, fun I J R o ci k x h1 h2 hF => hF⟩
  · have hb := bad102_f (bad102_o h1 h2)
    exact ⟨(uI_ne (fun q => hb.1 q.symm)).trans hF.1, (uI_ne (fun q => hb.2 q.symm)).trans hF.2⟩
  · exact hF
  · have hb := bad102_f h2
    exact ⟨(uI_ne (fun q => hb.1 q.symm)).trans hF.1, (uI_ne (fun q => hb.2 q.symm)).trans hF.2⟩
  · exact hF
  · have hb := bad102_f h2
    exact ⟨(if_neg (fun q => hb.1 q.symm)).trans hF.1, (if_neg (fun q => hb.2 q.symm)).trans hF.2⟩
  · exact hF
set_option maxRecDepth 100000 in
theorem gf_102 : ∀ o ci k, 0 < o → (shl.getD (o - 1) (999, 0)).1 = ci → fkd ci k = 4 → okg102 ci k = true → bad102 (o + fof ci k) = false := by
  have each : ∀ q ∈ fk4L, okg102 (shl.getD (q.1 - 1) (999, 0)).1 q.2 = true → bad102 (q.1 + fof (shl.getD (q.1 - 1) (999, 0)).1 q.2) = false := by decide +kernel
  have all : ∀ o, o < 113 → 0 < o → ∀ k, k < 60 → fkd (shl.getD (o - 1) (999, 0)).1 k = 4 → okg102 (shl.getD (o - 1) (999, 0)).1 k = true → bad102 (o + fof (shl.getD (o - 1) (999, 0)).1 k) = false := fun o h1 h0 k h2 h3 h4 => each (o, k) (List.contains_iff_mem.mp (fk4_all o h1 h0 k h2 h3)) h4
  intro o ci k h0 h1 h2 h3
  obtain ⟨i1, i2⟩ := fkd_in h2 (by decide)
  subst h1
  exact all o (shl_in rfl (by omega)) h0 k i2 h2 h3
set_option maxRecDepth 100000 in
theorem HRf_102 {R : Rm} (h : RI R) : HRf bad102 R := by
  constructor
  · intro o ci k h0 h1 h2
    have all : ∀ o, o < 113 → 0 < o → ∀ k, k < 60 → fkd (shl.getD (o - 1) (999, 0)).1 k = 3 → okH9 o k = true := okH9_all
    obtain ⟨i1, i2⟩ := fkd_in h2 (by decide)
    subst h1
    obtain ⟨rfl, hk⟩ := okH9_s (all o (shl_in rfl (by omega)) h0 k i2 h2)
    rcases hk with rfl | rfl | rfl | rfl
    · exact bad102_o (isO_spec h.now.1).2.2 (by decide)
    · exact bad102_o (isO_spec h.spare.1).2.2 (by decide)
    · exact bad102_o (isO_spec h.plan.1).2.2 (by decide)
    · exact bad102_o (isO_spec h.splan.1).2.2 (by decide)
  · intro a t j h1 h2
    have ha : a < 113 := by
      rcases Nat.lt_or_ge a 113 with q | q
      · exact q
      · have hl : shl.length = 112 := by decide +kernel
        unfold aL at h2
        rw [List.getD_eq_getElem?_getD, List.getElem?_eq_none (by omega)] at h2
        exact absurd h2 (Nat.not_lt_zero _)
    have all : ∀ a, a < 113 → 103 ≤ (shl.getD (a - 1) (999, 0)).1 → (shl.getD (a - 1) (999, 0)).1 < 999 → (a = 2 ∧ aL a = 4) ∨ (a = 33 ∧ aL a = 3) ∨ (a = 34 ∧ aL a = 3) := arr9_all
    have lt : (shl.getD (a - 1) (999, 0)).1 < 999 := by
      have h3 : ∀ a, a < 113 → (shl.getD (a - 1) (999, 0)).1 < 999 := shl9_lt
      exact h3 a ha
    rcases all a ha (by omega) lt with ⟨rfl, e⟩ | ⟨rfl, e⟩ | ⟨rfl, e⟩
    · exact bad102_o (isO_spec (h.tray j (by omega)).2).2.2 (by decide)
    · exact bad102_o (isO_spec (h.kb j (by omega)).2).2.2 (by decide)
    · exact bad102_o (isO_spec (h.kd j (by omega)).2).2.2 (by decide)
noncomputable def okas102 : List Value → Bool
  | [] => true
  | .ref a :: r => !bad102 a && okas102 r
  | _ :: r => okas102 r
theorem okas102_kv : ∀ as : List Value, okas102 as = true → kvS bad102 as := by
  intro as
  induction as with
  | nil => intro _; exact kvS.n
  | cons v r ih =>
    intro h
    cases v with
    | ref a =>
      unfold okas102 at h
      rw [Bool.and_eq_true, Bool.not_eq_true'] at h
      exact kvS.c (kvO.rf h.1) (ih h.2)
    | _ => exact kvS.c (fun _ q => by cases q) (ih h)
/-- all that comes to the blocks and is not pure -/
noncomputable def dty102 : List Nat := [0, 27, 32, 40, 53, 58, 74, 85, 88, 94, 99, 172, 225, 228, 229, 230, 231, 232, 233, 234, 235, 236, 237, 248, 249, 250, 251, 253, 254, 257, 258, 259, 260, 261, 262, 263, 264, 265, 266, 267, 268, 269, 270, 275, 276, 277, 278, 279, 280, 281, 290, 291, 292, 293, 294, 295, 303, 305, 306, 307, 308, 310, 311, 312, 313, 315, 316, 317, 318]
set_option maxRecDepth 100000 in
theorem cl102 : ClT pul dty102 okg102 (fun _ _ => true) := ClT.ef (by decide +kernel)
theorem kp102 {d mi n : Nat} {as : List Value} {I : Im} {J : Jm} {R : Rm} {Q : Qt} (hd : dty102.elem mi = false) (hR : RI R) (ha : okas102 as = true) (h : AM d mi n as I J R (fun x y I' J' R' => K102 I J I' J' → Q x y I' J' R')) : AM d mi n as I J R Q :=
  AM_w (F := fun I' J' _ => K102 I J I' J') pul_kk cl102 gf_102 stg_102 hd (okas102_kv as ha) (HRf_102 hR) K102.rf h
end PT4x0
section PT4x1
/-! ===== two walks of one run hold at once ===== -/
theorem lgt_flt {f : Nat × Value → Bool} {k : Nat} {v : Value} : ∀ {c : Lv}, lgt c k = v → ¬ v = .null → f (k, v) = true → lgt (c.filter f) k = v := by
  intro c
  induction c with
  | nil => intro h hv _; exact absurd h.symm hv
  | cons q r ih =>
    intro h hv hf
    obtain ⟨j, w⟩ := q
    unfold lgt at h
    cases hb : Nat.beq j k with
    | true =>
      rw [hb] at h
      have hj := Nat.eq_of_beq_eq_true hb
      subst hj
      change w = v at h
      subst h
      rw [List.filter_cons, if_pos hf]
      unfold lgt
      rw [hb]; rfl
    | false =>
      rw [hb] at h
      have h2 := ih h hv hf
      rw [List.filter_cons]
      split
      · unfold lgt
        rw [hb]; exact h2
      · exact h2
theorem pk_cs {i : Nat} {r : List Nat} {lv : Lv} {v : Value} (h : lgt lv i = v) (hv : ¬ v = .null) : pk (i :: r) lv = (i, v) :: pk r lv := by
  conv => lhs; unfold pk
  rw [h]
  cases v <;> first | rfl | exact absurd rfl hv
theorem pk_nl {i : Nat} {r : List Nat} {lv : Lv} (h : lgt lv i = .null) : pk (i :: r) lv = pk r lv := by
  conv => lhs; unfold pk
  rw [h]
noncomputable def nnl (v : Value) : Bool := match v with
  | .null => false
  | _ => true
theorem nnl_t {v : Value} (h : ¬ v = .null) : nnl v = true := by
  cases v <;> first | rfl | exact absurd rfl h
theorem pk_flt {f : Nat × Value → Bool} {c : Lv} : ∀ ks : List Nat, (pk ks c).filter f = pk (ks.filter (fun k => nnl (lgt c k) && f (k, lgt c k))) (c.filter f) := by
  intro ks
  induction ks with
  | nil => rfl
  | cons k r ih =>
    by_cases q : lgt c k = .null
    · rw [pk_nl q, ih, List.filter_cons, if_neg (by rw [q]; exact fun z => absurd (show false = true from z) (by decide))]
    · rw [pk_cs rfl q, List.filter_cons, List.filter_cons, nnl_t q, Bool.true_and]
      by_cases q2 : f (k, lgt c k) = true
      · rw [if_pos q2, if_pos q2, pk_cs (lgt_flt rfl q q2) q, ih]
      · rw [if_neg q2, if_neg q2, ih]
theorem pk_hd {i : Nat} {v : Value} {c : Lv} : ∀ ks : List Nat, (∀ k ∈ ks, ¬ k = i) → pk ks ((i, v) :: c) = pk ks c := by
  intro ks
  induction ks with
  | nil => intro _; rfl
  | cons k r ih =>
    intro h
    have hb : Nat.beq i k = false := by
      cases e : Nat.beq i k with
      | false => rfl
      | true => exact absurd (Nat.eq_of_beq_eq_true e).symm (h k List.mem_cons_self)
    have e : lgt ((i, v) :: c) k = lgt c k := by
      conv => lhs; unfold lgt
      rw [hb]; rfl
    have ih2 := ih (fun k hk => h k (List.mem_cons_of_mem _ hk))
    by_cases q : lgt c k = .null
    · rw [pk_nl q, pk_nl (e.trans q), ih2]
    · rw [pk_cs rfl q, pk_cs e q, ih2]
theorem lgt_pk {c : Lv} {k : Nat} : ∀ ks : List Nat, lgt (pk ks c) k = if k ∈ ks then lgt c k else .null := by
  intro ks
  induction ks with
  | nil => rfl
  | cons j r ih =>
    by_cases q : lgt c j = .null
    · rw [pk_nl q, ih]
      by_cases z : k = j
      · subst z
        rw [if_pos List.mem_cons_self, q]
        split <;> rfl
      · by_cases z2 : k ∈ r
        · rw [if_pos z2, if_pos (List.mem_cons_of_mem _ z2)]
        · rw [if_neg z2, if_neg (fun w => (List.mem_cons.mp w).elim z z2)]
    · rw [pk_cs rfl q]
      by_cases z : k = j
      · subst z
        rw [if_pos List.mem_cons_self]
        show (bif Nat.beq k k then lgt c k else lgt (pk r c) k) = lgt c k
        rw [Nat.beq_refl k]; rfl
      · have hb : Nat.beq j k = false := by
          cases e : Nat.beq j k with
          | false => rfl
          | true => exact absurd (Nat.eq_of_beq_eq_true e).symm z
        conv => lhs; unfold lgt
        rw [hb]
        show lgt (pk r c) k = _
        rw [ih]
        by_cases z2 : k ∈ r
        · rw [if_pos z2, if_pos (List.mem_cons_of_mem _ z2)]
        · rw [if_neg z2, if_neg (fun w => (List.mem_cons.mp w).elim z z2)]
/-- some of the locals -/
noncomputable def Sub (a c : Lv) : Prop := a = c ∨ ∃ ks, a = pk ks c
theorem Sub.rf {a : Lv} : Sub a a := Or.inl rfl
theorem pk_pk {c : Lv} {ks : List Nat} : ∀ js : List Nat, pk js (pk ks c) = pk (js.filter (fun j => decide (j ∈ ks))) c := by
  intro js
  induction js with
  | nil => rfl
  | cons j r ih =>
    have e := lgt_pk (c := c) (k := j) ks
    by_cases z : j ∈ ks
    · rw [if_pos z] at e
      rw [List.filter_cons, if_pos (by simpa using z)]
      by_cases q : lgt c j = .null
      · rw [pk_nl (e.trans q), pk_nl q, ih]
      · rw [pk_cs e q, pk_cs rfl q, ih]
    · rw [if_neg z] at e
      rw [List.filter_cons, if_neg (by simpa using z), pk_nl e, ih]
theorem Sub.k {a c : Lv} (h : Sub a c) (js : List Nat) : Sub (pk js a) c := by
  rcases h with rfl | ⟨ks, rfl⟩
  · exact Or.inr ⟨js, rfl⟩
  · exact Or.inr ⟨_, pk_pk js⟩
theorem Sub.tr {a b c : Lv} (h : Sub a b) (h2 : Sub b c) : Sub a c := by
  rcases h with rfl | ⟨ks, rfl⟩
  · exact h2
  · exact h2.k ks
theorem Sub.g {a c : Lv} (h : Sub a c) {i : Nat} {v : Value} (e : lgt a i = v) (hv : ¬ v = .null) : lgt c i = v := by
  rcases h with rfl | ⟨ks, rfl⟩
  · exact e
  · rw [lgt_pk] at e
    split at e
    · exact e
    · exact absurd e.symm hv
theorem Sub.fl {a c : Lv} (h : Sub a c) {i : Nat} {v : Value} {f : Nat × Value → Bool} (hv : ¬ v = .null) (hf : ∀ q, f q = true → ¬ q.1 = i) : Sub ((i, v) :: a.filter f) ((i, v) :: c.filter f) := by
  rcases h with rfl | ⟨ks, rfl⟩
  · exact Sub.rf
  · refine Or.inr ⟨i :: ks.filter (fun k => nnl (lgt c k) && f (k, lgt c k)), ?_⟩
    have hb : lgt ((i, v) :: c.filter f) i = v := by
      unfold lgt
      rw [show Nat.beq i i = true from Nat.beq_refl i]; rfl
    rw [pk_cs hb hv, pk_flt, pk_hd]
    intro k hk
    have := (List.mem_filter.mp hk).2
    rw [Bool.and_eq_true] at this
    exact hf _ this.2
end PT4x1
