section PT16x9
section TRV
variable {I : Im} {J : Jm} {R : Rm} {Q : Qt}
end TRV
end PT16x9
section PT16x10
/-! ===== the trays' numbers: both sides ===== -/
noncomputable def TQ9 (I : Im) (J : Jm) : Prop := ∀ t, t < 4 → ∀ k : Nat, (k : Int) < (I 99 t).toInt → J (53 + 2 * t + 1) k = J 100 (60 * t + k)
section TRX
variable {I I2 : Im} {J J1 J2 : Jm} {a b c p q n : Int32} {v : Int64}
theorem RT.eL (h : RT I) {t : Nat} (ht : t < 4) : trL9 I t = I 99 t := (h t ht).2
theorem RT.eS (h : RT I) {t : Nat} (ht : t < 4) : trS9 I t = I 98 t := (h t ht).1
theorem RT.okP (h : RT I) : okP9 (trL9 I) a b ↔ okP9 (I 99) a b := by
  constructor
  · intro z
    have := h.eL (tr9_n z.1).1
    exact ⟨z.1, z.2.1, by rw [← this]; exact z.2.2⟩
  · intro z
    have := h.eL (tr9_n z.1).1
    exact ⟨z.1, z.2.1, by rw [this]; exact z.2.2⟩
theorem RT.okC (h : RT I) : okCs9 (trL9 I) a b ↔ okCs9 (I 99) a b := by
  constructor
  · intro z
    have := h.eL (tr9_n z.1).1
    exact ⟨z.1, z.2.1, by rw [← this]; exact z.2.2⟩
  · intro z
    have := h.eL (tr9_n z.1).1
    exact ⟨z.1, z.2.1, by rw [this]; exact z.2.2⟩
theorem RT.okU (h : RT I) : okU9 (trL9 I) (trS9 I) a p b q n ↔ okU9 (I 99) (I 98) a p b q n := by
  constructor
  · intro z
    have n1 := (tr9_n z.1.1).1
    have n2 := (tr9_n z.1.2).1
    exact ⟨z.1, by rw [← h.eS n1, ← h.eS n2]; exact z.2.1, z.2.2.1, by rw [← h.eL n1]; exact z.2.2.2.1, by rw [← h.eL n2]; exact z.2.2.2.2⟩
  · intro z
    have n1 := (tr9_n z.1.1).1
    have n2 := (tr9_n z.1.2).1
    exact ⟨z.1, by rw [h.eS n1, h.eS n2]; exact z.2.1, z.2.2.1, by rw [h.eL n1]; exact z.2.2.2.1, by rw [h.eL n2]; exact z.2.2.2.2⟩
theorem TQ9.read {y y2 : Int64} (hT : RT I) (h : TQ9 I J) (h1 : HRd9 (trL9 I) (fun t k => J (53 + 2 * t + 1) k) a b y) (h2 : HRd9 (I 99) (fun t k => J 100 (60 * t + k)) a b y2) : y2 = y := by
  by_cases z : okP9 (I 99) a b
  · rw [h1.1 (hT.okP.mpr z), h2.1 z]
    have nb : (nn9 b : Int) = b.toInt := by have := z.2.1; show (b.toInt.toNat : Int) = b.toInt; omega
    exact (h _ (tr9_n z.1).1 _ (by rw [nb]; exact z.2.2)).symm
  · rw [h1.2 (fun y => z (hT.okP.mp y)), h2.2 z]
theorem TQ9.write (hT : RT I) (h : TQ9 I J) (e : I2 99 = I 99) (h60 : ∀ t, t < 4 → (I 99 t).toInt ≤ 60) (h1 : HWr9 I J a b v J1) (h2 : HWq9 I J1 a b v J2) : TQ9 I2 J2 := by
  intro t ht k hk
  rw [e] at hk
  have l := h60 t ht
  by_cases z : okP9 (I 99) a b
  · have n4 := (tr9_n z.1).1
    have lz := h60 _ n4
    have nb : (nn9 b : Int) = b.toInt := by have := z.2.1; show (b.toInt.toNat : Int) = b.toInt; omega
    have zb := z.2.2
    rw [h2.1 z, h1.1 (hT.okP.mpr z), rj_ne (by omega), hT.eS n4]
    by_cases y : t = nn9 a ∧ k = nn9 b
    · obtain ⟨y1, y2⟩ := y
      rw [y1, y2, rj_eq, rj_eq]
    · have x1 : uJ J (53 + 2 * nn9 a + 1) (nn9 b) (trm9 (I 98 (nn9 a)) v) (53 + 2 * t + 1) k = J (53 + 2 * t + 1) k := by
        by_cases w : t = nn9 a
        · subst w
          exact rj_k (fun x => y ⟨rfl, x⟩)
        · exact rj_ne (by omega)
      rw [x1, rj_k (by
        intro x
        by_cases w : t = nn9 a
        · exact y ⟨w, by subst w; omega⟩
        · omega), rj_ne (by omega)]
      exact h t ht k hk
  · rw [h2.2 z, h1.2 (fun y => z (hT.okP.mp y))]
    exact h t ht k hk
theorem TQ9.tray (h : TQ9 I J) (ho : okT9 a b c → I2 99 (nn9 a) = c ∧ ∀ t, t < 4 → ¬ t = nn9 a → I2 99 t = I 99 t) (hn : ¬ okT9 a b c → I2 99 = I 99) (h60 : ∀ t, t < 4 → (I 99 t).toInt ≤ 60) (h1 : HTr9 J a b c J1) (h2 : HTq9 J1 a b c J2) : TQ9 I2 J2 := by
  intro t ht k hk
  by_cases z : okT9 a b c
  · have n4 := (tr9_n z.1).1
    obtain ⟨o1, o2⟩ := ho z
    obtain ⟨p1, p2⟩ := h1.1 z
    obtain ⟨q1, q2, q3⟩ := h2.1 z
    have c60 := z.2.2.2
    rw [q3 _ (by omega)]
    by_cases w : t = nn9 a
    · subst w
      rw [o1] at hk
      rw [p1 k (by omega), q1 k hk]
    · have l := h60 t ht
      rw [o2 t ht w] at hk
      rw [p2 _ (by omega), q2 _ (by omega), p2 100 (by omega)]
      exact h t ht k hk
  · rw [h2.2 z, h1.2 z]
    rw [hn z] at hk
    exact h t ht k hk
theorem TQ9.copy {ST : Nat → Int32} (hT : RT I) (h : TQ9 I J) (e : I2 99 = I 99) (h60 : ∀ t, t < 4 → (I 99 t).toInt ≤ 60) (hS : ∀ d, 1 ≤ d → d ≤ 30 → ST d = I 102 (3 + d)) (h1 : HCs9 (trL9 I) (trS9 I) ST J a b J1) (h2 : HCq9 I J1 a b J2) : TQ9 I2 J2 := by
  intro t ht k hk
  rw [e] at hk
  have l := h60 t ht
  by_cases z : okCs9 (I 99) a b
  · have n4 := (tr9_n z.1).1
    obtain ⟨p1, p2⟩ := h1.1 (hT.okC.mpr z)
    obtain ⟨q1, q2, q3⟩ := h2.1 z
    have nb : (nn9 b : Int) = b.toInt := by have := z.2.1.1; show (b.toInt.toNat : Int) = b.toInt; omega
    have b30 := z.2.1.2
    rw [q3 _ (by omega)]
    by_cases w : t = nn9 a
    · subst w
      rw [p1 k, q1 k (by omega), hT.eS n4]
      by_cases y : k < nn9 b
      · rw [if_pos y, if_pos y, hS (k + 1) (by omega) (by omega), show 3 + (k + 1) = 4 + k by omega]
      · rw [if_neg y, if_neg y, p2 100 (by omega)]
        exact h _ ht k hk
    · rw [p2 _ (by omega), q2 _ (by omega), p2 100 (by omega)]
      exact h t ht k hk
  · rw [h2.2 z, h1.2 (fun y => z (hT.okC.mp y))]
    exact h t ht k hk
theorem TQ9.pour (hT : RT I) (h : TQ9 I J) (e : I2 99 = I 99) (h60 : ∀ t, t < 4 → (I 99 t).toInt ≤ 60) (h1 : HPo9 (trL9 I) (trS9 I) J a p b q n J1) (h2 : HPq9 I J1 a p b q n J2) : TQ9 I2 J2 := by
  intro t ht k hk
  rw [e] at hk
  have l := h60 t ht
  by_cases z : okU9 (I 99) (I 98) a p b q n
  · have n4 := (tr9_n z.1.2).1
    have n5 := (tr9_n z.1.1).1
    obtain ⟨p1, p2⟩ := h1.1 (hT.okU.mpr z)
    obtain ⟨q1, q2, q3⟩ := h2.1 z
    have np : (nn9 p : Int) = p.toInt := by have := z.2.2.1.1; show (p.toInt.toNat : Int) = p.toInt; omega
    have nq : (nn9 q : Int) = q.toInt := by have := z.2.2.1.2.1; show (q.toInt.toNat : Int) = q.toInt; omega
    have nn : (nn9 n : Int) = n.toInt := by have := z.2.2.1.2.2; show (n.toInt.toNat : Int) = n.toInt; omega
    have z1 := z.2.2.2.1
    have la := h60 _ n5
    rw [q3 _ (by omega)]
    by_cases w : t = nn9 b
    · subst w
      rw [p1 k, q1 k (by omega)]
      by_cases y : nn9 q ≤ k ∧ k < nn9 q + nn9 n
      · rw [if_pos y, if_pos y, p2 100 (by omega)]
        exact h _ n5 _ (by omega)
      · rw [if_neg y, if_neg y, p2 100 (by omega)]
        exact h _ ht k hk
    · rw [p2 _ (by omega), q2 _ (by omega), p2 100 (by omega)]
      exact h t ht k hk
  · rw [h2.2 z, h1.2 (fun y => z (hT.okU.mp y))]
    exact h t ht k hk
end TRX
end PT16x10
section PT16x11
/-! printed by grpT.py: the trays' numbers on both sides: what keeps them -/
noncomputable def badT9 (a : Nat) : Bool := [54, 56, 58, 60, 100].any (fun b => Nat.beq a b)
noncomputable def okgT9 (ci k : Nat) : Bool := !(Nat.beq ci 10 && Nat.beq k 2) && !(Nat.beq ci 12 && Nat.beq k 6)
noncomputable def KQ9 (J J2 : Jm) : Prop := ∀ a, badT9 a = true → J2 a = J a
theorem KQ9.tr {J J2 J3 : Jm} (h : KQ9 J J2) (h2 : KQ9 J2 J3) : KQ9 J J3 := fun a q => (h2 a q).trans (h a q)
theorem badT9_ne {a b : Nat} (h : badT9 a = false) (hb : badT9 b = true) : ¬ b = a := fun q => by
  subst q
  rw [h] at hb
  exact absurd hb (by decide)
theorem badT9_mem {a : Nat} (h : badT9 a = true) : a = 54 ∨ a = 56 ∨ a = 58 ∨ a = 60 ∨ a = 100 := by
  unfold badT9 at h
  obtain ⟨b, hb, e⟩ := List.any_eq_true.mp h
  have e2 := Nat.eq_of_beq_eq_true e
  simp only [List.mem_cons, List.not_mem_nil, or_false] at hb
  omega
theorem badT9_sh {a : Nat} (h : badT9 a = true) : (shl.getD (a - 1) (999, 0)).1 = 101 := by
  rcases badT9_mem h with q | q | q | q | q <;> subst q <;> decide +kernel
theorem badT9_o {a ci : Nat} (h : (shl.getD (a - 1) (999, 0)).1 = ci) (hc : ci < 100) : badT9 a = false := by
  cases q : badT9 a with
  | false => rfl
  | true => have := badT9_sh q; omega
theorem stg_T9 {J0 : Jm} : StG badT9 (fun _ _ => true) (fun _ J _ => KQ9 J0 J) := by
  refine ⟨fun I J R o ci k x h1 h2 h3 hF => hF, fun I J R o ci k x h1 h2 h3 hF => ?_, fun I J R a t j x h1 h2 hF => hF, fun I J R a t j x h1 h2 hF => ?_, fun I J R a0 a1 t p q m h1 h2 hF => hF, fun I J R a0 a1 t p q m h1 h2 hF => ?_, fun I J R o ci k x h1 h2 hF => hF⟩
  · exact fun b hb => (uJ_ne (badT9_ne (badT9_o h1 h2) hb)).trans (hF b hb)
  · exact fun b hb => (uJ_ne (badT9_ne h2 hb)).trans (hF b hb)
  · exact fun b hb => (cJ_ne (badT9_ne h2 hb)).trans (hF b hb)
set_option maxRecDepth 100000 in
theorem gf_T9 : ∀ o ci k, 0 < o → (shl.getD (o - 1) (999, 0)).1 = ci → fkd ci k = 4 → okgT9 ci k = true → badT9 (o + fof ci k) = false := by
  have each : ∀ q ∈ fk4L, okgT9 (shl.getD (q.1 - 1) (999, 0)).1 q.2 = true → badT9 (q.1 + fof (shl.getD (q.1 - 1) (999, 0)).1 q.2) = false := by decide +kernel
  intro o ci k h0 h1 h2 h3
  obtain ⟨i1, i2⟩ := fkd_in h2 (by decide)
  subst h1
  exact each (o, k) (List.contains_iff_mem.mp (fk4_all o (shl_in rfl (by omega)) h0 k i2 h2)) h3
theorem HRf_T9 {R : Rm} (h : RI R) : HRf badT9 R := by
  constructor
  · intro o ci k h0 h1 h2
    obtain ⟨i1, i2⟩ := fkd_in h2 (by decide)
    subst h1
    obtain ⟨rfl, hk⟩ := okH9_s (okH9_all o (shl_in rfl (by omega)) h0 k i2 h2)
    rcases hk with rfl | rfl | rfl | rfl
    · exact badT9_o (isO_spec h.now.1).2.2 (by decide)
    · exact badT9_o (isO_spec h.spare.1).2.2 (by decide)
    · exact badT9_o (isO_spec h.plan.1).2.2 (by decide)
    · exact badT9_o (isO_spec h.splan.1).2.2 (by decide)
  · intro a t j h1 h2
    have ha : a < 113 := by
      rcases Nat.lt_or_ge a 113 with q | q
      · exact q
      · unfold aL at h2
        rw [sh_out (by omega)] at h2
        exact absurd h2 (Nat.not_lt_zero _)
    have lt := shl9_lt a ha
    rcases arr9_all a ha (by omega) lt with ⟨rfl, e⟩ | ⟨rfl, e⟩ | ⟨rfl, e⟩
    · exact badT9_o (isO_spec (h.tray j (by omega)).2).2.2 (by decide)
    · exact badT9_o (isO_spec (h.kb j (by omega)).2).2.2 (by decide)
    · exact badT9_o (isO_spec (h.kd j (by omega)).2).2.2 (by decide)
noncomputable def okasT9 : List Value → Bool
  | [] => true
  | .ref a :: r => !badT9 a && okasT9 r
  | _ :: r => okasT9 r
theorem okasT9_kv : ∀ as : List Value, okasT9 as = true → kvS badT9 as := by
  intro as
  induction as with
  | nil => intro _; exact kvS.n
  | cons v r ih =>
    intro h
    cases v with
    | ref a =>
      unfold okasT9 at h
      rw [Bool.and_eq_true, Bool.not_eq_true'] at h
      exact kvS.c (kvO.rf h.1) (ih h.2)
    | _ => exact kvS.c (fun _ q => by cases q) (ih h)
/-- all that comes to those and is not pure: X10_lay, X10_put, X11_copyStore, X11_pour, X11_read, X11_slipAt, X11_slips, X11_tray, X11_write, X12_copyStore, X12_pour, X12_read, X12_tray, X12_write, X8_findAll -/
noncomputable def dtyT9 : List Nat := [0, 27, 32, 40, 53, 58, 74, 85, 86, 88, 94, 96, 98, 99, 103, 104, 105, 106, 117, 134, 135, 172, 181, 184, 185, 186, 254]
set_option maxRecDepth 100000 in
theorem clT9 : ClT pul dtyT9 okgT9 (fun _ _ => true) := ClT.ef (by decide +kernel)
theorem kpT9 {d mi n : Nat} {as : List Value} {I : Im} {J : Jm} {R : Rm} {Q : Qt} (hd : dtyT9.elem mi = false) (hR : RI R) (ha : okasT9 as = true) (h : AM d mi n as I J R (fun x y I' J' R' => KQ9 J J' → Q x y I' J' R')) : AM d mi n as I J R Q :=
  AM_w (F := fun _ J' _ => KQ9 J J') pul_kk clT9 gf_T9 stg_T9 hd (okasT9_kv as ha) (HRf_T9 hR) (fun _ _ => rfl) h
end PT16x11
