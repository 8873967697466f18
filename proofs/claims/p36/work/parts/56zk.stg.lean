section PT16x11
/-- no row of longs is written -/
theorem kpN9 {d mi n : Nat} {as : List Value} {I : Im} {J : Jm} {R : Rm} {Q : Qt} (hd : nbl.elem mi = true) (h : AM d mi n as I J R (fun x y I' J' R' => KQ9 J J' → Q x y I' J' R')) : AM d mi n as I J R Q :=
  AM_m d _ _ _ _ _ _ _ _ (fun x y I' J' R' q => q.2 (fun a ha => q.1.2 a (badT9_sh ha))) (AM_t nbl_t d mi n as I J R _ hd h)
end PT16x11
section PT16x12
/-! ===== the trays' numbers, carried ===== -/
section TQK
variable {I I1 I2 : Im} {J J1 J2 : Jm} {a b c p q n : Int32} {v : Int64}
theorem okT9_i : okT9 a b c ↔ (0 ≤ a.toInt ∧ a.toInt ≤ 3 ∧ 0 ≤ b.toInt ∧ b.toInt ≤ 3 ∧ 0 ≤ c.toInt ∧ c.toInt ≤ 60) := ⟨fun h => ⟨h.1.1, h.1.2, h.2.1.1, h.2.1.2, h.2.2.1, h.2.2.2⟩, fun h => ⟨⟨h.1, h.2.1⟩, ⟨h.2.2.1, h.2.2.2.1⟩, h.2.2.2.2⟩⟩
theorem tq_b {t : Nat} (ht : t < 4) : badT9 (53 + 2 * t + 1) = true := by
  rcases (show t = 0 ∨ t = 1 ∨ t = 2 ∨ t = 3 by omega) with z | z | z | z <;> subst z <;> decide
theorem TQ9.kp (h : TQ9 I J) (k : KQ9 J J2) (e : I2 99 = I 99) : TQ9 I2 J2 := fun t ht k9 hk => by
  rw [k _ (tq_b ht), k 100 (by decide)]
  rw [e] at hk
  exact h t ht k9 hk
theorem TQ9.start (h : ∀ t, t < 4 → I 99 t = -1) : TQ9 I J := fun t ht k hk => by
  rw [h t ht, show (-1 : Int32).toInt = -1 from rfl] at hk
  omega
theorem RT.h60 (hB : Bd I) (hT : RT I) : ∀ t, t < 4 → (I 99 t).toInt ≤ 60 := fun t ht => by
  have hO : isO 112 (53 + 2 * t) 10 = true := by
    rcases (show t = 0 ∨ t = 1 ∨ t = 2 ∨ t = 3 by omega) with z | z | z | z <;> subst z <;> decide +kernel
  have hb := Bd.o hB hO bd9_10_1
  rw [← (hT t ht).2]
  exact hb.2
theorem K9.h60 (k : K9 I I1) (h : ∀ t, t < 4 → (I 99 t).toInt ≤ 60) : ∀ t, t < 4 → (I1 99 t).toInt ≤ 60 := fun t ht => by
  rw [k.2]; exact h t ht
theorem TQ9.write2 (hT : RT I) (h : TQ9 I J) (k : K9 I I1) (k2 : K9 I1 I2) (h60 : ∀ t, t < 4 → (I 99 t).toInt ≤ 60) (h1 : HWr9 I J a b v J1) (h2 : HWq9 I1 J1 a b v J2) : TQ9 I2 J2 := by
  unfold HWq9 at h2
  rw [k.1, k.2] at h2
  exact h.write hT (k2.2.trans k.2) h60 h1 h2
theorem TQ9.pour2 (hT : RT I) (h : TQ9 I J) (k : K9 I I1) (k2 : K9 I1 I2) (h60 : ∀ t, t < 4 → (I 99 t).toInt ≤ 60) (h1 : HPo9 (trL9 I) (trS9 I) J a p b q n J1) (h2 : HPq9 I1 J1 a p b q n J2) : TQ9 I2 J2 := by
  unfold HPq9 at h2
  rw [k.1, k.2] at h2
  exact h.pour hT (k2.2.trans k.2) h60 h1 h2
theorem TQ9.copy2 {R : Rm} (hW : W9 I R) (hT : RT I) (h : TQ9 I J) (k : K9 I I1) (k2 : K9 I1 I2) (e : I1 102 = I 102) (h60 : ∀ t, t < 4 → (I 99 t).toInt ≤ 60) (h1 : HCs9 (trL9 I) (trS9 I) (I (R 1 7 + 1)) J a b J1) (h2 : HCq9 I1 J1 a b J2) : TQ9 I2 J2 := by
  unfold HCq9 at h2
  rw [k.1, k.2, e] at h2
  exact h.copy hT (k2.2.trans k.2) h60 (fun d x y => hW.1.2.1.2.2.1 d x y) h1 h2
theorem TQ9.tray2 {x : Int} (h : TQ9 I J) (k : K9 I I1) (hx1 : x = 1 → okT9 a b c) (hx2 : okT9 a b c → x = 1) (p : (x = 1 ∧ TE I1 I2 a b c) ∨ (x = 0 ∧ K9 I1 I2)) (h60 : ∀ t, t < 4 → (I 99 t).toInt ≤ 60) (h1 : HTr9 J a b c J1) (h2 : HTq9 J1 a b c J2) : TQ9 I2 J2 := by
  refine h.tray (fun z => ?_) (fun z => ?_) h60 h1 h2
  · rcases p with ⟨-, t1, t2⟩ | ⟨x0, -⟩
    · rw [t2]
      refine ⟨upd_at9, fun t ht hn => (upd_ne9 hn).trans (congrFun k.2 t)⟩
    · have := hx2 z; omega
  · rcases p with ⟨x1, -⟩ | ⟨-, t1⟩
    · exact absurd (hx1 x1) z
    · exact t1.2.trans k.2
end TQK
end PT16x12
section PT16x13
/-! ===== a row that is told: the numbers ===== -/
noncomputable def upD (D : Nat → Nat) (p d : Nat) : Nat → Nat := fun i => if i = p then d else D i
noncomputable def smD (D : Nat → Nat) : Nat → Int
  | 0 => 0
  | n + 1 => smD D n + pt (D n)
/-- without the one at a place -/
noncomputable def smX (D : Nat → Nat) (p : Nat) : Nat → Int
  | 0 => 0
  | n + 1 => smX D p n + (if n = p then 0 else pt (D n))
/-- n slices that are a row of l -/
noncomputable def RowP (K : Int32) (D : Nat → Nat) (n : Nat) (l : Int) : Prop := (∀ i, i < n → inS K (nI (D i)) = true) ∧ (∀ i j, i < j → j < n → ¬ D i = D j) ∧ smD D n = l
section SLP
variable {K : Int32} {D : Nat → Nat} {n p d : Nat} {l : Int}
theorem smD_b : ∀ n, (∀ i, i < n → 1 ≤ D i ∧ D i ≤ 30) → 0 ≤ smD D n ∧ smD D n ≤ (n : Int) * 2329089562800 := by
  intro n
  induction n with
  | zero => intro _; exact ⟨Int.le_refl _, Int.le_refl _⟩
  | succ n ih =>
    intro h
    have h1 := ih (fun i hi => h i (by omega))
    obtain ⟨d1, d2⟩ := h n (by omega)
    obtain ⟨p1, p2, -⟩ := pt_b d1 d2
    show 0 ≤ smD D n + pt (D n) ∧ smD D n + pt (D n) ≤ ((n + 1 : Nat) : Int) * 2329089562800
    omega
theorem smX_b : ∀ n, (∀ i, i < n → 1 ≤ D i ∧ D i ≤ 30) → 0 ≤ smX D p n ∧ smX D p n ≤ (n : Int) * 2329089562800 := by
  intro n
  induction n with
  | zero => intro _; exact ⟨Int.le_refl _, Int.le_refl _⟩
  | succ n ih =>
    intro h
    have h1 := ih (fun i hi => h i (by omega))
    obtain ⟨d1, d2⟩ := h n (by omega)
    obtain ⟨p1, p2, -⟩ := pt_b d1 d2
    show 0 ≤ smX D p n + (if n = p then 0 else pt (D n)) ∧ smX D p n + (if n = p then 0 else pt (D n)) ≤ ((n + 1 : Nat) : Int) * 2329089562800
    split <;> omega
theorem smD_up : ∀ n, smD (upD D p d) n = smX D p n + (if p < n then pt d else 0) := by
  intro n
  induction n with
  | zero => rfl
  | succ n ih =>
    show smD (upD D p d) n + pt (upD D p d n) = smX D p n + (if n = p then 0 else pt (D n)) + (if p < n + 1 then pt d else 0)
    rw [ih]
    by_cases q : n = p
    · subst q
      rw [if_pos rfl, if_neg (Nat.lt_irrefl n), if_pos (Nat.lt_succ_self n), show upD D n d n = d from if_pos rfl]
    · rw [if_neg q, show upD D p d n = D n from if_neg q]
      by_cases y : p < n
      · rw [if_pos y, if_pos (by omega)]; omega
      · rw [if_neg y, if_neg (by omega)]; omega
theorem pt_in {a b : Nat} (a1 : 1 ≤ a) (a2 : a ≤ 30) (b1 : 1 ≤ b) (b2 : b ≤ 30) (h : pt a = pt b) : a = b := by
  rcases Nat.lt_trichotomy a b with q | q | q
  · have := pt_lt a1 q b2; omega
  · exact q
  · have := pt_lt b1 q a2; omega
/-- a row with a slice put in another's place -/
theorem RowP_up (hp : p < n) : RowP K (upD D p d) n l ↔ (inS K (nI d) = true ∧ ∀ j, j < n → ¬ j = p → ¬ D j = d) ∧ ((∀ j, j < n → ¬ j = p → inS K (nI (D j)) = true) ∧ ∀ i j, i < j → j < n → ¬ i = p → ¬ j = p → ¬ D i = D j) ∧ smX D p n + pt d = l := by
  have up : upD D p d p = d := if_pos rfl
  have ne : ∀ i, ¬ i = p → upD D p d i = D i := fun i h => if_neg h
  unfold RowP
  rw [smD_up, if_pos hp]
  constructor
  · intro ⟨h1, h2, h3⟩
    refine ⟨⟨?_, fun j hj hn z => ?_⟩, ⟨fun j hj hn => ?_, fun i j hij hj hi hn z => ?_⟩, h3⟩
    · have := h1 p hp; rw [up] at this; exact this
    · rcases Nat.lt_trichotomy j p with q | q | q
      · exact h2 j p q hp (by rw [up, ne j hn]; exact z)
      · exact hn q
      · exact h2 p j q hj (by rw [up, ne j hn]; exact z.symm)
    · have := h1 j hj; rw [ne j hn] at this; exact this
    · exact h2 i j hij hj (by rw [ne i hi, ne j hn]; exact z)
  · intro ⟨⟨h1, h2⟩, ⟨h3, h4⟩, h5⟩
    refine ⟨fun i hi => ?_, fun i j hij hj z => ?_, h5⟩
    · by_cases q : i = p
      · subst q; rw [up]; exact h1
      · rw [ne i q]; exact h3 i hi q
    · by_cases q : i = p
      · subst q
        rw [up, ne j (by omega)] at z
        exact h2 j hj (by omega) z.symm
      · by_cases q2 : j = p
        · subst q2
          rw [up, ne i q] at z
          exact h2 i (by omega) q z
        · rw [ne i q, ne j q2] at z
          exact h4 i j hij hj q q2 z
end SLP
set_option maxRecDepth 100000 in
theorem bi_not9 : ∀ a, a < 31 → ∀ b, b < 31 → (decide (a = 0) || (decide (b = 0) || decide ((biS (nI a) ^^^ (-1)) &&& biS (nI b) = if a = b then 0 else biS (nI b)))) = true := by decide +kernel
theorem inS_not9 {u : Int32} {a b : Nat} (a1 : 1 ≤ a) (a2 : a ≤ 30) (b1 : 1 ≤ b) (b2 : b ≤ 30) : inS (u &&& (biS (nI a) ^^^ (-1))) (nI b) = (inS u (nI b) && decide (¬ a = b)) := by
  have h := bi_not9 a (by omega) b (by omega)
  rw [decide_eq_false (show ¬ a = 0 by omega), decide_eq_false (show ¬ b = 0 by omega), Bool.false_or, Bool.false_or] at h
  have h2 := of_decide_eq_true h
  have e : inS (u &&& (biS (nI a) ^^^ (-1))) (nI b) = !decide ((u &&& (biS (nI a) ^^^ (-1))) &&& biS (nI b) = 0) := rfl
  have e2 : inS u (nI b) = !decide (u &&& biS (nI b) = 0) := rfl
  rw [e, e2, Int32.and_assoc, h2]
  by_cases q : a = b
  · rw [if_pos q, Int32.and_zero, decide_eq_true rfl, decide_eq_false (show ¬ ¬ a = b from fun z => z q), Bool.and_false]; rfl
  · rw [if_neg q, decide_eq_true q, Bool.and_true]
/-- the parts' numbers as longs -/
noncomputable def fxL (d : Nat) : Int64 := 2329089562800 / Int32.toInt64 (nI d)
set_option maxRecDepth 100000 in
theorem fxL_t : ∀ d, d < 31 → (decide (d = 0) || (decide (¬ lg_cmp (fxL d) 1 < 0) && (decide (¬ fxL d = 0) && (decide (lg_cmp (2329089562800 - 2329089562800 / fxL d * fxL d) 0 = 0) && (decide (lg_cmp (2329089562800 / fxL d) 30 ≤ 0) && decide (Int64.toInt32 (2329089562800 / fxL d) = nI d)))))) = true := by decide +kernel
theorem fxL_q {y : Int64} (h1 : 1 ≤ y.toInt) (h2 : lg_cmp (2329089562800 - 2329089562800 / y * y) 0 = 0) (h3 : lg_cmp (2329089562800 / y) 30 ≤ 0) : ∃ d : Nat, 1 ≤ d ∧ d ≤ 30 ∧ y.toInt = pt d := by
  have eL : (2329089562800 : Int64).toInt = 2329089562800 := rfl
  have z0 : (0 : Int64).toInt = 0 := rfl
  have z30 : (30 : Int64).toInt = 30 := rfl
  have iy := i64 y
  rw [lg_cmp_eq] at h2
  rw [lg_cmp_le] at h3
  have hq : (2329089562800 / y : Int64).toInt = 2329089562800 / y.toInt := by
    rw [Int64.toInt_div_of_ne_left _ _ (by decide), eL, Int.tdiv_eq_ediv_of_nonneg (by decide)]
  have a1 : 0 ≤ 2329089562800 / y.toInt := Int.ediv_nonneg (by decide) (by omega)
  have hm : 2329089562800 / y.toInt * y.toInt ≤ 2329089562800 := Int.ediv_mul_le _ (by omega)
  have hm0 : 0 ≤ 2329089562800 / y.toInt * y.toInt := Int.mul_nonneg a1 (by omega)
  have em : (2329089562800 / y * y : Int64).toInt = 2329089562800 / y.toInt * y.toInt := tl_mul9 hq rfl (by omega)
  have er : (2329089562800 - 2329089562800 / y * y : Int64).toInt = 2329089562800 - 2329089562800 / y.toInt * y.toInt := tl_sub eL em (by omega)
  have h0 := cl_eq er z0 h2
  have h30 := cl_le hq z30 h3
  have q1 : 1 ≤ 2329089562800 / y.toInt := Int.not_lt.mp (fun z => by
    have e : 2329089562800 / y.toInt = 0 := by omega
    rw [e] at h0
    omega)
  refine ⟨(2329089562800 / y.toInt).toNat, by omega, by omega, ?_⟩
  obtain ⟨-, -, p3⟩ := pt_b (d := (2329089562800 / y.toInt).toNat) (by omega) (by omega)
  have en : (((2329089562800 / y.toInt).toNat : Nat) : Int) = 2329089562800 / y.toInt := by omega
  rw [en] at p3
  have e2 : y.toInt * (2329089562800 / y.toInt) = pt (2329089562800 / y.toInt).toNat * (2329089562800 / y.toInt) := by
    rw [p3, Int.mul_comm]; omega
  exact Int.eq_of_mul_eq_mul_right (by omega) e2
end PT16x13
section PT16x14
/-! ===== what fits in a place of a row, the scribe's; whether it is a row, the reference's ===== -/
/-- the tray's first n numbers are the slices D -/
noncomputable def clD (J : Jm) (o n : Nat) (D : Nat → Nat) : Prop := ∀ i, i < n → Int64.toInt32 (J o i) = nI (D i) ∧ 1 ≤ D i ∧ D i ≤ 30
section FXA
variable {I : Im} {J : Jm} {R : Rm} {Q : Qt}
theorem px_fixAt9 {dd o n p : Nat} {K : Int32} {v : Int64} {l : Int} {D : Nat → Nat} (hO : isO 112 o 10 = true) (hn : n ≤ 8) (hp : p < n) (hK : 0 ≤ K.toInt) (hv : v.toInt = l) (hl : -1000000000000000 ≤ l ∧ l ≤ 1000000000000000) (hD : clD J (o + 1) n D) (hY : ∀ d, 1 ≤ d → d ≤ 30 → RowP K (upD D p d) n l → Q (nI d) 0 I J R) (hN : (∀ d, 1 ≤ d → d ≤ 30 → ¬ RowP K (upD D p d) n l) → Q (-1) 0 I J R) : AM (dd + 2) 87 112 [.ref o, .int (nI n), .int (nI p), .int K, .long v] I J R Q := by
  obtain ⟨a1, l1, -⟩ := fa_10_2 hO
  refine am_X8_fixAt (fun P hc => sg_X8_fixAt_0 hc _ _ _ _ _ _ _ _ ?_)
  have hDb : ∀ m, m ≤ n → ∀ i, i < m → 1 ≤ D i ∧ D i ≤ 30 := fun m hm i hi => (hD i (by omega)).2
  have L80 : ∀ (u : Int32) (r : Int64), 0 ≤ u.toInt → (∀ d, 1 ≤ d → d ≤ 30 → (inS u (nI d) = true ↔ inS K (nI d) = true ∧ ∀ j, j < n → ¬ j = p → ¬ D j = d)) → r.toInt = l - smX D p n → (∀ j, j < n → ¬ j = p → inS K (nI (D j)) = true) → (∀ i j, i < j → j < n → ¬ i = p → ¬ j = p → ¬ D i = D j) → P 80 112 [(6, .int u), (7, .long r)] [] I J R := by
    intro u r hu hm hr h3 h4
    have row : ∀ d, 1 ≤ d → d ≤ 30 → (RowP K (upD D p d) n l ↔ inS u (nI d) = true ∧ r.toInt = pt d) := fun d d1 d2 => by
      rw [RowP_up hp, hm d d1 d2]
      constructor
      · intro ⟨z1, _, z3⟩; exact ⟨z1, by omega⟩
      · intro ⟨z1, z2⟩; exact ⟨z1, ⟨h3, h4⟩, by omega⟩
    have one : (1 : Int64).toInt = 1 := rfl
    by_cases q : ∃ d : Nat, 1 ≤ d ∧ d ≤ 30 ∧ r.toInt = pt d
    · obtain ⟨d, d1, d2, e⟩ := q
      have er : r = fxL d := Int64.toInt_inj.mp (by rw [e]; exact (ptL d (by omega) d1).2.1.symm)
      have t := fxL_t d (by omega)
      rw [decide_eq_false (show ¬ d = 0 by omega), Bool.false_or, Bool.and_eq_true, Bool.and_eq_true, Bool.and_eq_true, Bool.and_eq_true] at t
      obtain ⟨t1, t2, t3, t4, t5⟩ := t
      have t1 := of_decide_eq_true t1
      have t2 := of_decide_eq_true t2
      have t3 := of_decide_eq_true t3
      have t4 := of_decide_eq_true t4
      have t5 := of_decide_eq_true t5
      rw [← er] at t1 t2 t3 t4 t5
      refine sg_X8_fixAt_80 hc _ _ _ _ _ ⟨fun c => absurd c t1, fun _ => ⟨t2, fun c => absurd t3 c, fun _ => ⟨t2, fun _ => ⟨t2, ?_⟩, fun c => absurd t4 c⟩⟩⟩
      rw [t5]
      have un : ∀ d2', 1 ≤ d2' → d2' ≤ 30 → r.toInt = pt d2' → d2' = d := fun x x1 x2 ex => pt_in x1 x2 d1 d2 (ex.symm.trans e)
      refine px_isIn (fun hi _ => ⟨fun z => absurd z (by decide), fun _ => hY d d1 d2 ((row d d1 d2).mpr ⟨hi, e⟩)⟩) (fun hi _ => ⟨fun _ => hN (fun x x1 x2 z => ?_), fun z => absurd rfl z⟩)
      obtain ⟨z1, z2⟩ := (row x x1 x2).mp z
      rw [un x x1 x2 z2, hi] at z1
      cases z1
    · have fin := hN (fun d d1 d2 z => q ⟨d, d1, d2, ((row d d1 d2).mp z).2⟩)
      refine sg_X8_fixAt_80 hc _ _ _ _ _ ⟨fun _ => fin, fun c1 => ?_⟩
      rw [lg_cmp_lt] at c1
      have r1 : 1 ≤ r.toInt := cl_nlt rfl one c1
      have r0 : ¬ r = 0 := fun z => by
        rw [z] at r1
        exact absurd r1 (by decide)
      exact ⟨r0, fun _ => fin, fun c2 => ⟨r0, fun c3 => absurd (fxL_q r1 c2 c3) q, fun _ => fin⟩⟩
  have L10 : ∀ (f : Nat) (u : Int32) (r : Int64), f ≤ n → 0 ≤ u.toInt → (∀ d, 1 ≤ d → d ≤ 30 → (inS u (nI d) = true ↔ inS K (nI d) = true ∧ ∀ j, j < n - f → ¬ j = p → ¬ D j = d)) → r.toInt = l - smX D p (n - f) → (∀ j, j < n - f → ¬ j = p → inS K (nI (D j)) = true) → (∀ i j, i < j → j < n - f → ¬ i = p → ¬ j = p → ¬ D i = D j) → P 10 112 [(0, .ref o), (1, .int (nI n)), (2, .int (nI p)), (6, .int u), (7, .long r), (9, .int (nI (n - f)))] [] I J R := by
    intro f
    induction f with
    | zero =>
      intro u r _ hu hm hr h3 h4
      exact sg_X8_fixAt_10 hc _ _ _ _ _ _ _ _ _ ⟨fun _ => L80 u r hu hm hr h3 h4, fun c => absurd ((nle_nI (b := n - 0) (by omega) (by omega)).mpr (by omega)) c⟩
    | succ f ih =>
      intro u r hf hu hm hr h3 h4
      have en : nI (n - (f + 1)) + 1 = nI (n - f) := by rw [nI_k1]; exact congrArg nI (by omega)
      have es : smX D p (n - f) = smX D p (n - (f + 1)) + (if n - (f + 1) = p then 0 else pt (D (n - (f + 1)))) := by
        rw [show n - f = n - (f + 1) + 1 by omega]; rfl
      have hb := smX_b (D := D) (p := p) (n - (f + 1)) (hDb _ (by omega))
      refine sg_X8_fixAt_10 hc _ _ _ _ _ _ _ _ _ ⟨fun c => absurd ((nle_nI (by omega) (by omega)).mp c) (by omega), fun _ => ⟨fun c => absurd ((nle_nI (a := 60) (by omega) (by omega)).mp c) (by omega), fun _ => ⟨fun c => ?_, fun c => ?_⟩⟩⟩
      · have ep : n - (f + 1) = p := nI_inj (by omega) (by omega) c
        rw [en]
        refine ih u r (by omega) hu (fun d d1 d2 => ?_) ?_ (fun j hj hjp => h3 j (by omega) hjp) (fun i j hij hj hi hjp => h4 i j hij (by omega) hi hjp)
        · rw [hm d d1 d2]
          constructor
          · intro ⟨z1, z2⟩; exact ⟨z1, fun j hj hjp => z2 j (by omega) hjp⟩
          · intro ⟨z1, z2⟩; exact ⟨z1, fun j hj hjp => z2 j (by omega) hjp⟩
        · rw [es, if_pos ep, hr]; omega
      · have ep : ¬ n - (f + 1) = p := fun z => c (congrArg nI z)
        obtain ⟨dv, d1, d2⟩ := hD (n - (f + 1)) (by omega)
        refine bif_t hO (bif_t a1 ⟨by rw [l1]; exact vp_nI (by omega) (by omega), ?_⟩)
        rw [tn_nI (by omega), dv]
        generalize hd : D (n - (f + 1)) = d at dv d1 d2 ⊢
        obtain ⟨p1, p2, -⟩ := pt_b d1 d2
        refine px_isIn (fun hi _ => ⟨fun _ => w_X11_bit (px_cr1 d1 d2 (fun y hy => ?_)), fun z => absurd z (by decide)⟩) (fun hi _ => ⟨fun z => absurd rfl z, fun _ => hN (fun x x1 x2 z => ?_)⟩)
        · rw [en]
          obtain ⟨k1, k2⟩ := (hm d d1 d2).mp hi
          have eu : u &&& ((1 <<< ((nI d - 1) &&& 31)) ^^^ (-1)) = u &&& (biS (nI d) ^^^ (-1)) := rfl
          rw [eu]
          refine ih _ (r - y) (by omega) (an_ge hu) (fun x x1 x2 => ?_) ?_ (fun j hj hjp => ?_) (fun i j hij hj hi2 hjp => ?_)
          · rw [inS_not9 d1 d2 x1 x2, Bool.and_eq_true, decide_eq_true_eq, hm x x1 x2]
            constructor
            · intro ⟨⟨z1, z2⟩, z3⟩
              refine ⟨z1, fun j hj hjp => ?_⟩
              by_cases y : j = n - (f + 1)
              · subst y; rw [hd]; exact z3
              · exact z2 j (by omega) hjp
            · intro ⟨z1, z2⟩
              refine ⟨⟨z1, fun j hj hjp => z2 j (by omega) hjp⟩, fun z3 => ?_⟩
              exact z2 (n - (f + 1)) (by omega) ep (by rw [hd]; exact z3)
          · rw [es, if_neg ep, hd]
            exact (tl_sub hr hy (by omega)).trans (by omega)
          · by_cases y : j = n - (f + 1)
            · subst y; rw [hd]; exact k1
            · exact h3 j (by omega) hjp
          · by_cases y : j = n - (f + 1)
            · subst y; rw [hd]; exact k2 i (by omega) hi2
            · exact h4 i j hij (by omega) hi2 hjp
        · obtain ⟨-, ⟨z3, z4⟩, -⟩ := (RowP_up hp).mp z
          have kd := z3 (n - (f + 1)) (by omega) ep
          rw [hd] at kd
          have hh : inS u (nI d) = true := (hm d d1 d2).mpr ⟨kd, fun j hj hjp y => z4 j (n - (f + 1)) hj (by omega) hjp ep (by rw [hd]; exact y)⟩
          rw [hi] at hh
          cases hh
  have k := L10 n K v (Nat.le_refl _) hK (fun d d1 d2 => ⟨fun z => ⟨z, fun j hj => absurd hj (by omega)⟩, fun z => z.1⟩) (by rw [Nat.sub_self]; show v.toInt = l - 0; omega) (fun j hj => absurd hj (by omega)) (fun i j hij hj => absurd hj (by omega))
  rw [Nat.sub_self] at k
  exact k
end FXA
end PT16x14
