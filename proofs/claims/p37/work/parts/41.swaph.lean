section PT7x5
/-- no row of ints is written by these -/
noncomputable def nil8 : List Nat := [3, 5, 6, 7, 8, 9, 10, 11, 12, 13, 16, 20, 22, 25, 26, 28, 39, 44, 45, 52, 57, 59, 60, 61, 62, 63, 64, 65, 66, 67, 68, 69, 70, 71, 72, 73, 80, 81, 87, 91, 92, 93, 95, 96, 97, 98, 100, 101, 102, 103, 104, 105, 106, 107, 110, 111, 112, 113, 114, 115, 116, 117, 125, 126, 133, 143, 145, 149, 150, 151, 152, 153, 154, 155, 156, 157, 158, 159, 160, 161, 162, 163, 164, 165, 166, 167, 168, 169, 170, 171, 173, 174, 175, 176, 177, 178, 179, 180, 182, 183, 184, 185, 186, 187, 188, 189, 190, 191, 192, 193, 194, 195, 196, 197, 198, 199, 200, 201, 202, 203, 204, 205, 206, 207, 208, 209, 210, 211, 212, 213, 214, 215, 216, 217, 218, 219, 220, 221, 222, 223, 224, 226, 227, 238, 239, 240, 241, 242, 243, 244, 245, 246, 247, 248, 249, 250, 251, 252, 253, 254, 255, 256, 274, 282, 283, 284, 285, 286, 287, 288, 296, 300, 301, 302, 303, 304, 309, 314, 319, 320]
set_option maxRecDepth 100000 in
theorem nil8_t : NiT nil8 := NiT.of (by decide +kernel)
theorem kti {d mi n : Nat} {as : List Value} {I : Im} {J : Jm} {R : Rm} {Q : Qt} (hd : nil8.elem mi = true) (h : AM d mi n as I J R (fun x y I' J' R' => I' 102 = I 102 → Q x y I' J' R')) : AM d mi n as I J R Q :=
  AM_m d _ _ _ _ _ _ _ _ (fun x y I' J' R' q => q.2 (q.1 102 rfl)) (AM_i nil8_t d mi n as I J R _ hd h)
/-- men, names, what is known: now and kept -/
noncomputable def K8 (I : Im) (J : Jm) (I2 : Im) (J2 : Jm) : Prop := KA I I2 ∧ Knm I J I2 J2 ∧ KC I I2
end PT7x5
section PT7x6
/-! ===== men, names, what is known: both sides alike ===== -/
theorem cI_ne {I : Im} {a0 a1 p q m c : Nat} (h : ¬ c = a1) : cI I a0 a1 p q m c = I c := if_neg h
theorem cJ_ne {J : Jm} {a0 a1 p q m c : Nat} (h : ¬ c = a1) : cJ J a0 a1 p q m c = J c := if_neg h
theorem cJ_at {J : Jm} {a0 a1 m k : Nat} (h : k < m) : cJ J a0 a1 0 0 m a1 k = J a0 k := by
  unfold cJ va_cpy
  rw [if_pos rfl, if_pos (by omega)]
  exact congrArg (J a0) (by omega)
theorem cI_at {I : Im} {a0 a1 m k : Nat} (h : k < m) : cI I a0 a1 0 0 m a1 k = I a0 k := by
  unfold cI va_cpy
  rw [if_pos rfl, if_pos (by omega)]
  exact congrArg (I a0) (by omega)
noncomputable def KB (C : Nat → Int32) (N : Nat → Int64) (c n o : Nat) (I : Im) (J : Jm) : Prop := I o 4 = C c ∧ I o 2 = C (c + 3) ∧ ∀ k : Nat, k < 6 → (k : Int) < (C c).toInt → J (o + 2) k = N (n + k)
noncomputable def RM (I : Im) (J : Jm) (R : Rm) : Prop := KB (I 102) (J 104) 0 0 (R 1 7) I J ∧ ∀ j : Nat, j < 3 → (j : Int) < (I 97 23).toInt → KB (I 102) (J 104) (324 * (j + 1)) (6 * (j + 1)) (61 + 12 * j) I J
theorem bk_in {o : Nat} (h : isO 112 o 0 = true) : o ∈ BKL := by
  rcases o_9 o (o_lt h) h with q | q | q | q | q <;> subst q <;> decide
theorem bk_nm {I I2 : Im} {J J2 : Jm} (h : Knm I J I2 J2) : ∀ c, c ∈ BKL → J2 (c + 2) = J (c + 2) := fun c hc => by
  have : c = 9 ∨ c = 15 ∨ c = 61 ∨ c = 73 ∨ c = 85 := by simpa [BKL] using hc
  rcases this with q | q | q | q | q <;> subst q
  · exact h.1
  · exact h.2.1
  · exact h.2.2.1
  · exact h.2.2.2.1
  · exact h.2.2.2.2.1
theorem now_bk {R : Rm} (hR : RI R) : R 1 7 ∈ BKL := bk_in hR.now.1
theorem kb_bk {j : Nat} (hj : j < 3) : 61 + 12 * j ∈ BKL := by
  rcases (show j = 0 ∨ j = 1 ∨ j = 2 by omega) with q | q | q <;> subst q <;> decide
theorem pK0 : pK 0 := Or.inl rfl
theorem pK3 : pK 3 := Or.inr (Or.inl rfl)
theorem pKj {j : Nat} (hj : j < 3) : pK (324 * (j + 1)) ∧ pK (324 * (j + 1) + 3) := by
  constructor <;> unfold pK <;> omega
theorem KB.kp {c n o : Nat} {I I2 : Im} {J J2 : Jm} (h : KB (I 102) (J 104) c n o I J) (k : K8 I J I2 J2) (ho : o ∈ BKL) (h1 : pK c) (h2 : pK (c + 3)) : KB (I2 102) (J2 104) c n o I2 J2 := by
  obtain ⟨a1, a2, a3⟩ := h
  obtain ⟨k1, k2, k3⟩ := k
  obtain ⟨e1, e2⟩ := k1.1 o ho
  refine ⟨by rw [e1, k3 _ h1]; exact a1, by rw [e2, k3 _ h2]; exact a2, fun i h6 hi => ?_⟩
  rw [k3 _ h1] at hi
  rw [bk_nm k2 o ho, k2.2.2.2.2.2]
  exact a3 i h6 hi
theorem RM.kp {I I2 : Im} {J J2 : Jm} {R : Rm} (hR : RI R) (h : RM I J R) (k : K8 I J I2 J2) : RM I2 J2 R := by
  refine ⟨h.1.kp k (now_bk hR) pK0 pK3, fun j hj hm => ?_⟩
  rw [k.1.2] at hm
  exact (h.2 j hj hm).kp k (kb_bk hj) (pKj hj).1 (pKj hj).2
theorem RM.r {I : Im} {J : Jm} {R R2 : Rm} (h : RM I J R) (e : R2 1 7 = R 1 7) : RM I J R2 := by
  unfold RM at h ⊢
  rw [e]; exact h
/-- the class has changed the bakery at o (that which is now, then) and perhaps the one at e -/
noncomputable def HN (o e : Nat) (m k : Int32) (N : Nat → Int64) (I : Im) (J : Jm) (I1 : Im) (J1 : Jm) : Prop := I1 o 4 = m ∧ I1 o 2 = k ∧ J1 (o + 2) = N ∧ (∀ c, c ∈ BKL → ¬ c = o → ¬ c = e → I1 c 4 = I c 4 ∧ I1 c 2 = I c 2) ∧ (∀ c, c ∈ BKL → ¬ c = o → ¬ c = e → J1 (c + 2) = J (c + 2)) ∧ J1 104 = J 104 ∧ I1 102 = I 102 ∧ I1 97 23 = I 97 23
/-- the reference has changed its first block -/
noncomputable def MN (m k : Int32) (N : Nat → Int64) (I : Im) (J : Jm) (I2 : Im) (J2 : Jm) : Prop := I2 102 0 = m ∧ I2 102 3 = k ∧ (∀ i, i < 6 → J2 104 i = N i) ∧ (∀ j, pK j → 6 ≤ j → I2 102 j = I 102 j) ∧ (∀ i, 6 ≤ i → i < 24 → J2 104 i = J 104 i) ∧ (∀ c, c ∈ BKL → I2 c 4 = I c 4 ∧ I2 c 2 = I c 2) ∧ (∀ c, c ∈ BKL → J2 (c + 2) = J (c + 2)) ∧ (I2 97 23).toInt ≤ (I 97 23).toInt
theorem bk_six {c : Nat} (h : c ∈ BKL) : c = 9 ∨ c = 15 ∨ c = 61 ∨ c = 73 ∨ c = 85 := by simpa [BKL] using h
theorem K8.mn {I I2 : Im} {J J2 : Jm} (k : K8 I J I2 J2) : MN (I 102 0) (I 102 3) (J 104) I J I2 J2 := by
  obtain ⟨k1, k2, k3⟩ := k
  exact ⟨k3 0 pK0, k3 3 pK3, fun i _ => by rw [k2.2.2.2.2.2], fun j hj _ => k3 j hj, fun i _ _ => by rw [k2.2.2.2.2.2], k1.1, bk_nm k2, Int.le_of_eq (congrArg Int32.toInt k1.2)⟩
theorem RM.now {o e : Nat} {m k : Int32} {N N2 : Nat → Int64} {I I1 I2 : Im} {J J1 J2 : Jm} {R R2 : Rm} (ho : o = 9 ∨ o = 15) (he : e < 61) (h7 : R2 1 7 = o) (h : RM I J R) (h1 : HN o e m k N I J I1 J1) (h2 : MN m k N2 I1 J1 I2 J2) (eN : ∀ i : Nat, i < 6 → (i : Int) < m.toInt → N i = N2 i) : RM I2 J2 R2 := by
  obtain ⟨a1, a2, a3, a4, a5, a6, a7, a8⟩ := h1
  obtain ⟨b1, b2, b3, b4, b5, b6, b7, b8⟩ := h2
  have n7 : o ∈ BKL := by rcases ho with q | q <;> subst q <;> decide
  unfold RM
  rw [h7]
  refine ⟨⟨?_, ?_, fun i h6 hi => ?_⟩, fun j hj hm => ?_⟩
  · rw [(b6 _ n7).1, a1, b1]
  · rw [(b6 _ n7).2, a2]; exact b2.symm
  · rw [b1] at hi
    rw [b7 _ n7, a3, Nat.zero_add, b3 i h6]
    exact eN i h6 hi
  · rw [a8] at b8
    obtain ⟨c1, c2, c3⟩ := h.2 j hj (by omega)
    have hk := kb_bk hj
    have hne : ¬ 61 + 12 * j = o := by omega
    have hnf : ¬ 61 + 12 * j = e := by omega
    have p0 := b4 _ (pKj hj).1 (by omega)
    have p3 := b4 _ (pKj hj).2 (by omega)
    refine ⟨?_, ?_, fun i h6 hi => ?_⟩
    · rw [(b6 _ hk).1, (a4 _ hk hne hnf).1, p0, a7]; exact c1
    · rw [(b6 _ hk).2, (a4 _ hk hne hnf).2, p3, a7]; exact c2
    · rw [p0, a7] at hi
      rw [b7 _ hk, a5 _ hk hne hnf, b5 _ (by omega) (by omega), a6]
      exact c3 i h6 hi
theorem now_9 {R : Rm} (hR : RI R) : R 1 7 = 9 ∨ R 1 7 = 15 := hR.rp.1.elim (fun q => Or.inl q.1) (fun q => Or.inr q.1)
/-! a share, a slice, a man -/
theorem ile {a b : Int32} : ¬ b < a ↔ a ≤ b := by
  rw [Int32.lt_iff_toInt_lt, Int32.le_iff_toInt_le]; omega
noncomputable def sh (p q : Int32) : Prop := ((1 : Int32) ≤ p ∧ p ≤ 99) ∧ ((1 : Int32) ≤ q ∧ q ≤ 30)
theorem px_isShare {d : Nat} {Q : Qt} {p q : Int32} {I : Im} {J : Jm} {R : Rm} (hY : sh p q → Q 1 0 I J R) (hN : ¬ sh p q → Q 0 0 I J R) : AM (d + 1) 162 112 [.int p, .int q] I J R Q := by
  refine w_X11_isShare ⟨fun c => ⟨Or.inl rfl, hN (fun z => ile.mpr z.1.1 c)⟩, fun c1 => ⟨fun c => ⟨Or.inl rfl, hN (fun z => ile.mpr z.1.2 c)⟩, fun c2 => ⟨fun c => ⟨Or.inl rfl, hN (fun z => ile.mpr z.2.1 c)⟩, fun c3 => ⟨fun c => ⟨Or.inl rfl, hN (fun z => ile.mpr z.2.2 c)⟩, fun c4 => ⟨Or.inr rfl, hY ⟨⟨ile.mp c1, ile.mp c2⟩, ⟨ile.mp c3, ile.mp c4⟩⟩⟩⟩⟩⟩⟩
theorem px_mShare {d : Nat} {Q : Qt} {p q : Int32} {I : Im} {J : Jm} {R : Rm} (hY : sh p q → Q 1 0 I J R) (hN : ¬ sh p q → Q 0 0 I J R) : AM (d + 2) 242 112 [.int p, .int q] I J R Q := by
  refine w_X12_isShare (px_isInI (lo := 1) (hi := 99) (fun l1 l2 _ => ⟨fun c => absurd c (by decide), fun _ => px_isInI (lo := 1) (hi := 30) (fun l3 l4 _ => ⟨fun c => absurd c (by decide), fun _ => ⟨Or.inr rfl, hY ⟨⟨l1, l2⟩, ⟨l3, l4⟩⟩⟩⟩) (fun z _ => ⟨fun _ => ⟨Or.inl rfl, hN (fun y => z.elim (fun x => ile.mpr y.2.1 x) (fun x => x y.2.2))⟩, fun c => absurd rfl c⟩)⟩) (fun z _ => ⟨fun _ => ⟨Or.inl rfl, hN (fun y => z.elim (fun x => ile.mpr y.1.1 x) (fun x => x y.1.2))⟩, fun c => absurd rfl c⟩))
end PT7x6
