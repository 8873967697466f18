/-! ===== men, names, what is known: both sides alike ===== -/
theorem cI_ne {I : Im} {a0 a1 p q m c : Nat} (h : ¬ c = a1) : cI I a0 a1 p q m c = I c := if_neg h
theorem cJ_ne {J : Jm} {a0 a1 p q m c : Nat} (h : ¬ c = a1) : cJ J a0 a1 p q m c = J c := if_neg h
theorem cJ_at {J : Jm} {a0 a1 m k : Nat} (h : k < m) : cJ J a0 a1 0 0 m a1 k = J a0 k := by
  unfold cJ va_cpy
  rw [if_pos rfl, if_pos (by omega)]
  exact congrArg (J a0) (by omega)
theorem cI_at {I : Im} {a0 a1 m k : Nat} (h : k < m) : cI I a0 a1 0 0 m a1 k = I a0 k := by
  unfold cI va_cpy
  rw [if_pos rfl, if_pos (by omega)]
  exact congrArg (I a0) (by omega)
noncomputable def KB (C : Nat → Int32) (N : Nat → Int64) (c n o : Nat) (I : Im) (J : Jm) : Prop := I o 4 = C c ∧ I o 2 = C (c + 3) ∧ ∀ k : Nat, k < 6 → (k : Int) < (C c).toInt → J (o + 2) k = N (n + k)
noncomputable def RM (I : Im) (J : Jm) (R : Rm) : Prop := KB (I 102) (J 104) 0 0 (R 1 7) I J ∧ ∀ j : Nat, j < 3 → (j : Int) < (I 97 23).toInt → KB (I 102) (J 104) (324 * (j + 1)) (6 * (j + 1)) (61 + 12 * j) I J
theorem bk_in {o : Nat} (h : isO 112 o 0 = true) : o ∈ BKL := by
  rcases o_9 o (o_lt h) h with q | q | q | q | q <;> subst q <;> decide
theorem bk_nm {I I2 : Im} {J J2 : Jm} (h : Knm I J I2 J2) : ∀ c, c ∈ BKL → J2 (c + 2) = J (c + 2) := fun c hc => by
  have : c = 9 ∨ c = 15 ∨ c = 61 ∨ c = 73 ∨ c = 85 := by simpa [BKL] using hc
  rcases this with q | q | q | q | q <;> subst q
  · exact h.1
  · exact h.2.1
  · exact h.2.2.1
  · exact h.2.2.2.1
  · exact h.2.2.2.2.1
theorem now_bk {R : Rm} (hR : RI R) : R 1 7 ∈ BKL := bk_in hR.now.1
theorem kb_bk {j : Nat} (hj : j < 3) : 61 + 12 * j ∈ BKL := by
  rcases (show j = 0 ∨ j = 1 ∨ j = 2 by omega) with q | q | q <;> subst q <;> decide
theorem pK0 : pK 0 := Or.inl rfl
theorem pK3 : pK 3 := Or.inr (Or.inl rfl)
theorem pKj {j : Nat} (hj : j < 3) : pK (324 * (j + 1)) ∧ pK (324 * (j + 1) + 3) := by
  constructor <;> unfold pK <;> omega
theorem KB.kp {c n o : Nat} {I I2 : Im} {J J2 : Jm} (h : KB (I 102) (J 104) c n o I J) (k : K8 I J I2 J2) (ho : o ∈ BKL) (h1 : pK c) (h2 : pK (c + 3)) : KB (I2 102) (J2 104) c n o I2 J2 := by
  obtain ⟨a1, a2, a3⟩ := h
  obtain ⟨k1, k2, k3⟩ := k
  obtain ⟨e1, e2⟩ := k1.1 o ho
  refine ⟨by rw [e1, k3 _ h1]; exact a1, by rw [e2, k3 _ h2]; exact a2, fun i h6 hi => ?_⟩
  rw [k3 _ h1] at hi
  rw [bk_nm k2 o ho, k2.2.2.2.2.2]
  exact a3 i h6 hi
theorem RM.kp {I I2 : Im} {J J2 : Jm} {R : Rm} (hR : RI R) (h : RM I J R) (k : K8 I J I2 J2) : RM I2 J2 R := by
  refine ⟨h.1.kp k (now_bk hR) pK0 pK3, fun j hj hm => ?_⟩
  rw [k.1.2] at hm
  exact (h.2 j hj hm).kp k (kb_bk hj) (pKj hj).1 (pKj hj).2
theorem RM.r {I : Im} {J : Jm} {R R2 : Rm} (h : RM I J R) (e : R2 1 7 = R 1 7) : RM I J R2 := by
  unfold RM at h ⊢
  rw [e]; exact h
/-- the class has changed the bakery at o (that which is now, then) and perhaps the one at e -/
noncomputable def HN (o e : Nat) (m k : Int32) (N : Nat → Int64) (I : Im) (J : Jm) (I1 : Im) (J1 : Jm) : Prop := I1 o 4 = m ∧ I1 o 2 = k ∧ J1 (o + 2) = N ∧ (∀ c, c ∈ BKL → ¬ c = o → ¬ c = e → I1 c 4 = I c 4 ∧ I1 c 2 = I c 2) ∧ (∀ c, c ∈ BKL → ¬ c = o → ¬ c = e → J1 (c + 2) = J (c + 2)) ∧ J1 104 = J 104 ∧ I1 102 = I 102 ∧ I1 97 23 = I 97 23
/-- the reference has changed its first block -/
noncomputable def MN (m k : Int32) (N : Nat → Int64) (I : Im) (J : Jm) (I2 : Im) (J2 : Jm) : Prop := I2 102 0 = m ∧ I2 102 3 = k ∧ (∀ i, i < 6 → J2 104 i = N i) ∧ (∀ j, pK j → 6 ≤ j → I2 102 j = I 102 j) ∧ (∀ i, 6 ≤ i → i < 24 → J2 104 i = J 104 i) ∧ (∀ c, c ∈ BKL → I2 c 4 = I c 4 ∧ I2 c 2 = I c 2) ∧ (∀ c, c ∈ BKL → J2 (c + 2) = J (c + 2)) ∧ (I2 97 23).toInt ≤ (I 97 23).toInt
theorem bk_six {c : Nat} (h : c ∈ BKL) : c = 9 ∨ c = 15 ∨ c = 61 ∨ c = 73 ∨ c = 85 := by simpa [BKL] using h
theorem K8.mn {I I2 : Im} {J J2 : Jm} (k : K8 I J I2 J2) : MN (I 102 0) (I 102 3) (J 104) I J I2 J2 := by
  obtain ⟨k1, k2, k3⟩ := k
  exact ⟨k3 0 pK0, k3 3 pK3, fun i _ => by rw [k2.2.2.2.2.2], fun j hj _ => k3 j hj, fun i _ _ => by rw [k2.2.2.2.2.2], k1.1, bk_nm k2, Int.le_of_eq (congrArg Int32.toInt k1.2)⟩
theorem RM.now {o e : Nat} {m k : Int32} {N N2 : Nat → Int64} {I I1 I2 : Im} {J J1 J2 : Jm} {R R2 : Rm} (ho : o = 9 ∨ o = 15) (he : e < 61) (h7 : R2 1 7 = o) (h : RM I J R) (h1 : HN o e m k N I J I1 J1) (h2 : MN m k N2 I1 J1 I2 J2) (eN : ∀ i : Nat, i < 6 → (i : Int) < m.toInt → N i = N2 i) : RM I2 J2 R2 := by
  obtain ⟨a1, a2, a3, a4, a5, a6, a7, a8⟩ := h1
  obtain ⟨b1, b2, b3, b4, b5, b6, b7, b8⟩ := h2
  have n7 : o ∈ BKL := by rcases ho with q | q <;> subst q <;> decide
  unfold RM
  rw [h7]
  refine ⟨⟨?_, ?_, fun i h6 hi => ?_⟩, fun j hj hm => ?_⟩
  · rw [(b6 _ n7).1, a1, b1]
  · rw [(b6 _ n7).2, a2]; exact b2.symm
  · rw [b1] at hi
    rw [b7 _ n7, a3, Nat.zero_add, b3 i h6]
    exact eN i h6 hi
  · rw [a8] at b8
    obtain ⟨c1, c2, c3⟩ := h.2 j hj (by omega)
    have hk := kb_bk hj
    have hne : ¬ 61 + 12 * j = o := by omega
    have hnf : ¬ 61 + 12 * j = e := by omega
    have p0 := b4 _ (pKj hj).1 (by omega)
    have p3 := b4 _ (pKj hj).2 (by omega)
    refine ⟨?_, ?_, fun i h6 hi => ?_⟩
    · rw [(b6 _ hk).1, (a4 _ hk hne hnf).1, p0, a7]; exact c1
    · rw [(b6 _ hk).2, (a4 _ hk hne hnf).2, p3, a7]; exact c2
    · rw [p0, a7] at hi
      rw [b7 _ hk, a5 _ hk hne hnf, b5 _ (by omega) (by omega), a6]
      exact c3 i h6 hi
theorem now_9 {R : Rm} (hR : RI R) : R 1 7 = 9 ∨ R 1 7 = 15 := hR.rp.1.elim (fun q => Or.inl q.1) (fun q => Or.inr q.1)
/-! a share, a slice, a man -/
theorem ile {a b : Int32} : ¬ b < a ↔ a ≤ b := by
  rw [Int32.lt_iff_toInt_lt, Int32.le_iff_toInt_le]; omega
noncomputable def sh (p q : Int32) : Prop := ((1 : Int32) ≤ p ∧ p ≤ 99) ∧ ((1 : Int32) ≤ q ∧ q ≤ 30)
theorem px_isShare {d : Nat} {Q : Qt} {p q : Int32} {I : Im} {J : Jm} {R : Rm} (hY : sh p q → Q 1 0 I J R) (hN : ¬ sh p q → Q 0 0 I J R) : AM (d + 1) 162 112 [.int p, .int q] I J R Q := by
  refine w_X11_isShare ⟨fun c => ⟨Or.inl rfl, hN (fun z => ile.mpr z.1.1 c)⟩, fun c1 => ⟨fun c => ⟨Or.inl rfl, hN (fun z => ile.mpr z.1.2 c)⟩, fun c2 => ⟨fun c => ⟨Or.inl rfl, hN (fun z => ile.mpr z.2.1 c)⟩, fun c3 => ⟨fun c => ⟨Or.inl rfl, hN (fun z => ile.mpr z.2.2 c)⟩, fun c4 => ⟨Or.inr rfl, hY ⟨⟨ile.mp c1, ile.mp c2⟩, ⟨ile.mp c3, ile.mp c4⟩⟩⟩⟩⟩⟩⟩
theorem px_mShare {d : Nat} {Q : Qt} {p q : Int32} {I : Im} {J : Jm} {R : Rm} (hY : sh p q → Q 1 0 I J R) (hN : ¬ sh p q → Q 0 0 I J R) : AM (d + 2) 242 112 [.int p, .int q] I J R Q := by
  refine w_X12_isShare (px_isInI (lo := 1) (hi := 99) (fun l1 l2 _ => ⟨fun c => absurd c (by decide), fun _ => px_isInI (lo := 1) (hi := 30) (fun l3 l4 _ => ⟨fun c => absurd c (by decide), fun _ => ⟨Or.inr rfl, hY ⟨⟨l1, l2⟩, ⟨l3, l4⟩⟩⟩⟩) (fun z _ => ⟨fun _ => ⟨Or.inl rfl, hN (fun y => z.elim (fun x => ile.mpr y.2.1 x) (fun x => x y.2.2))⟩, fun c => absurd rfl c⟩)⟩) (fun z _ => ⟨fun _ => ⟨Or.inl rfl, hN (fun y => z.elim (fun x => ile.mpr y.1.1 x) (fun x => x y.1.2))⟩, fun c => absurd rfl c⟩))
theorem px_mSlice {d : Nat} {Q : Qt} {v : Int32} {I : Im} {J : Jm} {R : Rm} (hY : (1 : Int32) ≤ v → v ≤ 30 → Q 1 0 I J R) (hN : ¬ ((1 : Int32) ≤ v ∧ v ≤ 30) → Q 0 0 I J R) : AM (d + 2) 238 112 [.int v] I J R Q :=
  w_X12_isSlice (px_isInI (lo := 1) (hi := 30) (fun l1 l2 _ => ⟨Or.inr rfl, hY l1 l2⟩) (fun z _ => ⟨Or.inl rfl, hN (fun y => z.elim (fun x => ile.mpr y.1 x) (fun x => x y.2))⟩))
noncomputable def slc (v : Int32) : Prop := (1 : Int32) ≤ v ∧ v ≤ 30
theorem slc_n {v : Int32} (h : v < 1 ∨ 30 < v) : ¬ slc v := fun y => h.elim (fun x => ile.mpr y.1 x) (fun x => ile.mpr y.2 x)
/-! a man more -/
noncomputable def HCm (o : Nat) (p q : Int32) (I : Im) (J : Jm) (x : Int32) (I1 : Im) (J1 : Jm) : Prop := (¬ (sh p q ∧ I o 4 < 6) ∧ x = -1 ∧ HN o 0 (I o 4) (I o 2) (J (o + 2)) I J I1 J1) ∨ (sh p q ∧ I o 4 < 6 ∧ x = I o 4 ∧ HN o 0 (I o 4 + 1) (I o 2) (vp_updL (J (o + 2)) (Int32.toNatClampNeg (I o 4)) 0) I J I1 J1)
noncomputable def MCm (p q : Int32) (I : Im) (J : Jm) (x : Int32) (I2 : Im) (J2 : Jm) : Prop := (¬ (sh p q ∧ ¬ I 102 0 = 6) ∧ x = -1 ∧ MN (I 102 0) (I 102 3) (J 104) I J I2 J2) ∨ (sh p q ∧ ¬ I 102 0 = 6 ∧ x = I 102 0 ∧ MN (I 102 0 + 1) (I 102 3) (vp_updL (J 104) (Int32.toNatClampNeg (I 102 0)) 0) I J I2 J2)
theorem HN.same {o e : Nat} {I I1 : Im} {J : Jm} (h : ∀ c, ¬ c = 1 → I1 c = I c) (h9 : 9 ≤ o) : HN o e (I o 4) (I o 2) (J (o + 2)) I J I1 J :=
  ⟨by rw [h o (by omega)], by rw [h o (by omega)], rfl, fun c hc _ _ => by rw [h c (fun q => by subst q; exact absurd hc (by decide))]; exact ⟨rfl, rfl⟩, fun _ _ _ _ => rfl, rfl, h 102 (by decide), by rw [h 97 (by decide)]⟩
theorem uJ_at {J : Jm} {o m : Nat} {w : Int64} : uJ J o m w o = vp_updL (J o) m w := if_pos rfl
theorem px_addM2 {d : Nat} {Q : Qt} {o m : Nat} {w : Int64} {p q : Int32} {I : Im} {J : Jm} {R : Rm} (hO : isO 112 o 0 = true) (hm : m ≤ 5) (e0 : I o 4 = nI m) (hQ : Q (nI m) 0 (uI (uI (uI (uI I (o + 3) m p) (o + 4) m q) (o + 5) m 0) o 4 (nI m + 1)) (uJ J (o + 2) m w) R) : AM (d + 1) 4 112 [.ref o, .long w, .int p, .int q] I J R Q := by
  refine w_X0_addMan (bif_t hO ?_)
  obtain ⟨hA2, hL2, -⟩ := fa_0_5 hO
  obtain ⟨hA3, hL3, -⟩ := fa_0_6 hO
  obtain ⟨hA4, hL4, -⟩ := fa_0_7 hO
  obtain ⟨hA5, hL5, -⟩ := fa_0_8 hO
  have e1 : uI I (o + 3) m p o 4 = nI m := (rd_ne (by omega)).trans e0
  have e2 : uI (uI I (o + 3) m p) (o + 4) m q o 4 = nI m := (rd_ne (by omega)).trans e1
  have e3 : uI (uI (uI I (o + 3) m p) (o + 4) m q) (o + 5) m 0 o 4 = nI m := (rd_ne (by omega)).trans e2
  have tn : Int32.toNatClampNeg (nI m) = m := tn_nI (by omega)
  rw [e0, tn, e1, tn, e2, tn, e3, rd_eq]
  refine ⟨fun _ => bif_t hO (bif_t hO (bif_t hA2 ⟨vp_nI (by omega) (by omega), bif_t hO (bif_t hO (bif_t hA3 ⟨vp_nI (by omega) (by omega), bif_t hO (bif_t hO (bif_t hA4 ⟨vp_nI (by omega) (by omega), bif_t hO (bif_t hO (bif_t hA5 ⟨vp_nI (by omega) (by omega), bif_t hO (bif_t hO (bif_t hO ?_))⟩))⟩))⟩))⟩)), fun c => absurd ((nlt_nI (b := 6) (by omega) (by omega)).mpr (by omega)) c⟩
  have e5 : nI m + 1 - 1 = nI m := by rw [nI_k1, nI_pred]
  rw [e5]
  exact hQ
theorem cx_come {d : Nat} {p q : Int32} {I : Im} {J : Jm} {R : Rm} (hB : Bd I) (hR : RI R) : AM (d + 3) 124 112 [.ref 1, .int p, .int q] I J R (fun x _ I2 J2 _ => HCm (R 1 7) p q I J x I2 J2) := by
  have hO := hR.now.1
  have h9 := o_ge hO
  have h7 := o_lt hO
  have b4 := Bd.o hB hO (show bnd 0 4 = some _ from rfl)
  refine w_X11_come (px_isShare (fun hs _ => ⟨fun _ => ⟨hR.now.2, bif_t hO ⟨fun c6 => ⟨hR.now.2, bif_t hO ?_⟩, fun c6 => w_X11_refuse (Or.inl ⟨fun z => c6 z.2, rfl, HN.same (fun c hc => uI_ne hc) h9⟩)⟩⟩, fun c => absurd c (by decide)⟩) (fun hs _ => ⟨fun c => absurd rfl c, fun _ => w_X11_refuse (Or.inl ⟨fun z => hs z.1, rfl, HN.same (fun c hc => uI_ne hc) h9⟩)⟩))
  have c6' := c6
  rw [Int32.lt_iff_toInt_lt] at c6'
  have e6 : (6 : Int32).toInt = 6 := rfl
  have tm : ((Int32.toNatClampNeg (I (R 1 7) 4) : Nat) : Int) = (I (R 1 7) 4).toInt := by
    have := tn_of (x := I (R 1 7) 4) rfl b4.1; omega
  have em : I (R 1 7) 4 = nI (Int32.toNatClampNeg (I (R 1 7) 4)) := Int32.toInt_inj.mp (by rw [nI_toInt (by omega)]; omega)
  generalize hm : Int32.toNatClampNeg (I (R 1 7) 4) = m at em tm
  refine px_addM2 hO (m := m) (by omega) em (w_X11_answer (Or.inr ⟨hs, c6, em.symm, ?_⟩))
  have e9 : ∀ c, ¬ c = 1 → ¬ (R 1 7 ≤ c ∧ c ≤ R 1 7 + 5) → uI (uI (uI (uI (uI I (R 1 7 + 3) m p) (R 1 7 + 4) m q) (R 1 7 + 5) m 0) (R 1 7) 4 (nI m + 1)) 1 0 0 c = I c := fun c h1 h2 => (uI_ne h1).trans ((uI_ne (by omega)).trans ((uI_ne (by omega)).trans ((uI_ne (by omega)).trans (uI_ne (by omega)))))
  have hb : ∀ c, c ∈ BKL → ¬ c = R 1 7 → ¬ c = 1 ∧ ¬ (R 1 7 ≤ c ∧ c ≤ R 1 7 + 5) := fun c hc hne => by
    have h1 := bk_six hc
    have h2 := bk_six (now_bk hR)
    omega
  have n97 : R 1 7 + 5 < 97 := by
    have := bk_six (now_bk hR); omega
  refine ⟨?_, ?_, ?_, fun c hc hne _ => ?_, fun c hc hne _ => ?_, ?_, ?_, ?_⟩
  · rw [rd_ne (by omega), rd_eq, ← em]
  · rw [rd_ne (by omega), rd_k (by decide), rd_ne (by omega), rd_ne (by omega), rd_ne (by omega)]
  · rw [uJ_at, hm]
  · rw [e9 c (hb c hc hne).1 (hb c hc hne).2]; exact ⟨rfl, rfl⟩
  · exact uJ_ne (by omega)
  · exact uJ_ne (by omega)
  · exact e9 102 (by decide) (by omega)
  · rw [e9 97 (by decide) (by omega)]
theorem MN.same {I I2 : Im} {J : Jm} (h : ∀ c, ¬ c = 97 → I2 c = I c) (h23 : I2 97 23 = I 97 23) : MN (I 102 0) (I 102 3) (J 104) I J I2 J :=
  ⟨by rw [h 102 (by decide)], by rw [h 102 (by decide)], fun _ _ => rfl, fun _ _ _ => by rw [h 102 (by decide)], fun _ _ _ => rfl, fun c hc => by rw [h c (fun q => by subst q; exact absurd hc (by decide))]; exact ⟨rfl, rfl⟩, fun _ _ => rfl, Int.le_of_eq (congrArg Int32.toInt h23)⟩
/-- a write into the first block beside the men and what is known; the same with a name -/
theorem nI_o8 {v : Int32} {a : Int} (h0 : 0 ≤ v.toInt) : ∃ m : Nat, v = nI m ∧ (m : Int) = v.toInt ∧ Int32.toNatClampNeg v = m := by
  have t := tn_of (x := v) rfl h0
  have hb := i32 v
  refine ⟨Int32.toNatClampNeg v, Int32.toInt_inj.mp ?_, t, rfl⟩
  rw [nI_toInt (by omega)]
  omega
theorem mx_come {d : Nat} {p q : Int32} {I : Im} {J : Jm} {R : Rm} (hB : Bd I) : AM (d + 3) 268 112 [.ref 97, .int p, .int q] I J R (fun x _ I2 J2 _ => MCm p q I J x I2 J2) := by
  obtain ⟨b0, b6⟩ := Bd.men hB
  obtain ⟨m, em, tm, tn⟩ := nI_o8 (a := 0) b0
  have e1 : uI (uI I 97 1 0) 97 0 0 102 = I 102 := (uI_ne (by decide)).trans (uI_ne (by decide))
  have t0 : Int32.toNatClampNeg 0 = 0 := rfl
  have f1 : ∀ c, ¬ c = 97 → uI (uI I 97 1 0) 97 0 0 c = I c := fun c h => (uI_ne h).trans (uI_ne h)
  have g1 : uI (uI I 97 1 0) 97 0 0 97 23 = I 97 23 := (rd_k (by decide)).trans (rd_k (by decide))
  refine w_X12_come (px_mShare (fun hs _ => ⟨fun _ => ⟨vp_of (a := 0) rfl (by decide) (by decide), ?_⟩, fun c => absurd c (by decide)⟩) (fun hs _ => ⟨fun c => absurd rfl c, fun _ => w_X12_refuse (Or.inl ⟨fun z => hs z.1, rfl, MN.same (fun c hc => (uI_ne hc).trans (f1 c hc)) ((rd_k (by decide)).trans g1)⟩)⟩))
  rw [t0, e1]
  refine ⟨fun c6 => ?_, fun c6 => w_X12_refuse (Or.inl ⟨fun z => z.2 c6, rfl, MN.same (fun c hc => (uI_ne hc).trans (f1 c hc)) ((rd_k (by decide)).trans g1)⟩)⟩
  have m5 : m ≤ 5 := by
    rcases Nat.lt_or_ge m 6 with h | h
    · omega
    · exact absurd (em.trans (by rw [show m = 6 by omega]; rfl)) c6
  have k34 : (34 : Int32) + nI m = nI (34 + m) := by rw [show (34 : Int32) = nI 34 from rfl]; exact nI_add 34 m
  have k40 : (40 : Int32) + nI m = nI (40 + m) := by rw [show (40 : Int32) = nI 40 from rfl]; exact nI_add 40 m
  have k46 : (46 : Int32) + nI m = nI (46 + m) := by rw [show (46 : Int32) = nI 46 from rfl]; exact nI_add 46 m
  rw [em, k34, k40, k46, tn_nI (by omega), tn_nI (by omega), tn_nI (by omega), tn_nI (by omega)]
  have hv : uI (uI (uI (uI (uI I 97 1 0) 97 0 0) 102 (34 + m) p) 102 (40 + m) q) 102 (46 + m) 0 102 0 = nI m := (rd_k (by omega)).trans ((rd_k (by omega)).trans ((rd_k (by omega)).trans ((congrFun e1 0).trans em)))
  rw [hv]
  refine ⟨vp_nI (by omega) (by omega), vp_nI (by omega) (by omega), vp_nI (by omega) (by omega), vp_nI (by omega) (by omega), vp_of (a := 0) rfl (by decide) (by decide), vp_of (a := 0) rfl (by decide) (by decide), Or.inr ⟨hs, c6, em.symm, ?_⟩⟩
  have fr : ∀ c, ¬ c = 97 → ¬ c = 102 → uI (uI (uI (uI (uI (uI I 97 1 0) 97 0 0) 102 (34 + m) p) 102 (40 + m) q) 102 (46 + m) 0) 102 0 (nI m + 1) c = I c := fun c h1 h2 => (uI_ne h2).trans ((uI_ne h2).trans ((uI_ne h2).trans ((uI_ne h2).trans (f1 c h1))))
  have fk : ∀ k, ¬ k = 0 → ¬ k = 34 + m → ¬ k = 40 + m → ¬ k = 46 + m → uI (uI (uI (uI (uI (uI I 97 1 0) 97 0 0) 102 (34 + m) p) 102 (40 + m) q) 102 (46 + m) 0) 102 0 (nI m + 1) 102 k = I 102 k := fun k h1 h2 h3 h4 => (rd_k h1).trans ((rd_k h4).trans ((rd_k h3).trans ((rd_k h2).trans (congrFun e1 k))))
  refine ⟨?_, ?_, fun i hi => ?_, fun j hj h6 => ?_, fun i hi _ => ?_, fun c hc => ?_, fun c hc => ?_, ?_⟩
  · rw [rd_eq, em]
  · exact fk 3 (by decide) (by omega) (by omega) (by omega)
  · rw [uJ_at, em, tn_nI (by omega)]
  · unfold pK at hj
    exact fk j (by omega) (by omega) (by omega) (by omega)
  · exact rj_k (by omega)
  · have h6 := bk_six hc
    rw [fr c (by omega) (by omega)]; exact ⟨rfl, rfl⟩
  · have h6 := bk_six hc
    exact uJ_ne (by omega)
  · rw [rd_ne (by decide), rd_ne (by decide), rd_ne (by decide), rd_ne (by decide), g1]; exact Int.le_refl _
theorem RM.eqN {I : Im} {J J1 : Jm} {R : Rm} (h : RM I J R) (e : J1 104 = J 104) : ∀ i : Nat, i < 6 → (i : Int) < (I (R 1 7) 4).toInt → J (R 1 7 + 2) i = J1 104 i := fun i h6 hi => by
  rw [e]
  rw [h.1.1] at hi
  exact (h.1.2.2 i h6 hi).trans (by rw [Nat.zero_add])
theorem RM.come {p q x x2 : Int32} {I I1 I2 : Im} {J J1 J2 : Jm} {R : Rm} (hB : Bd I) (hR : RI R) (h : RM I J R) (h1 : HCm (R 1 7) p q I J x I1 J1) (h2 : MCm p q I1 J1 x2 I2 J2) : RM I2 J2 R ∧ x2 = x := by
  have e0 := h.1.1
  have b := Bd.men hB
  have key : I 102 0 = 6 ↔ ¬ I (R 1 7) 4 < 6 := by
    rw [e0, Int32.lt_iff_toInt_lt, show (6 : Int32).toInt = 6 from rfl, ← Int32.toInt_inj, show (6 : Int32).toInt = 6 from rfl]
    omega
  have f0 : ∀ {m k N}, HN (R 1 7) 0 m k N I J I1 J1 → I1 102 0 = I (R 1 7) 4 := fun a => by rw [a.2.2.2.2.2.2.1]; exact e0.symm
  have f3 : ∀ {m k N}, HN (R 1 7) 0 m k N I J I1 J1 → I1 102 3 = I (R 1 7) 2 := fun a => by rw [a.2.2.2.2.2.2.1]; have := h.1.2.1; rw [Nat.zero_add] at this; exact this.symm
  rcases h1 with ⟨n1, x1, a⟩ | ⟨s1, l1, x1, a⟩
  · have e102 := a.2.2.2.2.2.2.1
    have e104 := a.2.2.2.2.2.1
    rcases h2 with ⟨n2, y1, b2⟩ | ⟨s2, l2, y1, b2⟩
    · rw [f0 a, f3 a] at b2
      exact ⟨RM.now (now_9 hR) (by decide) rfl h a b2 (h.eqN e104), by rw [x1, y1]⟩
    · rw [e102] at l2
      exact absurd ⟨s2, Decidable.not_not.mp (fun z => l2 (key.mpr z))⟩ n1
  · have e102 := a.2.2.2.2.2.2.1
    have e104 := a.2.2.2.2.2.1
    rcases h2 with ⟨n2, y1, b2⟩ | ⟨s2, l2, y1, b2⟩
    · rw [e102] at n2
      exact absurd ⟨s1, fun z => key.mp z l1⟩ n2
    · have e0' : I1 102 0 = I (R 1 7) 4 := f0 a
      rw [e0', f3 a] at b2
      refine ⟨RM.now (now_9 hR) (by decide) rfl h a b2 (fun i h6 hi => ?_), by rw [x1, y1, e0']⟩
      rw [e104]
      unfold vp_updL
      by_cases z : i = Int32.toNatClampNeg (I (R 1 7) 4)
      · rw [if_pos z, if_pos z]
      · rw [if_neg z, if_neg z]
        have l1' := l1
        rw [Int32.lt_iff_toInt_lt, show (6 : Int32).toInt = 6 from rfl] at l1'
        have tn := tn_of (x := I (R 1 7) 4) rfl (by rw [e0]; exact b.1)
        have hs : (I (R 1 7) 4 + 1 : Int32).toInt = (I (R 1 7) 4).toInt + 1 := ti_add rfl (show (1 : Int32).toInt = 1 from rfl) (by rw [e0]; omega)
        rw [hs] at hi
        exact (h.1.2.2 i h6 (by rw [← e0]; omega)).trans (by rw [Nat.zero_add])
/-! what is known -/
noncomputable def HLn (o : Nat) (v w : Int32) (I : Im) (J : Jm) (x : Int32) (I1 : Im) (J1 : Jm) : Prop := (¬ slc v ∧ x = 0 ∧ HN o 0 (I o 4) (I o 2) (J (o + 2)) I J I1 J1) ∨ (slc v ∧ (inS (I o 2) v = true ↔ w = 1) ∧ x = 0 ∧ HN o 0 (I o 4) (I o 2) (J (o + 2)) I J I1 J1) ∨ (slc v ∧ ¬ (inS (I o 2) v = true ↔ w = 1) ∧ x = 1 ∧ HN o 0 (I o 4) (I o 2 ^^^ biS v) (J (o + 2)) I J I1 J1)
noncomputable def MLn (v w : Int32) (I : Im) (J : Jm) (x : Int32) (I2 : Im) (J2 : Jm) : Prop := (¬ slc v ∧ x = 0 ∧ MN (I 102 0) (I 102 3) (J 104) I J I2 J2) ∨ (slc v ∧ (inS (I 102 3) v = true ↔ w = 1) ∧ x = 0 ∧ MN (I 102 0) (I 102 3) (J 104) I J I2 J2) ∨ (slc v ∧ ¬ (inS (I 102 3) v = true ↔ w = 1) ∧ x = 1 ∧ MN (I 102 0) (I 102 3 ^^^ biS v) (J 104) I J I2 J2)
theorem HN.kn {o : Nat} {k : Int32} {I : Im} {J : Jm} (ho : o ∈ BKL) : HN o 0 (I o 4) k (J (o + 2)) I J (uI (uI I o 2 k) 1 0 0) J := by
  have h6 := bk_six ho
  refine ⟨?_, ?_, rfl, fun c hc hne _ => ?_, fun _ _ _ _ => rfl, rfl, ?_, ?_⟩
  · rw [rd_ne (by omega), rd_k (by decide)]
  · rw [rd_ne (by omega), rd_eq]
  · have h7 := bk_six hc
    rw [uI_ne (show ¬ c = 1 by omega), uI_ne hne]; exact ⟨rfl, rfl⟩
  · rw [uI_ne (by decide), uI_ne (by omega)]
  · rw [rd_ne (by decide), rd_ne (by omega)]
theorem cx_learn {d : Nat} {v w : Int32} {I : Im} {J : Jm} {R : Rm} (hw : w = 0 ∨ w = 1) (hR : RI R) : AM (d + 3) 125 112 [.ref 1, .int v, .int w] I J R (fun x _ I2 J2 _ => HLn (R 1 7) v w I J x I2 J2) := by
  have hO := hR.now.1
  have h9 := o_ge hO
  have hin := now_bk hR
  have no : HN (R 1 7) 0 (I (R 1 7) 4) (I (R 1 7) 2) (J (R 1 7 + 2)) I J (uI I 1 0 9) J := HN.same (fun c hc => uI_ne hc) h9
  refine w_X11_learn (px_isSlice (fun l1 l2 _ => ⟨fun _ => ⟨hR.now.2, bif_t hO (px_isIn (fun hi _ => ⟨fun c => ⟨hR.now.2, bif_t hO (w_X11_bit (bif_t hO (w_X11_allow ⟨Or.inr rfl, fun _ => ⟨Or.inr rfl, Or.inr (Or.inr ⟨⟨l1, l2⟩, fun z => c (z.mp hi).symm, rfl, HN.kn hin⟩)⟩⟩)))⟩, fun c => w_X11_deny ⟨Or.inl rfl, fun _ => ⟨Or.inl rfl, Or.inr (Or.inl ⟨⟨l1, l2⟩, ⟨fun _ => c.symm, fun _ => hi⟩, rfl, no⟩)⟩⟩⟩) (fun hi _ => ⟨fun c => ⟨hR.now.2, bif_t hO (w_X11_bit (bif_t hO (w_X11_allow ⟨Or.inr rfl, fun _ => ⟨Or.inr rfl, Or.inr (Or.inr ⟨⟨l1, l2⟩, fun z => ?_, rfl, HN.kn hin⟩)⟩⟩)))⟩, fun c => w_X11_deny ⟨Or.inl rfl, fun _ => ⟨Or.inl rfl, Or.inr (Or.inl ⟨⟨l1, l2⟩, ⟨fun z => ?_, fun z => ?_⟩, rfl, no⟩)⟩⟩⟩))⟩, fun c => absurd c (by decide)⟩) (fun hn _ => ⟨fun c => absurd rfl c, fun _ => w_X11_deny ⟨Or.inl rfl, fun _ => ⟨Or.inl rfl, Or.inl ⟨slc_n hn, rfl, HN.same (fun c hc => uI_ne hc) h9⟩⟩⟩⟩))
  · rcases hw with q | q
    · exact c q.symm
    · rw [z.mpr q] at hi; exact absurd hi (by decide)
  · rw [z] at hi; exact absurd hi (by decide)
  · rw [z] at c; exact absurd c (by decide)
theorem MN.kn {k : Int32} {I : Im} {J : Jm} : MN (I 102 0) k (J 104) I J (uI (uI (uI I 97 1 0) 97 0 0) 102 3 k) J := by
  refine ⟨?_, rd_eq, fun _ _ => rfl, fun j hj h6 => ?_, fun _ _ _ => rfl, fun c hc => ?_, fun _ _ => rfl, ?_⟩
  · rw [rd_k (by decide), rd_ne (by decide), rd_ne (by decide)]
  · rw [rd_k (by omega), rd_ne (by decide), rd_ne (by decide)]
  · have h6 := bk_six hc
    rw [uI_ne (by omega), uI_ne (by omega), uI_ne (by omega)]; exact ⟨rfl, rfl⟩
  · rw [rd_ne (by decide), rd_k (by decide), rd_k (by decide)]; exact Int.le_refl _
theorem mx_learn {d : Nat} {v w : Int32} {I : Im} {J : Jm} {R : Rm} (hB : Bd I) (hw : w = 0 ∨ w = 1) : AM (d + 3) 269 112 [.ref 97, .int v, .int w] I J R (fun x _ I2 J2 _ => MLn v w I J x I2 J2) := by
  have k0 := Bd.known0 hB
  have e1 : uI (uI I 97 1 0) 97 0 0 102 = I 102 := (uI_ne (by decide)).trans (uI_ne (by decide))
  have t3 : Int32.toNatClampNeg 3 = 3 := rfl
  have no : ∀ z : Int32, MN (I 102 0) (I 102 3) (J 104) I J (uI (uI (uI I 97 1 0) 97 0 0) 97 0 z) J := fun z => MN.same (fun c hc => (uI_ne hc).trans ((uI_ne hc).trans (uI_ne hc))) ((rd_k (by decide)).trans ((rd_k (by decide)).trans (rd_k (by decide))))
  have v3 : vp_in 3 1620 := vp_of (a := 3) rfl (by decide) (by decide)
  refine w_X12_learn (px_mSlice (fun l1 l2 _ => ⟨fun _ => ⟨v3, ?_⟩, fun c => absurd c (by decide)⟩) (fun hn _ => ⟨fun c => absurd rfl c, fun _ => w_X12_no ⟨Or.inl rfl, fun _ => ⟨Or.inl rfl, Or.inl ⟨hn, rfl, no 2⟩⟩⟩⟩))
  rw [t3, e1]
  refine px_isOf k0 l1 l2 (fun hi _ => ⟨fun c => ⟨v3, v3, Or.inr rfl, Or.inr (Or.inr ⟨⟨l1, l2⟩, fun z => c (z.mp hi).symm, rfl, MN.kn⟩)⟩, fun c => w_X12_no ⟨Or.inl rfl, fun _ => ⟨Or.inl rfl, Or.inr (Or.inl ⟨⟨l1, l2⟩, ⟨fun _ => c.symm, fun _ => hi⟩, rfl, no 9⟩)⟩⟩⟩) (fun hi _ => ⟨fun c => ⟨v3, v3, Or.inr rfl, Or.inr (Or.inr ⟨⟨l1, l2⟩, fun z => ?_, rfl, MN.kn⟩)⟩, fun c => w_X12_no ⟨Or.inl rfl, fun _ => ⟨Or.inl rfl, Or.inr (Or.inl ⟨⟨l1, l2⟩, ⟨fun z => ?_, fun z => ?_⟩, rfl, no 9⟩)⟩⟩⟩)
  · rcases hw with q | q
    · exact c q.symm
    · rw [z.mpr q] at hi; exact absurd hi (by decide)
  · rw [z] at hi; exact absurd hi (by decide)
  · rw [z] at c; exact absurd c (by decide)
theorem RM.learn {v w x x2 : Int32} {I I1 I2 : Im} {J J1 J2 : Jm} {R : Rm} (hR : RI R) (h : RM I J R) (h1 : HLn (R 1 7) v w I J x I1 J1) (h2 : MLn v w I1 J1 x2 I2 J2) : RM I2 J2 R ∧ x2 = x := by
  have e0 := h.1.1
  have e3 := h.1.2.1
  rw [Nat.zero_add] at e3
  have go : ∀ k k2 : Int32, HN (R 1 7) 0 (I (R 1 7) 4) k (J (R 1 7 + 2)) I J I1 J1 → MN (I1 102 0) k2 (J1 104) I1 J1 I2 J2 → k2 = k → RM I2 J2 R := fun k k2 a b2 ek => by
    have f0 : I1 102 0 = I (R 1 7) 4 := by rw [a.2.2.2.2.2.2.1]; exact e0.symm
    rw [f0, ek] at b2
    exact RM.now (now_9 hR) (by decide) rfl h a b2 (h.eqN a.2.2.2.2.2.1)
  have f3 : ∀ k : Int32, HN (R 1 7) 0 (I (R 1 7) 4) k (J (R 1 7 + 2)) I J I1 J1 → I1 102 3 = I (R 1 7) 2 := fun k a => by rw [a.2.2.2.2.2.2.1]; exact e3.symm
  rcases h1 with ⟨n1, x1, a⟩ | ⟨s1, l1, x1, a⟩ | ⟨s1, l1, x1, a⟩
  · rcases h2 with ⟨n2, y1, b2⟩ | ⟨s2, l2, y1, b2⟩ | ⟨s2, l2, y1, b2⟩
    · exact ⟨go _ _ a b2 (f3 _ a), by rw [x1, y1]⟩
    · exact absurd s2 n1
    · exact absurd s2 n1
  · rcases h2 with ⟨n2, y1, b2⟩ | ⟨s2, l2, y1, b2⟩ | ⟨s2, l2, y1, b2⟩
    · exact absurd s1 n2
    · exact ⟨go _ _ a b2 (f3 _ a), by rw [x1, y1]⟩
    · rw [f3 _ a] at l2; exact absurd l1 l2
  · rcases h2 with ⟨n2, y1, b2⟩ | ⟨s2, l2, y1, b2⟩ | ⟨s2, l2, y1, b2⟩
    · exact absurd s1 n2
    · rw [f3 _ a] at l2; exact absurd l2 l1
    · exact ⟨go _ _ a b2 (by rw [f3 _ a]), by rw [x1, y1]⟩
