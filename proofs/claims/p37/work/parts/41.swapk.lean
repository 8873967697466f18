section PT7x6
end PT7x6
section PT7x7
/-! ===== what is kept, what comes back ===== -/
theorem ck_ne {I : Im} {a0 a1 p q m c k : Nat} (h : ¬ c = a1) : cI I a0 a1 p q m c k = I c k := congrFun (cI_ne h) k
theorem px_cpB {d : Nat} {Q : Qt} {o s : Nat} {I : Im} {J : Jm} {R : Rm} (hO : isO 112 o 0 = true) (hS : isO 112 s 0 = true) (hne : s + 5 < o ∨ o + 5 < s)
    (hQ : ∀ I2 J2, (∀ c, ¬ (o ≤ c ∧ c ≤ o + 5) → I2 c = I c) → (∀ c, ¬ c = o + 2 → J2 c = J c) → I2 o 4 = I s 4 → I2 o 2 = I s 2 → I2 o 1 = I s 1 → I2 o 3 = I s 3 → (∀ k, k < 31 → I2 (o + 1) k = I (s + 1) k) → (∀ k, k < 6 → J2 (o + 2) k = J (s + 2) k ∧ I2 (o + 3) k = I (s + 3) k ∧ I2 (o + 4) k = I (s + 4) k ∧ I2 (o + 5) k = I (s + 5) k) → Q 0 0 I2 J2 R) : AM (d + 1) 2 112 [.ref o, .ref s] I J R Q := by
  obtain ⟨a1, l1, -⟩ := fa_0_0 hO
  obtain ⟨a2, l2, -⟩ := fa_0_5 hO
  obtain ⟨a3, l3, -⟩ := fa_0_6 hO
  obtain ⟨a4, l4, -⟩ := fa_0_7 hO
  obtain ⟨a5, l5, -⟩ := fa_0_8 hO
  obtain ⟨b1, k1, -⟩ := fa_0_0 hS
  obtain ⟨b2, k2, -⟩ := fa_0_5 hS
  obtain ⟨b3, k3, -⟩ := fa_0_6 hS
  obtain ⟨b4, k4, -⟩ := fa_0_7 hS
  obtain ⟨b5, k5, -⟩ := fa_0_8 hS
  have t0 : Int32.toNatClampNeg 0 = 0 := rfl
  have t6 : Int32.toNatClampNeg 6 = 6 := rfl
  have t31 : Int32.toNatClampNeg (Int32.ofNat 31) = 31 := rfl
  have n0 : ¬ (0 : Int32) < 0 := by decide
  have n6 : ¬ (6 : Int32) < 0 := by decide
  have n31 : ¬ (Int32.ofNat 31 : Int32) < 0 := by decide
  refine w_X0_copyFrom ?_
  simp only [hO, hS, a1, a2, a3, a4, a5, b1, b2, b3, b4, b5, l1, l2, l3, l4, l5, k1, k2, k3, k4, k5, t0, t6, t31, Bool.and_self, cond_true]
  refine ⟨⟨n0, n0, n31, by decide, by decide⟩, ⟨n0, n0, n6, by decide, by decide⟩, ⟨n0, n0, n6, by decide, by decide⟩, ⟨n0, n0, n6, by decide, by decide⟩, ⟨n0, n0, n6, by decide, by decide⟩, ?_⟩
  refine hQ _ _ (fun c hc => ?_) (fun c hc => cJ_ne hc) ?_ ?_ ?_ ?_ (fun k hk => ?_) (fun k hk => ⟨cJ_at hk, ?_, ?_, ?_⟩)
  · rw [cI_ne (by omega), cI_ne (by omega), cI_ne (by omega), uI_ne (by first | decide | omega), uI_ne (by first | decide | omega), uI_ne (by first | decide | omega), uI_ne (by first | decide | omega), cI_ne (by omega)]
  · rw [ck_ne (by omega), ck_ne (by omega), ck_ne (by omega), rd_eq, rd_ne (by first | decide | omega), rd_ne (by first | decide | omega), rd_ne (by first | decide | omega), ck_ne (by omega)]
  · rw [ck_ne (by omega), ck_ne (by omega), ck_ne (by omega), rd_k (by decide), rd_k (by decide), rd_eq, rd_ne (by first | decide | omega), ck_ne (by omega)]
  · rw [ck_ne (by omega), ck_ne (by omega), ck_ne (by omega), rd_k (by decide), rd_k (by decide), rd_k (by decide), rd_eq, ck_ne (by omega)]
  · rw [ck_ne (by omega), ck_ne (by omega), ck_ne (by omega), rd_k (by decide), rd_eq, rd_ne (by first | decide | omega), rd_ne (by first | decide | omega), ck_ne (by omega)]
  · rw [ck_ne (by omega), ck_ne (by omega), ck_ne (by omega), rd_ne (by first | decide | omega), rd_ne (by first | decide | omega), rd_ne (by first | decide | omega), rd_ne (by first | decide | omega), cI_at hk]
  · rw [ck_ne (by omega), ck_ne (by omega), cI_at hk, rd_ne (by first | decide | omega), rd_ne (by first | decide | omega), rd_ne (by first | decide | omega), rd_ne (by first | decide | omega), ck_ne (by omega)]
  · rw [ck_ne (by omega), cI_at hk, ck_ne (by omega), rd_ne (by first | decide | omega), rd_ne (by first | decide | omega), rd_ne (by first | decide | omega), rd_ne (by first | decide | omega), ck_ne (by omega)]
  · rw [cI_at hk, ck_ne (by omega), ck_ne (by omega), rd_ne (by first | decide | omega), rd_ne (by first | decide | omega), rd_ne (by first | decide | omega), rd_ne (by first | decide | omega), ck_ne (by omega)]
theorem px_cpD {d : Nat} {Q : Qt} {o s : Nat} {I : Im} {J : Jm} {R : Rm} (hO : isO 112 o 2 = true) (hS : isO 112 s 2 = true) (hne : s + 5 < o ∨ o + 5 < s) (hb : I s 0 = 0 ∨ I s 0 = 1)
    (hQ : ∀ I2, (∀ c, ¬ (o ≤ c ∧ c ≤ o + 5) → I2 c = I c) → I2 o 0 = I s 0 → I2 o 1 = I s 1 → I2 o 2 = I s 2 → (∀ k, k < 60 → I2 (o + 1) k = I (s + 1) k ∧ I2 (o + 2) k = I (s + 2) k ∧ I2 (o + 3) k = I (s + 3) k ∧ I2 (o + 4) k = I (s + 4) k ∧ I2 (o + 5) k = I (s + 5) k) → Q 0 0 I2 J R) : AM (d + 1) 29 112 [.ref o, .ref s] I J R Q := by
  obtain ⟨a1, l1, -⟩ := fa_2_3 hO
  obtain ⟨a2, l2, -⟩ := fa_2_4 hO
  obtain ⟨a3, l3, -⟩ := fa_2_5 hO
  obtain ⟨a4, l4, -⟩ := fa_2_6 hO
  obtain ⟨a5, l5, -⟩ := fa_2_7 hO
  obtain ⟨b1, k1, -⟩ := fa_2_3 hS
  obtain ⟨b2, k2, -⟩ := fa_2_4 hS
  obtain ⟨b3, k3, -⟩ := fa_2_5 hS
  obtain ⟨b4, k4, -⟩ := fa_2_6 hS
  obtain ⟨b5, k5, -⟩ := fa_2_7 hS
  have t0 : Int32.toNatClampNeg 0 = 0 := rfl
  have t6 : Int32.toNatClampNeg 60 = 60 := rfl
  have n0 : ¬ (0 : Int32) < 0 := by decide
  have n6 : ¬ (60 : Int32) < 0 := by decide
  refine w_X2_copyFrom ?_
  simp only [hO, hS, a1, a2, a3, a4, a5, b1, b2, b3, b4, b5, l1, l2, l3, l4, l5, k1, k2, k3, k4, k5, t0, t6, Bool.and_self, cond_true]
  refine ⟨hb, ⟨n0, n0, n6, by decide, by decide⟩, ⟨n0, n0, n6, by decide, by decide⟩, ⟨n0, n0, n6, by decide, by decide⟩, ⟨n0, n0, n6, by decide, by decide⟩, ⟨n0, n0, n6, by decide, by decide⟩, ?_⟩
  refine hQ _ (fun c hc => ?_) ?_ ?_ ?_ (fun k hk => ⟨?_, ?_, ?_, ?_, ?_⟩)
  · rw [cI_ne (by omega), cI_ne (by omega), cI_ne (by omega), cI_ne (by omega), cI_ne (by omega), uI_ne (by first | decide | omega), uI_ne (by first | decide | omega), uI_ne (by first | decide | omega)]
  · rw [ck_ne (by omega), ck_ne (by omega), ck_ne (by omega), ck_ne (by omega), ck_ne (by omega), rd_k (by decide), rd_k (by decide), rd_eq]
  · rw [ck_ne (by omega), ck_ne (by omega), ck_ne (by omega), ck_ne (by omega), ck_ne (by omega), rd_k (by decide), rd_eq, rd_ne (by first | decide | omega)]
  · rw [ck_ne (by omega), ck_ne (by omega), ck_ne (by omega), ck_ne (by omega), ck_ne (by omega), rd_eq, rd_ne (by first | decide | omega), rd_ne (by first | decide | omega)]
  · rw [ck_ne (by omega), ck_ne (by omega), ck_ne (by omega), ck_ne (by omega), cI_at hk, rd_ne (by first | decide | omega), rd_ne (by first | decide | omega), rd_ne (by first | decide | omega)]
  · rw [ck_ne (by omega), ck_ne (by omega), ck_ne (by omega), cI_at hk, ck_ne (by omega), rd_ne (by first | decide | omega), rd_ne (by first | decide | omega), rd_ne (by first | decide | omega)]
  · rw [ck_ne (by omega), ck_ne (by omega), cI_at hk, ck_ne (by omega), ck_ne (by omega), rd_ne (by first | decide | omega), rd_ne (by first | decide | omega), rd_ne (by first | decide | omega)]
  · rw [ck_ne (by omega), cI_at hk, ck_ne (by omega), ck_ne (by omega), ck_ne (by omega), rd_ne (by first | decide | omega), rd_ne (by first | decide | omega), rd_ne (by first | decide | omega)]
  · rw [cI_at hk, ck_ne (by omega), ck_ne (by omega), ck_ne (by omega), ck_ne (by omega), rd_ne (by first | decide | omega), rd_ne (by first | decide | omega), rd_ne (by first | decide | omega)]
theorem RI.kb_e {R : Rm} (h : RI R) {j : Nat} (hj : j < 3) : R 33 j = 61 + 12 * j := h.rp.2.2.1 j hj
theorem RI.kd_e {R : Rm} (h : RI R) {j : Nat} (hj : j < 3) : R 34 j = 67 + 12 * j := h.rp.2.2.2 j hj
noncomputable def HMk (o : Nat) (I : Im) (J : Jm) (x : Int32) (I1 : Im) (J1 : Jm) : Prop := (¬ I 1 13 < 3 ∧ x = -1 ∧ HN o 0 (I o 4) (I o 2) (J (o + 2)) I J I1 J1) ∨ ∃ m : Nat, m < 3 ∧ I 1 13 = nI m ∧ x = nI (m + 1) ∧ (I1 (61 + 12 * m) 4 = I o 4 ∧ I1 (61 + 12 * m) 2 = I o 2 ∧ ∀ k, k < 6 → J1 (61 + 12 * m + 2) k = J (o + 2) k) ∧ (∀ c, c ∈ BKL → ¬ c = 61 + 12 * m → I1 c 4 = I c 4 ∧ I1 c 2 = I c 2) ∧ (∀ c, c ∈ BKL → ¬ c = 61 + 12 * m → J1 (c + 2) = J (c + 2)) ∧ J1 104 = J 104 ∧ I1 102 = I 102 ∧ I1 97 23 = I 97 23
theorem bd13 {I : Im} (hB : Bd I) : 0 ≤ (I 1 13).toInt ∧ (I 1 13).toInt ≤ 3 := Bd.o hB io9_112_1_11 bd9_11_13
theorem bd23 {I : Im} (hB : Bd I) : 0 ≤ (I 97 23).toInt ∧ (I 97 23).toInt ≤ 3 := Bd.o hB io9_112_97_12 bd9_12_23
theorem plan_b {I : Im} {p : Nat} (hB : Bd I) (hp : isO 112 p 2 = true) : I p 0 = 0 ∨ I p 0 = 1 := bl_of (Bd.o hB hp bd9_2_0)
theorem cx_mark {d : Nat} {I : Im} {J : Jm} {R : Rm} (hB : Bd I) (hR : RI R) : AM (d + 3) 147 112 [.ref 1] I J R (fun x _ I2 J2 _ => HMk (R 1 7) I J x I2 J2) := by
  have hO := hR.now.1
  have h9 := o_ge hO
  have n9 := now_9 hR
  obtain ⟨b0, b3⟩ := bd13 hB
  obtain ⟨m, em, tm, tn⟩ := nI_o8 (a := 0) b0
  refine w_X11_mark ⟨fun c3 => ?_, fun c3 => w_X11_refuse (Or.inl ⟨c3, rfl, HN.same (fun c hc => uI_ne hc) h9⟩)⟩
  have m3 : m < 3 := by
    rw [Int32.lt_iff_toInt_lt, show (3 : Int32).toInt = 3 from rfl] at c3; omega
  have hk := hR.kb m (by omega)
  have hkd := hR.kd m (by omega)
  have ek := hR.kb_e m3
  have ed := hR.kd_e m3
  have p9 : R 1 9 = 21 ∨ R 1 9 = 27 := hR.rp.2.1.elim (fun q => Or.inl q.1) (fun q => Or.inr q.1)
  rw [tn]
  refine ⟨vp_of (a := (I 1 13).toInt) rfl b0 (by omega), hk.1, hR.now.2, bif_t hk.2 (px_cpB hk.2 hO (by omega) (fun I1 J1 f1 g1 e4 e2 _ _ _ en => ?_))⟩
  have i13 : I1 1 13 = I 1 13 := by rw [f1 1 (by omega)]
  rw [i13, tn]
  refine ⟨vp_of (a := (I 1 13).toInt) rfl b0 (by omega), hkd.1, hR.plan.2, bif_t hkd.2 (px_cpD hkd.2 hR.plan.1 (by omega) ?_ (fun I2 f2 _ _ _ _ => w_X11_answer (Or.inr ⟨m, m3, em, ?_, ⟨?_, ?_, fun k hk6 => ?_⟩, fun c hc hne => ?_, fun c hc hne => ?_, ?_, ?_, ?_⟩)))⟩
  · rw [f1 (R 1 9) (by omega)]; exact plan_b hB hR.plan.1
  · rw [rd_eq, f2 1 (by omega), i13, em, nI_k1]
  · rw [rd_ne (by first | decide | omega), rd_ne (by first | decide | omega), f2 _ (by omega), ← ek]; exact e4
  · rw [rd_ne (by first | decide | omega), rd_ne (by first | decide | omega), f2 _ (by omega), ← ek]; exact e2
  · rw [← ek]; exact (en k hk6).1
  · have h6 := bk_six hc
    rw [uI_ne (by first | decide | omega), uI_ne (by first | decide | omega), f2 c (by omega), f1 c (by omega)]; exact ⟨rfl, rfl⟩
  · have h6 := bk_six hc
    exact g1 _ (by omega)
  · exact g1 _ (by omega)
  · rw [uI_ne (by decide), uI_ne (by decide), f2 _ (by omega), f1 _ (by omega)]
  · rw [uI_ne (by decide), uI_ne (by decide), f2 _ (by omega), f1 _ (by omega)]
end PT7x7
