section PT7x7
noncomputable def MMk (I : Im) (J : Jm) (x : Int32) (I2 : Im) (J2 : Jm) : Prop := (I 97 23 = 3 ∧ x = -1 ∧ MN (I 102 0) (I 102 3) (J 104) I J I2 J2) ∨ ∃ m : Nat, m < 3 ∧ I 97 23 = nI m ∧ x = nI (m + 1) ∧ I2 97 23 = nI (m + 1) ∧ (∀ k, k < 324 → I2 102 (324 * (m + 1) + k) = I 102 k) ∧ (∀ k, (k < 324 * (m + 1) ∨ 324 * (m + 1) + 324 ≤ k) → I2 102 k = I 102 k) ∧ (∀ k, k < 6 → J2 104 (6 * (m + 1) + k) = J 104 k) ∧ (∀ k, (k < 6 * (m + 1) ∨ 6 * (m + 1) + 6 ≤ k) → J2 104 k = J 104 k) ∧ (∀ c, c ∈ BKL → I2 c = I c) ∧ ∀ c, c ∈ BKL → J2 (c + 2) = J (c + 2)
theorem nI_mul {a b : Nat} (h : a * b < 2 ^ 31) (ha : a < 2 ^ 31) (hb : b < 2 ^ 31) : nI a * nI b = nI (a * b) := by
  apply Int32.toInt_inj.mp
  rw [ti_mul (nI_toInt ha) (nI_toInt hb) (by have := Int.natCast_mul a b; omega), nI_toInt h, Int.natCast_mul]
theorem mx_mark {d : Nat} {I : Im} {J : Jm} {R : Rm} (hB : Bd I) : AM (d + 2) 317 112 [.ref 97] I J R (fun x _ I2 J2 _ => MMk I J x I2 J2) := by
  obtain ⟨b0, b3⟩ := bd23 hB
  obtain ⟨m, em, tm, tn⟩ := nI_o8 (a := 0) b0
  have f1 : ∀ c, ¬ c = 97 → uI (uI I 97 1 0) 97 0 0 c = I c := fun c h => (uI_ne h).trans (uI_ne h)
  have g1 : uI (uI I 97 1 0) 97 0 0 97 23 = I 97 23 := (rd_k (by decide)).trans (rd_k (by decide))
  refine w_X12_mark ?_
  rw [g1]
  refine ⟨fun c3 => ?_, fun c3 => w_X12_refuse (Or.inl ⟨c3, rfl, MN.same (fun c hc => (uI_ne hc).trans (f1 c hc)) ((rd_k (by decide)).trans g1)⟩)⟩
  have m3 : m < 3 := by
    rcases Nat.lt_or_ge m 3 with h | h
    · exact h
    · exact absurd (em.trans (by rw [show m = 3 by omega]; rfl)) c3
  rw [em, nI_k1, rd_eq]
  have k1 : (324 : Int32) * 0 = nI (324 * 0) := rfl
  have k2 : (324 : Int32) * nI (m + 1) = nI (324 * (m + 1)) := by rw [show (324 : Int32) = nI 324 from rfl]; exact nI_mul (by omega) (by omega) (by omega)
  have k3 : (6 : Int32) * 0 = nI (6 * 0) := rfl
  have k4 : (6 : Int32) * nI (m + 1) = nI (6 * (m + 1)) := by rw [show (6 : Int32) = nI 6 from rfl]; exact nI_mul (by omega) (by omega) (by omega)
  refine px_copy (f := 0) (t := m + 1) k1 k2 k3 k4 (by omega) (by omega) (by omega) (fun I2 J2 h1 h2 h3 h4 h5 h6 => ?_)
  have e23 : I2 97 23 = nI (m + 1) := by rw [h1 97 (by decide), rd_eq]
  have e102 : uI (uI (uI I 97 1 0) 97 0 0) 97 23 (nI (m + 1)) 102 = I 102 := (uI_ne (by decide)).trans (f1 102 (by decide))
  rw [e23]
  rw [e102] at h2 h3
  refine Or.inr ⟨m, m3, em, rfl, e23, fun k hk => (h3 k hk).trans (by rw [Nat.mul_zero, Nat.zero_add]), h2, fun k hk => (h6 k hk).trans (by rw [Nat.mul_zero, Nat.zero_add]), h5, fun c hc => ?_, fun c hc => ?_⟩
  · have q6 := bk_six hc
    rw [h1 c (by omega), uI_ne (by first | decide | omega)]; exact f1 c (by omega)
  · have q6 := bk_six hc
    exact h4 _ (by omega)
theorem RM.mark {x x2 : Int32} {I I1 I2 : Im} {J J1 J2 : Jm} {R : Rm} (hB : Bd I) (hR : RI R) (hL : (I 1 13).toInt = (I 97 23).toInt) (h : RM I J R) (h1 : HMk (R 1 7) I J x I1 J1) (h2 : MMk I1 J1 x2 I2 J2) : RM I2 J2 R := by
  have b := bd13 hB
  have n9 := now_9 hR
  rcases h1 with ⟨n1, x1, a⟩ | ⟨m, m3, em, x1, ⟨k4, k2, kn⟩, a4, a5, a6, a7, a8⟩
  · rcases h2 with ⟨n2, y1, b2⟩ | ⟨m, m3, em, _⟩
    · have f0 : I1 102 0 = I (R 1 7) 4 := by rw [a.2.2.2.2.2.2.1]; exact h.1.1.symm
      have f3 : I1 102 3 = I (R 1 7) 2 := by rw [a.2.2.2.2.2.2.1]; have := h.1.2.1; rw [Nat.zero_add] at this; exact this.symm
      rw [f0, f3] at b2
      exact RM.now n9 (by decide) rfl h a b2 (h.eqN a.2.2.2.2.2.1)
    · rw [a.2.2.2.2.2.2.2] at em
      rw [em, nI_toInt (by omega)] at hL
      exact absurd (show I 1 13 < 3 by rw [Int32.lt_iff_toInt_lt, show (3 : Int32).toInt = 3 from rfl]; omega) n1
  · rcases h2 with ⟨n2, y1, b2⟩ | ⟨m2, m32, em2, y1, e23, c1, c2, c3, c4, c5, c6⟩
    · rw [a8] at n2
      rw [n2, em, nI_toInt (by omega), show (3 : Int32).toInt = 3 from rfl] at hL
      omega
    · have em' : m2 = m := by
        rw [a8] at em2
        rw [em, em2, nI_toInt (by omega), nI_toInt (by omega)] at hL
        omega
      subst em'
      rw [a7] at c1 c2
      rw [a6] at c3 c4
      have n7 := now_bk hR
      refine ⟨⟨?_, ?_, fun i h6 hi => ?_⟩, fun j hj hm => ?_⟩
      · rw [c5 _ n7, (a4 _ n7 (by omega)).1, c2 0 (by omega)]; exact h.1.1
      · rw [c5 _ n7, (a4 _ n7 (by omega)).2, Nat.zero_add, c2 3 (by omega)]; have := h.1.2.1; rw [Nat.zero_add] at this; exact this
      · rw [c2 0 (by omega)] at hi
        rw [c6 _ n7, a5 _ n7 (by omega), c4 _ (by omega)]
        exact h.1.2.2 i h6 hi
      · rw [e23, nI_toInt (by omega)] at hm
        have hk := kb_bk hj
        by_cases q : j = m2
        · subst q
          refine ⟨?_, ?_, fun i h6 hi => ?_⟩
          · rw [c5 _ hk, k4, show 324 * (j + 1) = 324 * (j + 1) + 0 from rfl, c1 0 (by omega)]; exact h.1.1
          · rw [c5 _ hk, k2, c1 3 (by omega)]; have := h.1.2.1; rw [Nat.zero_add] at this; exact this
          · rw [show 324 * (j + 1) = 324 * (j + 1) + 0 from rfl, c1 0 (by omega)] at hi
            rw [c6 _ hk, kn i h6, c3 i h6]
            exact (h.1.2.2 i h6 hi).trans (by rw [Nat.zero_add])
        · have hm3 : (j : Int) < (I 97 23).toInt := by rw [← hL, em, nI_toInt (by omega)]; omega
          obtain ⟨d1, d2, d3⟩ := h.2 j hj hm3
          refine ⟨?_, ?_, fun i h6 hi => ?_⟩
          · rw [c5 _ hk, (a4 _ hk (by omega)).1, c2 _ (by omega)]; exact d1
          · rw [c5 _ hk, (a4 _ hk (by omega)).2, c2 _ (by omega)]; exact d2
          · rw [c2 _ (by omega)] at hi
            rw [c6 _ hk, a5 _ hk (by omega), c4 _ (by omega)]
            exact d3 i h6 hi
noncomputable def HBk (o : Nat) (I : Im) (J : Jm) (x : Int32) (I1 : Im) (J1 : Jm) : Prop := (¬ (1 : Int32) ≤ I 1 13 ∧ x = -1 ∧ HN o 0 (I o 4) (I o 2) (J (o + 2)) I J I1 J1) ∨ ∃ m : Nat, m < 3 ∧ I 1 13 = nI (m + 1) ∧ x = nI m ∧ ∃ N, HN o 0 (I (61 + 12 * m) 4) (I (61 + 12 * m) 2) N I J I1 J1 ∧ ∀ i, i < 6 → N i = J (61 + 12 * m + 2) i
theorem cx_back {d : Nat} {I : Im} {J : Jm} {R : Rm} (hB : Bd I) (hR : RI R) : AM (d + 3) 148 112 [.ref 1] I J R (fun x _ I2 J2 _ => HBk (R 1 7) I J x I2 J2) := by
  have hO := hR.now.1
  have h9 := o_ge hO
  have n9 := now_9 hR
  obtain ⟨b0, b3⟩ := bd13 hB
  refine w_X11_back ⟨fun c3 => ?_, fun c3 => w_X11_refuse (Or.inl ⟨c3, rfl, HN.same (fun c hc => uI_ne hc) h9⟩)⟩
  have c3' := c3
  rw [Int32.le_iff_toInt_le, show (1 : Int32).toInt = 1 from rfl] at c3'
  obtain ⟨m, m3, em⟩ : ∃ m : Nat, m < 3 ∧ I 1 13 = nI (m + 1) := by
    refine ⟨(I 1 13).toInt.toNat - 1, by omega, Int32.toInt_inj.mp ?_⟩
    rw [nI_toInt (by omega)]; omega
  have e1 : I 1 13 - 1 = nI m := by rw [em]; exact nI_pred m
  have ek := hR.kb_e m3
  have ed := hR.kd_e m3
  have hk := hR.kb m (by omega)
  have hkd := hR.kd m (by omega)
  have p9 : R 1 9 = 21 ∨ R 1 9 = 27 := hR.rp.2.1.elim (fun q => Or.inl q.1) (fun q => Or.inr q.1)
  rw [rd_eq, e1, tn_nI (by omega)]
  refine ⟨hR.now.2, vp_nI (by omega) (by omega), hk.1, bif_t hO (px_cpB hO hk.2 (by omega) (fun I1 J1 f1 g1 e4 e2 _ _ _ en => ?_))⟩
  have i13 : I1 1 13 = nI m := by rw [f1 1 (by omega), rd_eq]
  rw [i13, tn_nI (by omega)]
  refine ⟨hR.plan.2, vp_nI (by omega) (by omega), hkd.1, bif_t hR.plan.1 (px_cpD hR.plan.1 hkd.2 (by omega) ?_ (fun I2 f2 _ _ _ _ => ?_))⟩
  · rw [f1 _ (by omega), rd_ne (by first | decide | omega)]; exact plan_b hB hkd.2
  · rw [f2 1 (by omega), i13]
    refine w_X11_answer (Or.inr ⟨m, m3, em, rfl, J1 (R 1 7 + 2), ⟨?_, ?_, rfl, fun c hc hne _ => ?_, fun c hc hne _ => ?_, ?_, ?_, ?_⟩, fun i hi => ?_⟩)
    · rw [rd_ne (by first | decide | omega), f2 _ (by omega), e4, rd_ne (by first | decide | omega), ek]
    · rw [rd_ne (by first | decide | omega), f2 _ (by omega), e2, rd_ne (by first | decide | omega), ek]
    · have h6 := bk_six hc
      rw [uI_ne (by first | decide | omega), f2 c (by omega), f1 c (by omega), uI_ne (by first | decide | omega)]; exact ⟨rfl, rfl⟩
    · have h6 := bk_six hc
      exact g1 _ (by omega)
    · exact g1 _ (by omega)
    · rw [uI_ne (by decide), f2 _ (by omega), f1 _ (by omega), uI_ne (by decide)]
    · rw [uI_ne (by decide), f2 _ (by omega), f1 _ (by omega), uI_ne (by decide)]
    · rw [(en i hi).1, ek]
noncomputable def MBk (I : Im) (J : Jm) (x : Int32) (I2 : Im) (J2 : Jm) : Prop := (I 97 23 = 0 ∧ x = -1 ∧ MN (I 102 0) (I 102 3) (J 104) I J I2 J2) ∨ ∃ m : Nat, m < 3 ∧ I 97 23 = nI (m + 1) ∧ x = nI m ∧ MN (I 102 (324 * (m + 1))) (I 102 (324 * (m + 1) + 3)) (fun i => J 104 (6 * (m + 1) + i)) I J I2 J2
end PT7x7
