section PT15x7
section W9M
variable {I I1 I2 : Im} {J J1 J2 : Jm} {R : Rm} {C : Nat → Int32} {a b : Nat}
noncomputable def HBb9 (R : Rm) (I I1 : Im) : Prop := (¬ (1 : Int32) ≤ I 1 13 ∧ I1 = uI I 1 0 (I1 1 0)) ∨ ∃ m : Nat, m < 3 ∧ I 1 13 = nI (m + 1) ∧ (∀ c, ¬ c = 1 → ¬ (R 1 7 ≤ c ∧ c ≤ R 1 7 + 5) → ¬ (R 1 9 ≤ c ∧ c ≤ R 1 9 + 5) → I1 c = I c) ∧ CpB9 (R 1 7) (61 + 12 * m) I I1 ∧ CpD9 (R 1 9) (67 + 12 * m) I I1
theorem cx_back9 {d : Nat} (hB : Bd I) (hR : RI R) : AM (d + 3) 148 112 [.ref 1] I J R (fun _ _ I2 _ _ => HBb9 R I I2) := by
  have hO := hR.now.1
  have n7 := now_9 hR
  have n9 := n9_p hR
  obtain ⟨b0, b3⟩ := bd13 hB
  refine w_X11_back ⟨fun c3 => ?_, fun c3 => w_X11_refuse (Or.inl ⟨c3, uI_self (k := 0)⟩)⟩
  have c3' := c3
  rw [Int32.le_iff_toInt_le, show (1 : Int32).toInt = 1 from rfl] at c3'
  obtain ⟨m, m3, em⟩ : ∃ m : Nat, m < 3 ∧ I 1 13 = nI (m + 1) := by
    refine ⟨(I 1 13).toInt.toNat - 1, by omega, Int32.toInt_inj.mp ?_⟩
    rw [nI_toInt (by omega)]; omega
  have e1 : I 1 13 - 1 = nI m := by rw [em]; exact nI_pred m
  have ek := hR.kb_e m3
  have ed := hR.kd_e m3
  have hk := hR.kb m (by omega)
  have hkd := hR.kd m (by omega)
  rw [rd_eq, e1, tn_nI (by omega)]
  refine ⟨hR.now.2, vp_nI (by omega) (by omega), hk.1, bif_t hO (px_cpB hO hk.2 (by omega) (fun I1 J1 f1 g1 _ _ y1 y3 est en => ?_))⟩
  have i13 : I1 1 13 = nI m := by rw [f1 1 (by omega), rd_eq]
  rw [i13, tn_nI (by omega)]
  refine ⟨hR.plan.2, vp_nI (by omega) (by omega), hkd.1, bif_t hR.plan.1 (px_cpD hR.plan.1 hkd.2 (by omega) ?_ (fun I2 f2 q0 _ q2 qk => ?_))⟩
  · rw [f1 _ (by omega), rd_ne (by first | decide | omega)]; exact plan_b hB hkd.2
  · refine w_X11_answer (Or.inr ⟨m, m3, em, fun c z1 z2 z3 => ?_, ⟨?_, ?_, fun k hk => ?_, fun k hk => ?_⟩, ⟨?_, ?_, fun k hk => ?_⟩⟩)
    · rw [uI_ne z1, f2 c (by omega), f1 c (by omega), uI_ne z1]
    · rw [rd_ne (by first | decide | omega), f2 _ (by omega), y1, rd_ne (by first | decide | omega), ek]
    · rw [rd_ne (by first | decide | omega), f2 _ (by omega), y3, rd_ne (by first | decide | omega), ek]
    · rw [rd_ne (by first | decide | omega), f2 _ (by omega), est k hk, rd_ne (by first | decide | omega), ek]
    · obtain ⟨-, w1, w2, w3⟩ := en k hk
      rw [rd_ne (by first | decide | omega), rd_ne (by first | decide | omega), rd_ne (by first | decide | omega), f2 _ (by omega), f2 _ (by omega), f2 _ (by omega), w1, w2, w3, rd_ne (by first | decide | omega), rd_ne (by first | decide | omega), rd_ne (by first | decide | omega), ek]
      exact ⟨rfl, rfl, rfl⟩
    · rw [rd_ne (by first | decide | omega), q0, f1 _ (by omega), rd_ne (by first | decide | omega), ed]
    · rw [rd_ne (by first | decide | omega), q2, f1 _ (by omega), rd_ne (by first | decide | omega), ed]
    · obtain ⟨w1, w2, w3, w4, w5⟩ := qk k hk
      rw [rd_ne (by first | decide | omega), rd_ne (by first | decide | omega), rd_ne (by first | decide | omega), rd_ne (by first | decide | omega), rd_ne (by first | decide | omega), w1, w2, w3, w4, w5, f1 _ (by omega), f1 _ (by omega), f1 _ (by omega), f1 _ (by omega), f1 _ (by omega), rd_ne (by first | decide | omega), rd_ne (by first | decide | omega), rd_ne (by first | decide | omega), rd_ne (by first | decide | omega), rd_ne (by first | decide | omega), ed]
      exact ⟨rfl, rfl, rfl, rfl, rfl⟩
noncomputable def MBb9 (I I2 : Im) : Prop := (I 97 23 = 0 ∧ (∀ c, ¬ c = 97 → I2 c = I c) ∧ I2 97 23 = I 97 23) ∨ ∃ m : Nat, m < 3 ∧ I 97 23 = nI (m + 1) ∧ I2 97 23 = nI m ∧ (∀ k, k < 324 → I2 102 k = I 102 (324 * (m + 1) + k)) ∧ (∀ k, 324 ≤ k → I2 102 k = I 102 k) ∧ ∀ c, c ≤ 96 → I2 c = I c
theorem mx_back9 {d : Nat} (hB : Bd I) : AM (d + 2) 318 112 [.ref 97] I J R (fun _ _ I2 _ _ => MBb9 I I2) := by
  obtain ⟨b0, b3⟩ := bd23 hB
  have f1 : ∀ c, ¬ c = 97 → uI (uI I 97 1 0) 97 0 0 c = I c := fun c h => (uI_ne h).trans (uI_ne h)
  have g1 : uI (uI I 97 1 0) 97 0 0 97 23 = I 97 23 := (rd_k (by decide)).trans (rd_k (by decide))
  refine w_X12_back ?_
  rw [g1]
  refine ⟨fun c3 => ?_, fun c3 => w_X12_refuse (Or.inl ⟨c3, fun c hc => (uI_ne hc).trans (f1 c hc), (rd_k (by decide)).trans g1⟩)⟩
  obtain ⟨m, m3, em⟩ : ∃ m : Nat, m < 3 ∧ I 97 23 = nI (m + 1) := by
    have n0 : ¬ (I 97 23).toInt = 0 := fun q => c3 (Int32.toInt_inj.mp q)
    refine ⟨(I 97 23).toInt.toNat - 1, by omega, Int32.toInt_inj.mp ?_⟩
    rw [nI_toInt (by omega)]; omega
  rw [em]
  have k1 : (324 : Int32) * 0 = nI (324 * 0) := rfl
  have k2 : (324 : Int32) * nI (m + 1) = nI (324 * (m + 1)) := by rw [show (324 : Int32) = nI 324 from rfl]; exact nI_mul (by omega) (by omega) (by omega)
  have k3 : (6 : Int32) * 0 = nI (6 * 0) := rfl
  have k4 : (6 : Int32) * nI (m + 1) = nI (6 * (m + 1)) := by rw [show (6 : Int32) = nI 6 from rfl]; exact nI_mul (by omega) (by omega) (by omega)
  refine px_copy (f := m + 1) (t := 0) k2 k1 k4 k3 (by omega) (by omega) (by omega) (fun I2 J2 h1 h2 h3 h4 h5 h6 => ?_)
  have e23 : I2 97 23 = nI (m + 1) := by rw [h1 97 (by decide), g1, em]
  have e102 : uI (uI I 97 1 0) 97 0 0 102 = I 102 := f1 102 (by decide)
  rw [e102] at h2 h3
  rw [e23, nI_pred]
  refine Or.inr ⟨m, m3, em, rd_eq, fun k hk => ?_, fun k hk => ?_, fun c hc => ?_⟩
  · rw [rd_ne (by decide)]
    have q := h3 k hk
    rw [Nat.mul_zero, Nat.zero_add] at q
    exact q
  · rw [rd_ne (by decide)]; exact h2 k (by omega)
  · rw [uI_ne (by first | decide | omega), h1 c (by omega)]; exact f1 c (by omega)
theorem W9.back (hB : Bd I) (hR : RI R) (hL : (I 1 13).toInt = (I 97 23).toInt) (h : W9 I R) (h1 : HBb9 R I I1) (h2 : MBb9 I1 I2) : W9 I2 R := by
  have b := bd13 hB
  have n7 := now_9 hR
  have n9 := n9_p hR
  rcases h1 with ⟨n1, eI⟩ | ⟨m, m3, em, kc, cb, cd⟩
  · have c : ∀ k, ¬ k = 1 → I1 k = I k := fun k hk => by rw [eI]; exact uI_ne hk
    have c23 : I1 97 23 = I 97 23 := congrFun (c 97 (by decide)) 23
    rcases h2 with ⟨n2, r1, r2⟩ | ⟨m, m3, em, _⟩
    · exact h.old hR rfl rfl (fun k hk => (r1 k (by omega)).trans (c k (by omega))) (fun j _ => congrFun ((r1 102 (by decide)).trans (c 102 (by decide))) j) (r2.trans c23)
    · rw [c23] at em
      rw [em, nI_toInt (by omega)] at hL
      exact absurd (show (1 : Int32) ≤ I 1 13 by rw [le_i, show (1 : Int32).toInt = 1 from rfl]; omega) n1
  · have c23 : I1 97 23 = I 97 23 := congrFun (kc 97 (by decide) (by omega) (by omega)) 23
    have c102 : I1 102 = I 102 := kc 102 (by decide) (by omega) (by omega)
    rcases h2 with ⟨n2, -, -⟩ | ⟨m2, m32, em2, e23, d1, d2, r1⟩
    · rw [c23] at n2
      rw [n2, em, nI_toInt (by omega), show (0 : Int32).toInt = 0 from rfl] at hL
      omega
    · rw [c23] at em2
      have em' : m2 = m := by
        rw [em, em2, nI_toInt (by omega), nI_toInt (by omega)] at hL
        omega
      subst em'
      rw [c102] at d1 d2
      have hm3 : ((m2 : Nat) : Int) < (I 97 23).toInt := by rw [em2, nI_toInt (by omega)]; omega
      obtain ⟨q1, q2, q3⟩ := h.2 m2 m3 hm3
      refine ⟨?_, fun j hj hm => ?_⟩
      · have w : KW9 (blk9 (324 * (m2 + 1)) I) (R 1 7) (R 1 9) I1 := ⟨q1, q2.cy q1.m.1 cb, q3.cy cd⟩
        exact (w.cg (C2 := I2 102) (fun i hi => d1 i hi)).cp (fun c x y => r1 c (by omega)) (fun c x y => r1 c (by omega))
      · rw [e23, nI_toInt (by omega)] at hm
        have hm4 : (j : Int) < (I 97 23).toInt := by rw [em2, nI_toInt (by omega)]; omega
        exact ((h.2 j hj hm4).cg (C2 := blk9 (324 * (j + 1)) I2) (fun i hi => d2 _ (by omega))).cp (fun c x y => (r1 c (by omega)).trans (kc c (by omega) (by omega) (by omega))) (fun c x y => (r1 c (by omega)).trans (kc c (by omega) (by omega) (by omega)))
end W9M
end PT15x7
