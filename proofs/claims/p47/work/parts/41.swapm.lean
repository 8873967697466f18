section PT7x7
noncomputable def MBk (I : Im) (J : Jm) (x : Int32) (I2 : Im) (J2 : Jm) : Prop := (I 97 23 = 0 ∧ x = -1 ∧ MN (I 102 0) (I 102 3) (J 104) I J I2 J2) ∨ ∃ m : Nat, m < 3 ∧ I 97 23 = nI (m + 1) ∧ x = nI m ∧ MN (I 102 (324 * (m + 1))) (I 102 (324 * (m + 1) + 3)) (fun i => J 104 (6 * (m + 1) + i)) I J I2 J2
theorem mx_back {d : Nat} {I : Im} {J : Jm} {R : Rm} (hB : Bd I) : AM (d + 2) 318 112 [.ref 97] I J R (fun x _ I2 J2 _ => MBk I J x I2 J2) := by
  obtain ⟨b0, b3⟩ := bd23 hB
  have f1 : ∀ c, ¬ c = 97 → uI (uI I 97 1 0) 97 0 0 c = I c := fun c h => (uI_ne h).trans (uI_ne h)
  have g1 : uI (uI I 97 1 0) 97 0 0 97 23 = I 97 23 := (rd_k (by decide)).trans (rd_k (by decide))
  refine w_X12_back ?_
  rw [g1]
  refine ⟨fun c3 => ?_, fun c3 => w_X12_refuse (Or.inl ⟨c3, rfl, MN.same (fun c hc => (uI_ne hc).trans (f1 c hc)) ((rd_k (by decide)).trans g1)⟩)⟩
  obtain ⟨m, m3, em⟩ : ∃ m : Nat, m < 3 ∧ I 97 23 = nI (m + 1) := by
    have n0 : ¬ (I 97 23).toInt = 0 := fun q => c3 (Int32.toInt_inj.mp q)
    refine ⟨(I 97 23).toInt.toNat - 1, by omega, Int32.toInt_inj.mp ?_⟩
    rw [nI_toInt (by omega)]; omega
  rw [em]
  have k1 : (324 : Int32) * 0 = nI (324 * 0) := rfl
  have k2 : (324 : Int32) * nI (m + 1) = nI (324 * (m + 1)) := by rw [show (324 : Int32) = nI 324 from rfl]; exact nI_mul (by omega) (by omega) (by omega)
  have k3 : (6 : Int32) * 0 = nI (6 * 0) := rfl
  have k4 : (6 : Int32) * nI (m + 1) = nI (6 * (m + 1)) := by rw [show (6 : Int32) = nI 6 from rfl]; exact nI_mul (by omega) (by omega) (by omega)
  refine px_copy (f := m + 1) (t := 0) k2 k1 k4 k3 (by omega) (by omega) (by omega) (fun I2 J2 h1 h2 h3 h4 h5 h6 => ?_)
  have e23 : I2 97 23 = nI (m + 1) := by rw [h1 97 (by decide), g1, em]
  have e102 : uI (uI I 97 1 0) 97 0 0 102 = I 102 := f1 102 (by decide)
  rw [e102] at h2 h3
  rw [rd_eq, e23, nI_pred]
  refine Or.inr ⟨m, m3, em, rfl, ?_, ?_, fun i hi => ?_, fun j hj h6j => ?_, fun i hi _ => ?_, fun c hc => ?_, fun c hc => ?_, ?_⟩
  · rw [rd_ne (by decide)]; exact (show I2 102 0 = I2 102 (324 * 0 + 0) from rfl).trans (h3 0 (by omega))
  · rw [rd_ne (by decide)]; exact (show I2 102 3 = I2 102 (324 * 0 + 3) from rfl).trans (h3 3 (by omega))
  · exact (show J2 104 i = J2 104 (6 * 0 + i) by rw [Nat.mul_zero, Nat.zero_add]).trans (h6 i hi)
  · unfold pK at hj
    rw [rd_ne (by decide)]; exact h2 j (by omega)
  · exact h5 i (by omega)
  · have q6 := bk_six hc
    rw [uI_ne (by first | decide | omega), h1 c (by omega), f1 c (by omega)]; exact ⟨rfl, rfl⟩
  · have q6 := bk_six hc
    exact h4 _ (by omega)
  · rw [rd_eq, em, nI_toInt (by omega), nI_toInt (by omega)]; omega
theorem RM.back {x x2 : Int32} {I I1 I2 : Im} {J J1 J2 : Jm} {R : Rm} (hB : Bd I) (hR : RI R) (hL : (I 1 13).toInt = (I 97 23).toInt) (h : RM I J R) (h1 : HBk (R 1 7) I J x I1 J1) (h2 : MBk I1 J1 x2 I2 J2) : RM I2 J2 R := by
  have n9 := now_9 hR
  rcases h1 with ⟨n1, x1, a⟩ | ⟨m, m3, em, x1, N, a, eN⟩
  · rcases h2 with ⟨n2, y1, b2⟩ | ⟨m, m3, em, _⟩
    · have f0 : I1 102 0 = I (R 1 7) 4 := by rw [a.2.2.2.2.2.2.1]; exact h.1.1.symm
      have f3 : I1 102 3 = I (R 1 7) 2 := by rw [a.2.2.2.2.2.2.1]; have := h.1.2.1; rw [Nat.zero_add] at this; exact this.symm
      rw [f0, f3] at b2
      exact RM.now n9 (by decide) rfl h a b2 (h.eqN a.2.2.2.2.2.1)
    · rw [a.2.2.2.2.2.2.2] at em
      rw [em, nI_toInt (by omega)] at hL
      exact absurd (show (1 : Int32) ≤ I 1 13 by rw [Int32.le_iff_toInt_le, show (1 : Int32).toInt = 1 from rfl]; omega) n1
  · rcases h2 with ⟨n2, y1, b2⟩ | ⟨m2, m32, em2, y1, b2⟩
    · rw [a.2.2.2.2.2.2.2] at n2
      rw [n2, em, nI_toInt (by omega), show (0 : Int32).toInt = 0 from rfl] at hL
      omega
    · have em' : m2 = m := by
        rw [a.2.2.2.2.2.2.2] at em2
        rw [em, em2, nI_toInt (by omega), nI_toInt (by omega)] at hL
        omega
      subst em'
      obtain ⟨d1, d2, d3⟩ := h.2 m2 m3 (by rw [← hL, em, nI_toInt (by omega)]; omega)
      rw [a.2.2.2.2.2.2.1, ← d1, ← d2] at b2
      refine RM.now n9 (by decide) rfl h a b2 (fun i h6 hi => ?_)
      rw [eN i h6, a.2.2.2.2.2.1]
      rw [d1] at hi
      exact d3 i h6 hi
end PT7x7
