section PT7x8
theorem RM.mean {I I1 I2 : Im} {J J1 J2 : Jm} {R : Rm} (hR : RI R) (h : RM I J R) (a : HN (R 1 7) (R 1 8) (I (R 1 7) 4) (I (R 1 7) 2) (J (R 1 7 + 2)) I J I1 J1) (k : K8 I1 J1 I2 J2) : RM I2 J2 R := by
  have b2 := k.mn
  have f0 : I1 102 0 = I (R 1 7) 4 := by rw [a.2.2.2.2.2.2.1]; exact h.1.1.symm
  have f3 : I1 102 3 = I (R 1 7) 2 := by rw [a.2.2.2.2.2.2.1]; have := h.1.2.1; rw [Nat.zero_add] at this; exact this.symm
  rw [f0, f3] at b2
  exact RM.now (now_9 hR) (by have := hR.rp.1; omega) rfl h a b2 (h.eqN a.2.2.2.2.2.1)
end PT7x8
