/-! ===== the latest life, carried ===== -/
section LVC
variable {I I2 : Im}
theorem LV9.kp (h : LV9 I) (k : KL9 I I2) : LV9 I2 := by
  unfold LV9 at h ⊢
  rw [k.1, k.2.1, k.2.2]
  exact h
theorem LV9.start (h : I 97 40 = 0) (h2 : I 49 0 = 0) : LV9 I := ⟨h.trans h2.symm, fun z => absurd h2 z⟩
end LVC
