/-! ===== the plate: the scribe's table ===== -/
/-! ===== and the reference's ===== -/
noncomputable def rc (f : Nat → Int32) (n : Nat) (N : Im) (M k : Nat) : Prop := M.testBit k = false ∧ smN f n (M ||| 2 ^ k) ≤ 2329089562800 ∧ (N 110 (M ||| 2 ^ k)).toInt < 0
