/-! ===== owe(): what it answers ===== -/
noncomputable def owP (m v p q : Int32) : Prop := ((0 : Int32) ≤ v ∧ v < m) ∧ sh p q
