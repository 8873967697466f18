/-! ===== the reference's rows of slices, exactly ===== -/
section CRR
variable {I : Im} {J : Jm} {R : Rm}
theorem px_parts {d n : Nat} {Q : Qt} (h1 : 1 ≤ n) (h2 : n ≤ 30) (hQ : ∀ y : Int64, y.toInt = pt n → Q 0 y I J R) : AM (d + 1) 240 112 [.int (nI n)] I J R Q :=
  w_X12_partsOf ⟨(ptL n (by omega) h1).2.2, hQ _ (ptL n (by omega) h1).2.1⟩
end CRR
