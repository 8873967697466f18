/-! ===== days(): what it answers ===== -/
theorem dy_v {v : Int32} {f : Nat} (hf : f ≤ 900) : (v < 0 ∨ nI f < v ∨ 300 < v) ∨ ∃ n, n ≤ f ∧ n ≤ 300 ∧ v = nI n := by
  by_cases q : 300 < v
  · exact Or.inl (Or.inr (Or.inr q))
  rcases sp_v (v := v) hf with z | ⟨n, hn, rfl⟩
  · exact Or.inl (z.elim Or.inl (fun y => Or.inr (Or.inl y)))
  · refine Or.inr ⟨n, hn, ?_, rfl⟩
    rcases Nat.lt_or_ge 300 n with z | z
    · exact absurd ((nlt_nI (a := 300) (by omega) (by omega)).mpr z) q
    · exact z
/-- the men's names, by the relation -/
theorem RM.mnA {I : Im} {J : Jm} {R : Rm} (hB : Bd I) (h : RM I J R) : MnA (J 104) (I 102 0).toInt.toNat (R 1 7) I J := by
  have b := Bd.men hB
  refine ⟨by omega, h.1.1.trans (Int32.toInt_inj.mp (by rw [nI_toInt (by omega)]; omega)), fun k hk => ?_⟩
  exact (h.1.2.2 k (by omega) (by omega)).trans (by rw [Nat.zero_add])
theorem RM.mnR {I I1 : Im} {J J1 : Jm} (hB : Bd I) (e0 : I1 102 0 = I 102 0) (e104 : J1 104 = J 104) : MnR (J 104) (I 102 0).toInt.toNat I1 J1 := by
  have b := Bd.men hB
  exact ⟨by omega, e0.trans (Int32.toInt_inj.mp (by rw [nI_toInt (by omega)]; omega)), fun k hk => by rw [e104]⟩
