/-! ===== the relation of stores: small pieces, its start ===== -/
section W9T
variable {I I1 : Im} {J J1 : Jm} {R : Rm}
theorem W9.mm (h : W9 I R) : (I 102 0).toInt = (mnN (I 102) : Int) ∧ mnN (I 102) ≤ 6 := ⟨h.1.1.m.2.2, h.1.1.m.1⟩
theorem FrCk.z102 {o : Nat} (ho : o = 9 ∨ o = 15) (hF : FrCk o I J I1 J1) : I1 102 0 = I 102 0 := hF.1 102 0 (fun q => by rcases q with (q | q | q) | q <;> omega)
theorem W9.start (e7 : R 1 7 = 9) (e9 : R 1 9 = 21) (h : I 9 1 = 4 ∧ I 9 3 = 0 ∧ (∀ k, I 10 k = 0) ∧ I 21 0 = 0 ∧ ∀ k, k < 324 → I 102 k = emC k) (hm : I 97 23 = 0) : W9 I R := by
  obtain ⟨h1, h2, h3, h4, h5⟩ := h
  have em : mnN (I 102) = 0 := by
    unfold mnN
    rw [h5 0 (by omega)]; rfl
  have ed : ∀ d, 1 ≤ d → d ≤ 30 → I 102 (3 + d) = 0 := fun d a b => by
    rw [h5 (3 + d) (by omega)]
    unfold emC
    rw [if_neg (by omega), if_neg (by omega)]
  refine ⟨?_, fun j hj hk => ?_⟩
  · rw [e7, e9]
    refine ⟨⟨⟨0, by omega, h5 0 (by omega)⟩, fun d a b => ?_, fun k hk => ?_⟩, ⟨?_, ?_, fun d a b => ?_, fun k hk => ?_⟩, ?_, fun h0 => ?_⟩
    · rw [ed d a b]; decide
    · rw [em] at hk; omega
    · rw [h1, h5 1 (by omega)]; rfl
    · rw [h2, h5 2 (by omega)]; rfl
    · rw [ed d a b]; exact h3 d
    · rw [em] at hk; omega
    · rw [h4, h5 52 (by omega)]; rfl
    · exact absurd (h5 52 (by omega)) h0
  · rw [hm, show (0 : Int32).toInt = 0 from rfl] at hk
    omega
end W9T
