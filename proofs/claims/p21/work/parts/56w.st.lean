/-! ===== both sides' stores and shares at once: HS9 o M s s2: the reference holds s, the class s2 ===== -/
noncomputable def HS9 (o M : Nat) (s s2 : StS9) (du : Du9) (I : Im) : Prop := BkA o M s2 I ∧ BkR M s I ∧ StB M s ∧ StB M s2 ∧ DuA o M du I ∧ DuR M du I ∧ M ≤ 6
section STF
variable {I I2 : Im} {J J2 : Jm} {o M : Nat} {s s2 : StS9} {du : Du9}
theorem BkR.frC (ho : o = 9 ∨ o = 15) (h : BkR M s I) (hF : FrCk o I J I2 J2) : BkR M s I2 := by
  have e : I2 102 = I 102 := hF.c (fun k q => by rcases q with (q | q | q) | q <;> omega)
  unfold BkR
  rw [e]
  exact h
theorem BkA.frM (ho : o = 9 ∨ o = 15) (h : BkA o M s I) (hF : FrMk I J I2 J2) : BkA o M s I2 := by
  have e1 : I2 (o + 1) = I (o + 1) := hF.c (fun k q => by rcases q with q | q <;> omega)
  have e5 : I2 (o + 5) = I (o + 5) := hF.c (fun k q => by rcases q with q | q <;> omega)
  have e0 : I2 o = I o := hF.c (fun k q => by rcases q with q | q <;> omega)
  unfold BkA
  rw [e1, e5, e0]
  exact h
theorem DuA.frC (ho : o = 9 ∨ o = 15) (h : DuA o M du I) (hF : FrCk o I J I2 J2) : DuA o M du I2 := by
  have e3 : I2 (o + 3) = I (o + 3) := hF.c (fun k q => by rcases q with (q | q | q) | q <;> omega)
  have e4 : I2 (o + 4) = I (o + 4) := hF.c (fun k q => by rcases q with (q | q | q) | q <;> omega)
  unfold DuA
  rw [e3, e4]
  exact h
theorem DuA.frM (ho : o = 9 ∨ o = 15) (h : DuA o M du I) (hF : FrMk I J I2 J2) : DuA o M du I2 := by
  have e3 : I2 (o + 3) = I (o + 3) := hF.c (fun k q => by rcases q with q | q <;> omega)
  have e4 : I2 (o + 4) = I (o + 4) := hF.c (fun k q => by rcases q with q | q <;> omega)
  unfold DuA
  rw [e3, e4]
  exact h
theorem DuR.frC (ho : o = 9 ∨ o = 15) (h : DuR M du I) (hF : FrCk o I J I2 J2) : DuR M du I2 := by
  have e : I2 102 = I 102 := hF.c (fun k q => by rcases q with (q | q | q) | q <;> omega)
  unfold DuR
  rw [e]
  exact h
theorem DuR.frM (hM : M ≤ 6) (h : DuR M du I) (hF : FrMk I J I2 J2) : DuR M du I2 := fun k hk =>
  ⟨(hF.1 102 (34 + k) (fun q => by rcases q with q | q <;> omega)).trans (h k hk).1, (hF.1 102 (40 + k) (fun q => by rcases q with q | q <;> omega)).trans (h k hk).2⟩
theorem HS9.cl {s3 : StS9} (ho : o = 9 ∨ o = 15) (h : HS9 o M s s2 du I) (hA : BkA o M s3 I2) (hB : StB M s3) (hF : FrCk o I J I2 J2) : HS9 o M s s3 du I2 :=
  ⟨hA, h.2.1.frC ho hF, h.2.2.1, hB, h.2.2.2.2.1.frC ho hF, h.2.2.2.2.2.1.frC ho hF, h.2.2.2.2.2.2⟩
theorem HS9.mf {s3 : StS9} (ho : o = 9 ∨ o = 15) (h : HS9 o M s s2 du I) (hA : BkR M s3 I2) (hB : StB M s3) (hF : FrMk I J I2 J2) : HS9 o M s3 s2 du I2 :=
  ⟨h.1.frM ho hF, hA, hB, h.2.2.2.1, h.2.2.2.2.1.frM ho hF, h.2.2.2.2.2.1.frM h.2.2.2.2.2.2 hF, h.2.2.2.2.2.2⟩
end STF
