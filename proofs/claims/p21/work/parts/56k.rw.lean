/-! ===== fewest(), fewestAt(), ways(), oddsThat(): what they answer ===== -/
noncomputable def shL (p q : Int32) : Int := pt q.toInt.toNat * p.toInt
noncomputable def slQ (d : Int32) : Prop := (1 : Int32) ≤ d ∧ d ≤ 30
theorem sl_n {q : Int32} (h1 : (1 : Int32) ≤ q) (h2 : q ≤ 30) : q = nI q.toInt.toNat ∧ 1 ≤ q.toInt.toNat ∧ q.toInt.toNat ≤ 30 := by
  rw [le_i] at h1 h2
  have e1 : (1 : Int32).toInt = 1 := rfl
  have e30 : (30 : Int32).toInt = 30 := rfl
  refine ⟨Int32.toInt_inj.mp ?_, by omega, by omega⟩
  rw [nI_toInt (by omega)]; omega
theorem shL_b {p q : Int32} (h : sh p q) : 1 ≤ shL p q ∧ shL p q ≤ 1000000000000000 := by
  obtain ⟨⟨p1, p2⟩, q1, q2⟩ := h
  obtain ⟨-, n1, n2⟩ := sl_n q1 q2
  rw [le_i] at p1 p2
  have e1 : (1 : Int32).toInt = 1 := rfl
  have e99 : (99 : Int32).toInt = 99 := rfl
  obtain ⟨b1, b2, -⟩ := pt_b n1 n2
  unfold shL
  have k1 : 0 < pt q.toInt.toNat * p.toInt := Int.mul_pos b1 (by omega)
  have k2 : pt q.toInt.toNat * p.toInt ≤ 2329089562800 * 99 := Int.mul_le_mul b2 (by omega) (by omega) (by decide)
  omega
section RWT
variable {I : Im} {J : Jm} {R : Rm} {Q : Qt}
theorem px_crumbs {d : Nat} {p q : Int32} (h : sh p q) (hQ : ∀ y : Int64, y.toInt = shL p q → Q 0 y I J R) : AM (d + 1) 167 112 [.int p, .int q] I J R Q := by
  obtain ⟨eq, n1, n2⟩ := sl_n h.2.1 h.2.2
  have hb := shL_b h
  have ep : (Int32.toInt64 p).toInt = p.toInt := tl_i2l rfl
  have hpt := ptL q.toInt.toNat (by omega) n1
  rw [← eq] at hpt
  refine w_X11_crumbs ⟨fun _ => ⟨hpt.2.2, hQ _ ?_⟩, fun c => absurd h.2.1 c⟩
  have hb2 : 1 ≤ pt q.toInt.toNat * p.toInt ∧ pt q.toInt.toNat * p.toInt ≤ 1000000000000000 := hb
  rw [show shL p q = p.toInt * pt q.toInt.toNat from Int.mul_comm ..]
  exact tl_mul9 ep hpt.2.1 (by rw [Int.mul_comm]; omega)
theorem px_shareOf {d : Nat} {p q : Int32} (h : sh p q) (hQ : ∀ y : Int64, y.toInt = shL p q → Q 0 y I J R) : AM (d + 1) 241 112 [.int p, .int q] I J R Q := by
  obtain ⟨eq, n1, n2⟩ := sl_n h.2.1 h.2.2
  have hb := shL_b h
  have ep : (Int32.toInt64 p).toInt = p.toInt := tl_i2l rfl
  have hpt := ptL q.toInt.toNat (by omega) n1
  rw [← eq] at hpt
  refine w_X12_shareOf ⟨hpt.2.2, hQ _ ?_⟩
  have hb2 : 1 ≤ pt q.toInt.toNat * p.toInt ∧ pt q.toInt.toNat * p.toInt ≤ 1000000000000000 := hb
  exact tl_mul9 hpt.2.1 ep (by omega)
theorem px_mSlQ {d : Nat} {k : Int32} (hY : slQ k → Q 1 0 I J R) (hN : ¬ slQ k → Q 0 0 I J R) : AM (d + 2) 238 112 [.int k] I J R Q :=
  w_X12_isSlice (px_isInI (lo := 1) (hi := 30) (fun l1 l2 _ => ⟨Or.inr rfl, hY ⟨l1, l2⟩⟩) (fun z _ => ⟨Or.inl rfl, hN (fun y => z.elim (fun x => ile.mpr y.1 x) (fun x => x y.2))⟩))
/-! the reference's -/
end RWT
/-! both -/
