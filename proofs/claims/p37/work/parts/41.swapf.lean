section PT7x3
end PT7x3
section PT7x4
/-! ===== the relation of the tapes; what feed() and bakery() answer ===== -/
noncomputable def fl (I : Im) : Nat := (I 3 1).toInt.toNat
theorem fl_bd {I : Im} (h : Bd I) : I 3 1 = nI (fl I) ∧ fl I ≤ 900 := by
  have b := Bd.o h io9_112_3_6 bd9_6_1
  have e : ((fl I : Nat) : Int) = (I 3 1).toInt := by unfold fl; omega
  exact ⟨Int32.toInt_inj.mp (by rw [nI_toInt (by omega)]; omega), by omega⟩
noncomputable def R3 (I : Im) (J : Jm) : Prop := Byt (I 4) ∧ (∀ i, i < fl I → I 4 i = I 101 i) ∧ ∀ k, k < 22 → J 5 k = rsv.getD k 0
theorem R3.kp {I I2 : Im} {J J2 : Jm} (h : R3 I J) (k : K7 I J I2 J2) (e : (I2 3 1).toInt ≤ (I 3 1).toInt) : R3 I2 J2 := by
  obtain ⟨h1, h2, h3⟩ := h
  refine ⟨by rw [k.1]; exact h1, fun i hi => ?_, by rw [k.2.2]; exact h3⟩
  rw [k.1, k.2.1]
  refine h2 i ?_
  unfold fl at hi ⊢
  omega
/-- feed() -/
noncomputable def HF (f : Nat) (a b c e g : Int32) (I : Im) (J : Jm) (x : Int32) (I2 : Im) (J2 : Jm) : Prop := ((f + 20 ≤ 900 ∧ x = nI (f + 20) ∧ I2 3 1 = nI (f + 20) ∧ I2 4 = ap20 (I 4) f a b c e g) ∨ (900 < f + 20 ∧ x = -1 ∧ I2 3 1 = nI f ∧ I2 4 = I 4)) ∧ I2 101 = I 101 ∧ J2 5 = J 5 ∧ I2 97 8 = I 97 8
noncomputable def MF (f : Nat) (a b c e g : Int32) (I : Im) (J : Jm) (x : Int32) (I2 : Im) (J2 : Jm) : Prop := ((f + 20 ≤ 900 ∧ x = nI (f + 20) ∧ I2 97 8 = nI (f + 20) ∧ I2 101 = ap20 (I 101) f a b c e g) ∨ (900 < f + 20 ∧ x = -1 ∧ I2 97 8 = nI f ∧ I2 101 = I 101)) ∧ I2 4 = I 4 ∧ J2 5 = J 5 ∧ I2 3 1 = I 3 1
theorem cx_feed {d : Nat} {a b c e g : Int32} {I : Im} {J : Jm} {R : Rm} (hB : Bd I) : AM (d + 3) 107 112 [.ref 1, .int a, .int b, .int c, .int e, .int g] I J R (fun x _ I2 J2 _ => HF (fl I) a b c e g I J x I2 J2) := by
  obtain ⟨h1, h2⟩ := fl_bd hB
  rcases Nat.lt_or_ge 900 (fl I + 20) with q | q
  · exact px_cfN q h2 h1 ⟨Or.inr ⟨q, rfl, h1, rfl⟩, rfl, rfl, rfl⟩
  · exact px_cfY q h1 (fun I2 hF e1 e4 => ⟨Or.inl ⟨q, rfl, e1, e4⟩, hF.c (by intro k z; omega), rfl, hF.i (by omega)⟩)
theorem mx_feed {d f : Nat} {a b c e g : Int32} {I : Im} {J : Jm} {R : Rm} (h1 : I 97 8 = nI f) (h2 : f ≤ 900) : AM (d + 3) 220 112 [.ref 97, .int a, .int b, .int c, .int e, .int g] I J R (fun x _ I2 J2 _ => MF f a b c e g I J x I2 J2) := by
  rcases Nat.lt_or_ge 900 (f + 20) with q | q
  · exact px_mfN q h2 h1 ⟨Or.inr ⟨q, rfl, (rd_k (by decide)).trans h1, uI_ne (by decide)⟩, uI_ne (by decide), rfl, rd_ne (by decide)⟩
  · exact px_mfY q h1 (fun I2 hF e1 e4 => ⟨Or.inl ⟨q, rfl, e1, e4⟩, hF.c (by intro k z; omega), rfl, hF.i (by omega)⟩)
theorem R3.feed {f : Nat} {a b c e g x x2 : Int32} {I I1 I2 : Im} {J J1 J2 : Jm} (h : R3 I J) (hf : f = fl I) (h1 : HF f a b c e g I J x I1 J1) (h2 : MF f a b c e g I1 J1 x2 I2 J2) : R3 I2 J2 ∧ x2 = x := by
  obtain ⟨a1, a2, a3⟩ := h
  obtain ⟨p, p2, p3, p4⟩ := h1
  obtain ⟨q, q2, q3, q4⟩ := h2
  have j5 : ∀ k, k < 22 → J2 5 k = rsv.getD k 0 := by rw [q3, p3]; exact a3
  rcases p with ⟨b1, b2, b3, b4⟩ | ⟨b1, b2, b3, b4⟩
  · rcases q with ⟨c1, c2, c3, c4⟩ | ⟨c1, c2, c3, c4⟩
    · refine ⟨⟨by rw [q2, b4]; exact ap20_b a1, fun i hi => ?_, j5⟩, by rw [c2, b2]⟩
      rw [q2, b4, c4, p2]
      refine ap20_e (f := f) (fun j hj => a2 j (by omega)) i ?_
      unfold fl at hi
      rw [q4, b3, nI_toInt (by omega)] at hi
      omega
    · omega
  · rcases q with ⟨c1, c2, c3, c4⟩ | ⟨c1, c2, c3, c4⟩
    · omega
    · refine ⟨⟨by rw [q2, b4]; exact a1, fun i hi => ?_, j5⟩, by rw [c2, b2]⟩
      rw [q2, b4, c4, p2]
      have hf9 : f < 2 ^ 31 := by
        have := i32 (I 3 1)
        rw [hf]; unfold fl; omega
      refine a2 i ?_
      unfold fl at hi
      rw [q4, b3, nI_toInt hf9] at hi
      omega
/-- bakery(): how many men, by the text -/
noncomputable def bkX (T : Nat → Int32) (n : Nat) : Int32 := match prB T n (n + 1) em0 0 with
  | .error _ => -1
  | .ok p => p.1.1 0
noncomputable def HB (f : Nat) (T : Nat → Int32) (v x : Int32) (z : Int32) (z0 : Int32) : Prop := ((v < 0 ∨ nI f < v) ∧ x = -1 ∧ z = z0) ∨ ∃ n, n ≤ f ∧ v = nI n ∧ z = 0 ∧ x = bkX T n
theorem sp_v {v : Int32} {f : Nat} (hf : f ≤ 900) : (v < 0 ∨ nI f < v) ∨ ∃ n, n ≤ f ∧ v = nI n := by
  by_cases q : v < 0 ∨ nI f < v
  · exact Or.inl q
  · refine Or.inr ⟨v.toInt.toNat, ?_, ?_⟩
    all_goals
      have h1 : ¬ v < 0 := fun z => q (Or.inl z)
      have h2 : ¬ nI f < v := fun z => q (Or.inr z)
      rw [Int32.lt_iff_toInt_lt] at h1 h2
      rw [nI_toInt (by omega)] at h2
      have e0 : (0 : Int32).toInt = 0 := rfl
    · omega
    · exact Int32.toInt_inj.mp (by rw [nI_toInt (by omega)]; omega)
theorem cx_bakery {d : Nat} {v : Int32} {I : Im} {J : Jm} {R : Rm} (hB : Bd I) (hR : RI R) (h3 : R3 I J) : AM (d + 8) 108 112 [.ref 1, .int v] I J R (fun x _ I2 J2 _ => HB (fl I) (I 4) v x (I2 3 1) (I 3 1) ∧ K7 I J I2 J2) := by
  obtain ⟨h1, h2⟩ := fl_bd hB
  rcases sp_v (v := v) h2 with q | ⟨n, hn, rfl⟩
  · exact px_cbN h2 h1 q ⟨Or.inl ⟨q, rfl, rd_ne (by decide)⟩, uI_ne (by decide), uI_ne (by decide), rfl⟩
  · have ho := o_ge hR.spare.1
    have hp := p_ge hR.plan.1
    have hol := o_lt hR.spare.1
    have hpl := o_lt hR.plan.1
    have ho5 := o_9 _ hol hR.spare.1
    have hp5 := p_21 _ hpl hR.plan.1
    have k7 : ∀ I2 J2, FrW (WC (R 1 8) (R 1 9)) (VB (R 1 8)) I J I2 J2 → K7 I J I2 J2 := fun I2 J2 hF => ⟨hF.c (by intro k z; omega), hF.c (by intro k z; omega), hF.cj (by intro k z; omega)⟩
    exact px_cbY h2 hn h1 h3.2.2 hR (fun p I2 J2 he hF e1 _ _ => ⟨Or.inr ⟨n, hn, rfl, e1, by unfold bkX; rw [he]⟩, k7 I2 J2 hF⟩) (fun B2 b I2 J2 he _ hF e1 _ _ _ _ _ _ _ => ⟨Or.inr ⟨n, hn, rfl, e1, by unfold bkX; rw [he]⟩, k7 I2 J2 hF⟩)
theorem mx_bakery {d f : Nat} {T : Nat → Int32} {v : Int32} {I : Im} {J : Jm} {R : Rm} (h1 : I 97 8 = nI f) (h2 : f ≤ 900) (hT : Byt T) (hI : ∀ i, i < f → I 101 i = T i) : AM (d + 8) 233 112 [.ref 97, .int v] I J R (fun x _ I2 J2 _ => HB f T v x (I2 97 8) (I 97 8) ∧ K7 I J I2 J2 ∧ I2 3 1 = I 3 1) := by
  have k7 : ∀ I2 J2, FrQ I J I2 J2 → K7 I J I2 J2 ∧ I2 3 1 = I 3 1 := fun I2 J2 hF => ⟨⟨hF.c (by intro k z; omega), hF.c (by intro k z; omega), hF.cj (by intro k z; omega)⟩, hF.i (by omega)⟩
  rcases sp_v (v := v) h2 with q | ⟨n, hn, rfl⟩
  · exact px_mbN h2 h1 q (fun I2 hF e8 _ _ _ => ⟨Or.inl ⟨q, rfl, e8⟩, k7 I2 J hF⟩)
  · exact px_mbY h2 hn h1 hT hI (fun p I2 J2 he hF e1 _ _ _ => ⟨Or.inr ⟨n, hn, rfl, e1, by unfold bkX; rw [he]⟩, k7 I2 J2 hF⟩) (fun B2 b I2 J2 he _ hF e1 _ _ _ _ => ⟨Or.inr ⟨n, hn, rfl, e1, by unfold bkX; rw [he]⟩, k7 I2 J2 hF⟩)
theorem HB.eq {f : Nat} {T : Nat → Int32} {v x x2 z z0 w w0 : Int32} (hf : f ≤ 900) (h : HB f T v x z z0) (h2 : HB f T v x2 w w0) : x2 = x := by
  rcases h with ⟨a1, a2, a3⟩ | ⟨n, a1, a2, a3, a4⟩
  · rcases h2 with ⟨b1, b2, b3⟩ | ⟨m, b1, b2, b3, b4⟩
    · rw [a2, b2]
    · rw [b2] at a1
      rcases a1 with q | q
      · exact absurd q (nI_pos (by omega))
      · have := (nlt_nI (by omega) (by omega)).mp q; omega
  · rcases h2 with ⟨b1, b2, b3⟩ | ⟨m, b1, b2, b3, b4⟩
    · rw [a2] at b1
      rcases b1 with q | q
      · exact absurd q (nI_pos (by omega))
      · have := (nlt_nI (by omega) (by omega)).mp q; omega
    · have := (nK (a := n) (b := m) (by omega) (by omega)).mp (a2.symm.trans b2)
      rw [a4, b4, this]
theorem HB.le {f : Nat} {T : Nat → Int32} {v x z z0 : Int32} (hz : 0 ≤ z0.toInt) (h : HB f T v x z z0) : z.toInt ≤ z0.toInt := by
  rcases h with ⟨a1, a2, a3⟩ | ⟨n, a1, a2, a3, a4⟩
  · rw [a3]; exact Int.le_refl _
  · rw [a3]; exact hz
end PT7x4
section PT7x5
/-! printed by grp4.py: the men, their names, what is known: what keeps them -/
noncomputable def badnm (a : Nat) : Bool := Nat.beq a 11 || (Nat.beq a 17 || (Nat.beq a 63 || (Nat.beq a 75 || (Nat.beq a 87 || (Nat.beq a 104)))))
noncomputable def okgnm (ci k : Nat) : Bool := !(Nat.beq ci 0 && Nat.beq k 5) && !(Nat.beq ci 12 && Nat.beq k 22)
noncomputable def Knm (I : Im) (J : Jm) (I2 : Im) (J2 : Jm) : Prop := J2 11 = J 11 ∧ J2 17 = J 17 ∧ J2 63 = J 63 ∧ J2 75 = J 75 ∧ J2 87 = J 87 ∧ J2 104 = J 104
theorem Knm.rf {I : Im} {J : Jm} : Knm I J I J := ⟨rfl, rfl, rfl, rfl, rfl, rfl⟩
theorem badnm_f {a : Nat} (h : badnm a = false) : ¬ a = 11 ∧ ¬ a = 17 ∧ ¬ a = 63 ∧ ¬ a = 75 ∧ ¬ a = 87 ∧ ¬ a = 104 := by
  refine ⟨?_, ?_, ?_, ?_, ?_, ?_⟩ <;> intro q <;> subst q <;> exact absurd h (by decide)
theorem badnm_i {a : Nat} (h : ¬ a = 11 ∧ ¬ a = 17 ∧ ¬ a = 63 ∧ ¬ a = 75 ∧ ¬ a = 87 ∧ ¬ a = 104) : badnm a = false := by
  cases q : badnm a with
  | false => rfl
  | true =>
    unfold badnm at q
    rw [Bool.or_eq_true, Bool.or_eq_true, Bool.or_eq_true, Bool.or_eq_true, Bool.or_eq_true] at q
    rcases q with q | q
    · exact absurd (Nat.eq_of_beq_eq_true q) h.1
    rcases q with q | q
    · exact absurd (Nat.eq_of_beq_eq_true q) h.2.1
    rcases q with q | q
    · exact absurd (Nat.eq_of_beq_eq_true q) h.2.2.1
    rcases q with q | q
    · exact absurd (Nat.eq_of_beq_eq_true q) h.2.2.2.1
    rcases q with q | q
    · exact absurd (Nat.eq_of_beq_eq_true q) h.2.2.2.2.1
    exact absurd (Nat.eq_of_beq_eq_true q) h.2.2.2.2.2
end PT7x5
