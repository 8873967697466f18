section PT16x0
section W9N
variable {I I1 I2 : Im} {J J1 J2 : Jm} {R : Rm} {v1 v2 x : Int32} {Q : Qt}
end W9N
end PT16x0
section PT16x1
/-! ===== the relation of stores: small pieces, its start ===== -/
section W9T
variable {I I1 : Im} {J J1 : Jm} {R : Rm}
theorem W9.mm (h : W9 I R) : (I 102 0).toInt = (mnN (I 102) : Int) ∧ mnN (I 102) ≤ 6 := ⟨h.1.1.m.2.2, h.1.1.m.1⟩
theorem FrCk.z102 {o : Nat} (ho : o = 9 ∨ o = 15) (hF : FrCk o I J I1 J1) : I1 102 0 = I 102 0 := hF.1 102 0 (fun q => by rcases q with (q | q | q) | q <;> omega)
theorem W9.start (e7 : R 1 7 = 9) (e9 : R 1 9 = 21) (h : I 9 1 = 4 ∧ I 9 3 = 0 ∧ (∀ k, I 10 k = 0) ∧ I 21 0 = 0 ∧ ∀ k, k < 324 → I 102 k = emC k) (hm : I 97 23 = 0) : W9 I R := by
  obtain ⟨h1, h2, h3, h4, h5⟩ := h
  have em : mnN (I 102) = 0 := by
    unfold mnN
    rw [h5 0 (by omega)]; rfl
  have ed : ∀ d, 1 ≤ d → d ≤ 30 → I 102 (3 + d) = 0 := fun d a b => by
    rw [h5 (3 + d) (by omega)]
    unfold emC
    rw [if_neg (by omega), if_neg (by omega)]
  refine ⟨?_, fun j hj hk => ?_⟩
  · rw [e7, e9]
    refine ⟨⟨⟨0, by omega, h5 0 (by omega)⟩, fun d a b => ?_, fun k hk => ?_⟩, ⟨?_, ?_, fun d a b => ?_, fun k hk => ?_⟩, ?_, fun h0 => ?_⟩
    · rw [ed d a b]; decide
    · rw [em] at hk; omega
    · rw [h1, h5 1 (by omega)]; rfl
    · rw [h2, h5 2 (by omega)]; rfl
    · rw [ed d a b]; exact h3 d
    · rw [em] at hk; omega
    · rw [h4, h5 52 (by omega)]; rfl
    · exact absurd (h5 52 (by omega)) h0
  · rw [hm, show (0 : Int32).toInt = 0 from rfl] at hk
    omega
end W9T
end PT16x1
section PT16x2
/-! ===== fill(), fillAt(): what they answer ===== -/
theorem an_ge {a b : Int32} (h : 0 ≤ a.toInt) : 0 ≤ (a &&& b).toInt := by
  have e : (a &&& b).toBitVec.msb = (a.toBitVec.msb && b.toBitVec.msb) := by rw [Int32.toBitVec_and]; exact BitVec.msb_and
  have e1 : a.toBitVec.toInt = a.toInt := rfl
  have e2 : (a &&& b).toBitVec.toInt = (a &&& b).toInt := rfl
  have ea : a.toBitVec.msb = false := by rw [BitVec.msb_eq_toInt]; exact decide_eq_false (by omega)
  rw [ea, Bool.false_and, BitVec.msb_eq_toInt] at e
  have := of_decide_eq_false e
  omega
/-- what the store holds and a man has not -/
noncomputable def gf9 (s : StS9) (k : Int32) : Int32 := stR s.1 30 0 &&& (s.2.1 (nn9 k) ^^^ (-1))
noncomputable def fl9 (I : Im) (k : Int32) : Option (List Nat) := fwC (SA (gf9 (s9 I) k)) (lk9 (du9 I) (s9 I).2.1 (nn9 k))
section W9F
variable {I I1 : Im} {J J1 : Jm} {R : Rm} {Q : Qt} {v w : Int32}
/-! the reference -/
end W9F
end PT16x2
section PT16x3
/-! ===== the latest life, carried ===== -/
section LVC
variable {I I2 : Im}
theorem LV9.kp (h : LV9 I) (k : KL9 I I2) : LV9 I2 := by
  unfold LV9 at h ⊢
  rw [k.1, k.2.1, k.2.2]
  exact h
theorem LV9.start (h : I 97 40 = 0) (h2 : I 49 0 = 0) : LV9 I := ⟨h.trans h2.symm, fun z => absurd h2 z⟩
end LVC
end PT16x3
section PT16x4
/-! ===== how many cuts and splits till there is a slice: the numbers ===== -/
noncomputable def tb9 : List (List Nat) := [[1000, 1000, 1000, 1000, 1000, 1000, 1000, 1000, 1000, 1000, 1000, 1000, 1000, 1000, 1000, 1000, 1000, 1000, 1000, 1000, 1000, 1000, 1000, 1000, 1000, 1000, 1000, 1000, 1000, 1000, 1000],
  [1000, 0, 1000, 1000, 1000, 1000, 1000, 1000, 1000, 1000, 1000, 1000, 1000, 1000, 1000, 1000, 1000, 1000, 1000, 1000, 1000, 1000, 1000, 1000, 1000, 1000, 1000, 1000, 1000, 1000, 1000],
  [1000, 1, 0, 1000, 1000, 1000, 1000, 1000, 1000, 1000, 1000, 1000, 1000, 1000, 1000, 1000, 1000, 1000, 1000, 1000, 1000, 1000, 1000, 1000, 1000, 1000, 1000, 1000, 1000, 1000, 1000],
  [1000, 1, 1, 0, 1000, 1000, 1000, 1000, 1000, 1000, 1000, 1000, 1000, 1000, 1000, 1000, 1000, 1000, 1000, 1000, 1000, 1000, 1000, 1000, 1000, 1000, 1000, 1000, 1000, 1000, 1000],
  [1000, 1, 1, 1, 0, 1000, 1000, 1000, 1000, 1000, 1000, 1000, 1000, 1000, 1000, 1000, 1000, 1000, 1000, 1000, 1000, 1000, 1000, 1000, 1000, 1000, 1000, 1000, 1000, 1000, 1000],
  [1000, 1, 2, 2, 1, 0, 1000, 1000, 1000, 1000, 1000, 1000, 1000, 1000, 1000, 1000, 1000, 1000, 1000, 1000, 1000, 1000, 1000, 1000, 1000, 1000, 1000, 1000, 1000, 1000, 1000],
  [1000, 1, 1, 1, 1, 1, 0, 1000, 1000, 1000, 1000, 1000, 1000, 1000, 1000, 1000, 1000, 1000, 1000, 1000, 1000, 1000, 1000, 1000, 1000, 1000, 1000, 1000, 1000, 1000, 1000],
  [1000, 1, 1000, 1000, 1000, 1000, 1000, 0, 1000, 1000, 1000, 1000, 1000, 1000, 1000, 1000, 1000, 1000, 1000, 1000, 1000, 1000, 1000, 1000, 1000, 1000, 1000, 1000, 1000, 1000, 1000],
  [1000, 1, 1, 2, 1, 2, 1, 1000, 0, 1000, 1000, 1000, 1000, 1000, 1000, 1000, 1000, 1000, 1000, 1000, 1000, 1000, 1000, 1000, 1000, 1000, 1000, 1000, 1000, 1000, 1000],
  [1000, 1, 2, 1, 2, 2, 1, 1000, 1000, 0, 1000, 1000, 1000, 1000, 1000, 1000, 1000, 1000, 1000, 1000, 1000, 1000, 1000, 1000, 1000, 1000, 1000, 1000, 1000, 1000, 1000],
  [1000, 1, 1, 2, 2, 1, 1, 1000, 1000, 1000, 0, 1000, 1000, 1000, 1000, 1000, 1000, 1000, 1000, 1000, 1000, 1000, 1000, 1000, 1000, 1000, 1000, 1000, 1000, 1000, 1000],
  [1000, 1, 1000, 1000, 1000, 1000, 1000, 1000, 1000, 1000, 1000, 0, 1000, 1000, 1000, 1000, 1000, 1000, 1000, 1000, 1000, 1000, 1000, 1000, 1000, 1000, 1000, 1000, 1000, 1000, 1000],
  [1000, 1, 1, 1, 1, 2, 1, 1000, 1, 1000, 1000, 1000, 0, 1000, 1000, 1000, 1000, 1000, 1000, 1000, 1000, 1000, 1000, 1000, 1000, 1000, 1000, 1000, 1000, 1000, 1000],
  [1000, 1, 1000, 1000, 1000, 1000, 1000, 1000, 1000, 1000, 1000, 1000, 1000, 0, 1000, 1000, 1000, 1000, 1000, 1000, 1000, 1000, 1000, 1000, 1000, 1000, 1000, 1000, 1000, 1000, 1000],
  [1000, 1, 1, 1000, 1000, 1000, 1000, 1, 1000, 1000, 1000, 1000, 1000, 1000, 0, 1000, 1000, 1000, 1000, 1000, 1000, 1000, 1000, 1000, 1000, 1000, 1000, 1000, 1000, 1000, 1000],
  [1000, 1, 2, 1, 2, 1, 1, 1000, 1000, 1000, 1, 1000, 1000, 1000, 1000, 0, 1000, 1000, 1000, 1000, 1000, 1000, 1000, 1000, 1000, 1000, 1000, 1000, 1000, 1000, 1000],
  [1000, 1, 1, 2, 1, 3, 2, 1000, 1, 1000, 1000, 1000, 1000, 1000, 1000, 1000, 0, 1000, 1000, 1000, 1000, 1000, 1000, 1000, 1000, 1000, 1000, 1000, 1000, 1000, 1000],
  [1000, 1, 1000, 1000, 1000, 1000, 1000, 1000, 1000, 1000, 1000, 1000, 1000, 1000, 1000, 1000, 1000, 0, 1000, 1000, 1000, 1000, 1000, 1000, 1000, 1000, 1000, 1000, 1000, 1000, 1000],
  [1000, 1, 1, 1, 2, 2, 1, 1000, 1000, 1, 1000, 1000, 1000, 1000, 1000, 1000, 1000, 1000, 0, 1000, 1000, 1000, 1000, 1000, 1000, 1000, 1000, 1000, 1000, 1000, 1000],
  [1000, 1, 1000, 1000, 1000, 1000, 1000, 1000, 1000, 1000, 1000, 1000, 1000, 1000, 1000, 1000, 1000, 1000, 1000, 0, 1000, 1000, 1000, 1000, 1000, 1000, 1000, 1000, 1000, 1000, 1000],
  [1000, 1, 1, 2, 1, 1, 2, 1000, 2, 1000, 1, 1000, 1, 1000, 1000, 1000, 1000, 1000, 1000, 1000, 0, 1000, 1000, 1000, 1000, 1000, 1000, 1000, 1000, 1000, 1000],
  [1000, 1, 2, 1, 2, 3, 2, 1, 2, 1000, 1000, 1000, 1, 1000, 1000, 1000, 1000, 1000, 1000, 1000, 1000, 0, 1000, 1000, 1000, 1000, 1000, 1000, 1000, 1000, 1000],
  [1000, 1, 1, 1000, 1000, 1000, 1000, 1000, 1000, 1000, 1000, 1, 1000, 1000, 1000, 1000, 1000, 1000, 1000, 1000, 1000, 1000, 0, 1000, 1000, 1000, 1000, 1000, 1000, 1000, 1000],
  [1000, 1, 1000, 1000, 1000, 1000, 1000, 1000, 1000, 1000, 1000, 1000, 1000, 1000, 1000, 1000, 1000, 1000, 1000, 1000, 1000, 1000, 1000, 0, 1000, 1000, 1000, 1000, 1000, 1000, 1000],
  [1000, 1, 1, 1, 1, 2, 1, 1000, 1, 1000, 1000, 1000, 1, 1000, 1000, 1000, 1000, 1000, 1000, 1000, 1000, 1000, 1000, 1000, 0, 1000, 1000, 1000, 1000, 1000, 1000],
  [1000, 1, 3, 3, 2, 1, 1000, 1000, 1000, 1000, 1000, 1000, 1000, 1000, 1000, 1000, 1000, 1000, 1000, 1000, 1000, 1000, 1000, 1000, 1000, 0, 1000, 1000, 1000, 1000, 1000],
  [1000, 1, 1, 1000, 1000, 1000, 1000, 1000, 1000, 1000, 1000, 1000, 1000, 1, 1000, 1000, 1000, 1000, 1000, 1000, 1000, 1000, 1000, 1000, 1000, 1000, 0, 1000, 1000, 1000, 1000],
  [1000, 1, 2, 1, 3, 3, 2, 1000, 1000, 1, 1000, 1000, 1000, 1000, 1000, 1000, 1000, 1000, 1000, 1000, 1000, 1000, 1000, 1000, 1000, 1000, 1000, 0, 1000, 1000, 1000],
  [1000, 1, 1, 2, 1, 3, 2, 1, 2, 1000, 1000, 1000, 1, 1000, 1, 1000, 1000, 1000, 1000, 1000, 1000, 1000, 1000, 1000, 1000, 1000, 1000, 1000, 0, 1000, 1000],
  [1000, 1, 1000, 1000, 1000, 1000, 1000, 1000, 1000, 1000, 1000, 1000, 1000, 1000, 1000, 1000, 1000, 1000, 1000, 1000, 1000, 1000, 1000, 1000, 1000, 1000, 1000, 1000, 1000, 0, 1000],
  [1000, 1, 1, 1, 2, 1, 1, 1000, 2, 1000, 1, 1000, 1, 1000, 1000, 1, 1000, 1000, 1000, 1000, 1000, 1000, 1000, 1000, 1000, 1000, 1000, 1000, 1000, 1000, 0]]
/-- the fewest till there is a t, from an s on (1000: never); the next slice then -/
noncomputable def e9 (t s : Nat) : Nat := (tb9.getD t []).getD s 1000
section RC9
variable {t s p a b : Nat}
end RC9
section RCX
variable {I : Im} {J : Jm} {R : Rm} {Q : Qt}
end RCX
end PT16x4
section PT16x5
/-! ===== reach(), reachAt(): what they answer ===== -/
theorem inS_or9 {x : Int32} {d k : Nat} (hx : 0 ≤ x.toInt ∧ x.toInt < 1073741824) (d1 : 1 ≤ d) (d2 : d ≤ 30) (k1 : 1 ≤ k) (k2 : k ≤ 30) : inS (x ||| biS (nI d)) (nI k) = (inS x (nI k) || decide (k = d)) := by
  have a1 : (1 : Int32) ≤ nI d := (nle_nI (a := 1) (by omega) (by omega)).mpr d1
  have a2 : nI d ≤ (30 : Int32) := (nle_nI (b := 30) (by omega) (by omega)).mpr d2
  have hb := bi_in hx a1 a2
  have hd : (nI d - 1).toInt = ((d - 1 : Nat) : Int) := by
    rw [show nI d - 1 = nI (d - 1) from nI_sub (b := 1) (by omega) d1]
    exact nI_toInt (by omega)
  have hk : (nI k - 1).toInt = ((k - 1 : Nat) : Int) := by
    rw [show nI k - 1 = nI (k - 1) from nI_sub (b := 1) (by omega) k1]
    exact nI_toInt (by omega)
  rw [inS_tb hb.1 (show k - 1 < 30 by omega) hk, inS_tb hx.1 (show k - 1 < 30 by omega) hk, or_tb hx (show d - 1 < 30 by omega) hd]
  by_cases q : k = d
  · subst q
    rw [tb_or2, decide_eq_true rfl, Bool.or_true]
  · rw [tb_ne (by omega), decide_eq_false q, Bool.or_false]
section W9C
variable {I I1 : Im} {J J1 : Jm} {R : Rm} {v w : Int32}
end W9C
end PT16x5
section PT16x6
/-! ===== the trays' numbers: the scribe's ===== -/
/-- a number as a tray of a sort holds it -/
noncomputable def trm9 (s : Int32) (v : Int64) : Int64 := if s = 0 then Int32.toInt64 (Int32.toInt8 (Int64.toInt32 v)).toInt32 else if s = 1 then Int32.toInt64 (Int32.toInt16 (Int64.toInt32 v)).toInt32 else if s = 2 then Int32.toInt64 (Int64.toInt32 v) else v
noncomputable def tr9 (a : Int32) : Prop := 0 ≤ a.toInt ∧ a.toInt ≤ 3
noncomputable def okP9 (L : Nat → Int32) (a b : Int32) : Prop := tr9 a ∧ 0 ≤ b.toInt ∧ b.toInt < (L (nn9 a)).toInt
noncomputable def okT9 (a b c : Int32) : Prop := tr9 a ∧ (0 ≤ b.toInt ∧ b.toInt ≤ 3) ∧ 0 ≤ c.toInt ∧ c.toInt ≤ 60
noncomputable def trL9 (I : Im) (t : Nat) : Int32 := I (53 + 2 * t) 1
noncomputable def trS9 (I : Im) (t : Nat) : Int32 := I (53 + 2 * t) 0
theorem tr9_n {a : Int32} (h : tr9 a) : nn9 a < 4 ∧ vp_in a 4 := by
  obtain ⟨h1, h2⟩ := h
  exact ⟨by show a.toInt.toNat < 4; omega, vp_of (a := a.toInt) rfl (by omega) (by omega)⟩
section TRC
variable {I : Im} {J : Jm} {R : Rm} {Q : Qt}
theorem px_tr9 {d : Nat} {v : Int32} (hY : tr9 v → Q 1 0 I J R) (hN : ¬ tr9 v → Q 0 0 I J R) : AM (d + 1) 160 112 [.int v] I J R Q := by
  have z0 : (0 : Int32).toInt = 0 := rfl
  have z4 : (4 : Int32).toInt = 4 := rfl
  refine w_X11_isTray ⟨fun c => ⟨Or.inl rfl, hN (fun z => ?_)⟩, fun c1 => ⟨fun c2 => ⟨Or.inl rfl, hN (fun z => ?_)⟩, fun c2 => ⟨Or.inr rfl, hY ?_⟩⟩⟩
  · rw [Int32.lt_iff_toInt_lt, z0] at c; have := z.1; omega
  · rw [le_i, z4] at c2; have := z.2; omega
  · rw [Int32.lt_iff_toInt_lt, z0] at c1
    rw [le_i, z4] at c2
    exact ⟨by omega, by omega⟩
end TRC
end PT16x6
