/-! ===== what of the reference's blocks stays; small lemmas ===== -/
def Fr (P : Nat → Prop) (I I2 : Im) : Prop := (∀ j, P j → I2 102 j = I 102 j) ∧ I2 103 = I 103
theorem Fr.refl (P : Nat → Prop) (I : Im) : Fr P I I := ⟨fun _ _ => rfl, rfl⟩
theorem Fr.o {P : Nat → Prop} {I M : Im} {o k : Nat} {v : Int32} (h : Fr P I M) (ho : ¬ (102 : Nat) = o) (ho2 : ¬ (103 : Nat) = o) : Fr P I (uI M o k v) := by
  refine ⟨fun j hj => ?_, ?_⟩
  · rw [uI_ne ho]; exact h.1 j hj
  · rw [uI_ne ho2]; exact h.2
theorem Fr.w {P : Nat → Prop} {I M : Im} {i v : Int32} {z : Int} (h : Fr P I M) (hi : i.toInt = z) (h0 : 0 ≤ z) (hp : ∀ j : Nat, (j : Int) = z → P j → False) : Fr P I (uI M 102 (Int32.toNatClampNeg i) v) := by
  refine ⟨fun j hj => ?_, ?_⟩
  · have hz := tn_of hi h0
    rw [rd_k (fun q => hp j (by omega) hj)]
    exact h.1 j hj
  · rw [uI_ne (by decide)]; exact h.2
theorem Fr.tr {P Q : Nat → Prop} {I M N : Im} (h1 : Fr P I M) (h2 : Fr Q M N) (hq : ∀ j, P j → Q j) : Fr P I N := ⟨fun j hj => by rw [h2.1 j (hq j hj), h1.1 j hj], h2.2.trans h1.2⟩
def pT : Nat → Prop := fun _ => True
theorem Fr.eq {I M : Im} (h : Fr pT I M) : M 102 = I 102 := funext fun j => h.1 j trivial
/-- the days, who are there, by what their dues are divided -/
def pD (j : Nat) : Prop := j = 0 ∨ (40 ≤ j ∧ j ≤ 45) ∨ 52 ≤ j
/-- all but a record's fields -/
def pW (w : Int) (j : Nat) : Prop := (j : Int) ≤ w ∨ w + 8 ≤ (j : Int)
/-- all below a place -/
def pB (w : Int) (j : Nat) : Prop := (j : Int) < w
theorem CK.men {f : Nat → Int32} (h : CK f) {v : Int32} {b : Nat} (hb : b < 5) (hv : v.toInt = (f (324 * b)).toInt + 1) (h6 : v.toInt ≤ 6) (hk : 1 ≤ (f (324 * b + 40 + (f (324 * b)).toInt.toNat)).toInt) : CK (upd f (324 * b) v) := by
  have h0 := (h.1 (324 * b)).1 (by omega)
  have hs : ∀ k : Nat, ¬ k = 324 * b → upd f (324 * b) v k = f k := fun k hk => upd_i hk
  refine ⟨fun k => ?_, fun c k hc hk2 => ?_, fun c s hc hd hs2 => ?_⟩
  · by_cases hk : k = 324 * b
    · subst hk
      rw [upd_s]
      unfold CB
      omega
    · rw [upd_i hk]; exact h.1 k
  · by_cases q : c = b
    · subst q
      rw [upd_s, hv] at hk2
      rw [hs _ (by omega)]
      by_cases r : (k : Int) < (f (324 * c)).toInt
      · exact h.2.1 c k hc r
      · rw [show k = (f (324 * c)).toInt.toNat by omega]; exact hk
    · rw [hs _ (by omega)] at hk2
      have h6 := (h.1 (324 * c)).1 (by omega)
      rw [hs _ (by omega)]
      exact h.2.1 c k hc hk2
  · rw [hs _ (by omega)] at hd hs2
    have h6 := (h.1 (324 * c + 53)).2.2.1 (by omega)
    have q := h.2.2 c s hc hd hs2
    unfold RecOk at q ⊢
    simp only [hs (324 * c + 54 + 9 * s + 8) (by omega), hs (324 * c + 53) (by omega), hs (324 * c + 54 + 9 * s) (by omega), hs (324 * c + 54 + 9 * s + 1) (by omega), hs (324 * c + 54 + 9 * s + 2) (by omega), hs (324 * c + 54 + 9 * s + 3) (by omega), hs (324 * c + 54 + 9 * s + 5) (by omega)]
    by_cases r : c = b
    · subst r
      rw [upd_s, hv]
      unfold Rec at q ⊢
      omega
    · rw [hs (324 * c) (by omega)]; exact q
/-- a slice that is in a set of slices is none of 0 -/
theorem of0 {s : Int32} (h : 0 ≤ s.toInt) : ((s >>> ((0 : Int32) - 1 &&& 31)) &&& 1) = 0 := by
  have h1 : s.toBitVec.msb = false := by
    rw [BitVec.msb_eq_toInt]
    have : s.toBitVec.toInt = s.toInt := rfl
    rw [this]; simp; omega
  have h2 : (s >>> ((0 : Int32) - 1 &&& 31)) = 0 ∨ True := Or.inr trivial
  have : ∀ b : BitVec 32, b.msb = false → BitVec.sshiftRight b 31 &&& 1#32 = 0#32 := by
    intro b hb; bv_decide
  apply Int32.toBitVec_inj.mp
  have h3 := this _ h1
  rw [Int32.toBitVec_and, Int32.toBitVec_shiftRight]
  exact h3
/-- the rest of a division of longs -/
theorem tl_rem {x y : Int64} {a b : Int} (hx : x.toInt = a) (hy : y.toInt = b) : (x - x / y * y).toInt = (a.tmod b).bmod (2 ^ 64) := by
  rw [Int64.toInt_sub, Int64.toInt_mul, Int64.toInt_div, hx, hy, Int.sub_bmod_bmod, Int.bmod_mul_bmod, Int.tmod_def, Int.mul_comm b]
theorem tl_rem_abs {x y : Int64} (hy : ¬ y = 0) : ((x - x / y * y).toInt).natAbs < y.toInt.natAbs := by
  have hb : ¬ y.toInt = 0 := fun q => hy (Int64.toInt_inj.mp q)
  have h2 := i64 y
  have h1 : (x.toInt.tmod y.toInt).natAbs < y.toInt.natAbs := by
    rw [Int.natAbs_tmod]; exact Nat.mod_lt _ (by omega)
  rw [tl_rem rfl rfl, Int.bmod_eq_of_le (by omega) (by omega)]
  exact h1
