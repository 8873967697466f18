section PT7x1
/-- all below a place -/
noncomputable def pB (w : Int) (j : Nat) : Prop := (j : Int) < w
theorem CK.men {f : Nat → Int32} (h : CK f) {v : Int32} {b : Nat} (hb : b < 5) (hv : v.toInt = (f (324 * b)).toInt + 1) (h6 : v.toInt ≤ 6) (hk : 1 ≤ (f (324 * b + 40 + (f (324 * b)).toInt.toNat)).toInt) : CK (upd f (324 * b) v) := by
  have h0 := (h.1 (324 * b)).1 (by omega)
  have hs : ∀ k : Nat, ¬ k = 324 * b → upd f (324 * b) v k = f k := fun k hk => upd_i hk
  refine ⟨fun k => ?_, fun c k hc hk2 => ?_, fun c s hc hd hs2 => ?_⟩
  · by_cases hk : k = 324 * b
    · subst hk
      rw [upd_s]
      unfold CB
      omega
    · rw [upd_i hk]; exact h.1 k
  · by_cases q : c = b
    · subst q
      rw [upd_s, hv] at hk2
      rw [hs _ (by omega)]
      by_cases r : (k : Int) < (f (324 * c)).toInt
      · exact h.2.1 c k hc r
      · rw [show k = (f (324 * c)).toInt.toNat by omega]; exact hk
    · rw [hs _ (by omega)] at hk2
      have h6 := (h.1 (324 * c)).1 (by omega)
      rw [hs _ (by omega)]
      exact h.2.1 c k hc hk2
  · rw [hs _ (by omega)] at hd hs2
    have h6 := (h.1 (324 * c + 53)).2.2.1 (by omega)
    have q := h.2.2 c s hc hd hs2
    unfold RecOk at q ⊢
    simp only [hs (324 * c + 54 + 9 * s + 8) (by omega), hs (324 * c + 53) (by omega), hs (324 * c + 54 + 9 * s) (by omega), hs (324 * c + 54 + 9 * s + 1) (by omega), hs (324 * c + 54 + 9 * s + 2) (by omega), hs (324 * c + 54 + 9 * s + 3) (by omega), hs (324 * c + 54 + 9 * s + 5) (by omega)]
    by_cases r : c = b
    · subst r
      rw [upd_s, hv]
      unfold Rec at q ⊢
      omega
    · rw [hs (324 * c) (by omega)]; exact q
theorem Bd.cmen {I : Im} (h : Bd I) {i v w : Int32} {b m : Nat} (hm : m = 324 * b) (hi : Int32.toNatClampNeg i = m) (hb : b < 5) (hv : v.toInt = (I 102 m).toInt + 1) (h6 : v.toInt ≤ 6) (hw : ((Int32.toNatClampNeg w : Nat) : Int) = m + 40 + (I 102 m).toInt) (hs : 1 ≤ (I 102 (Int32.toNatClampNeg w)).toInt) : Bd (uI I 102 (Int32.toNatClampNeg i) v) := by
  subst hm
  rw [hi]
  have h0 := (h.ck.1 (324 * b)).1 (by omega)
  refine hb102 h (h.ck.men hb hv h6 ?_)
  rw [show 324 * b + 40 + (I 102 (324 * b)).toInt.toNat = Int32.toNatClampNeg w by omega]
  exact hs
theorem mul30 {a b : Int} (ha : 1 ≤ a ∧ a ≤ 30) (hb : 1 ≤ b ∧ b ≤ 30) : 1 ≤ a * b ∧ a * b ≤ 900 := by
  have h1 : 1 * 1 ≤ a * b := Int.mul_le_mul ha.1 hb.1 (by decide) (by omega)
  have h2 : a * b ≤ 30 * 30 := Int.mul_le_mul ha.2 hb.2 (by omega) (by decide)
  omega
/-- a slice that is in a set of slices is none of 0 -/
theorem of0 {s d : Int32} (h : 0 ≤ s.toInt) (hz : d.toInt = 0) : ((s >>> ((d - 1) &&& 31)) &&& 1).toInt = 0 := by
  rw [show d = 0 from Int32.toInt_inj.mp hz]
  have h3 : s.toBitVec.sshiftRight 31 = 0#32 := by
    apply BitVec.eq_of_toInt_eq
    rw [BitVec.toInt_sshiftRight, Int.shiftRight_eq_div_pow]
    have h4 := i32 s
    have h5 : s.toBitVec.toInt = s.toInt := rfl
    rw [h5]
    exact Int.ediv_eq_zero_of_lt h (by omega)
  have h6 : (s >>> (((0 : Int32) - 1) &&& 31)).toBitVec = s.toBitVec.sshiftRight 31 := rfl
  have h7 : (s >>> (((0 : Int32) - 1) &&& 31)) = 0 := Int32.toBitVec_inj.mp (h6.trans h3)
  rw [h7]; rfl
theorem Bd.known0 {I : Im} (h : Bd I) : 0 ≤ (I 102 3).toInt := (Bd.c h (j := 3) (z := 3) rfl).2.1 (by decide)
theorem Bd.men {I : Im} (h : Bd I) : 0 ≤ (I 102 0).toInt ∧ (I 102 0).toInt ≤ 6 := (Bd.c h (j := 0) (z := 0) rfl).1 (by decide)
/-- what is due to a man that there is can be divided -/
theorem Bd.div0 {I : Im} (h : Bd I) {v : Int32} (h0 : 0 ≤ v.toInt) (hv : v.toInt < (I 102 0).toInt) : 1 ≤ (I 102 (Int32.toNatClampNeg (40 + v))).toInt ∧ v.toInt ≤ 5 := by
  have h6 := h.men
  refine ⟨Bd.div h (b := 0) (k := v.toInt.toNat) (ti_add rfl rfl (show -2147483648 ≤ 40 + v.toInt ∧ 40 + v.toInt < 2147483648 by omega)) (show 40 + v.toInt = 324 * ((0 : Nat) : Int) + 40 + ((v.toInt.toNat : Nat) : Int) by omega) (by decide) (show ((v.toInt.toNat : Nat) : Int) < (I 102 0).toInt by omega), by omega⟩
/-- the rest of a division of longs -/
theorem tl_rem {x y : Int64} {a b : Int} (hx : x.toInt = a) (hy : y.toInt = b) : (x - x / y * y).toInt = (a.tmod b).bmod (2 ^ 64) := by
  rw [Int64.toInt_sub, Int64.toInt_mul, Int64.toInt_div, hx, hy, Int.bmod_mul_bmod, Int.sub_bmod_bmod, Int.tmod_def, Int.mul_comm b]
theorem tl_rem_abs {x y : Int64} (hy : ¬ y = 0) : ((x - x / y * y).toInt).natAbs < y.toInt.natAbs := by
  have hb : ¬ y.toInt = 0 := fun q => hy (Int64.toInt_inj.mp q)
  have h2 := i64 y
  have h1 : (x.toInt.tmod y.toInt).natAbs < y.toInt.natAbs := by
    rw [Int.natAbs_tmod]; exact Nat.mod_lt _ (by omega)
  rw [tl_rem rfl rfl, Int.bmod_eq_of_le (by omega) (by omega)]
  exact h1
theorem sp_X12_fraction {d : Nat} {Q : Qt} {v1 v3 : Int64} {I : Im} {J : Jm} {R : Rm} (hB0 : Bd I) (hR0 : RI R) (hb : ¬ v3 = 0) (hQ : ∀ (x : Int32) (y : Int64) (I2 : Im) (J2 : Jm), Bd I2 → x.toInt = 1 → Q x y I2 J2 R) : AM (d + 1) 179 112 [.ref 97, .long v1, .long v3] I J R Q := by
  refine am_X12_fraction (fun P hc => ?_)
  have L : ∀ n : Nat, ∀ v5 v7 : Int64, v7.toInt.natAbs < n → (¬ v5 = 0 ∨ ¬ v7 = 0) → P 9 112 [(0, .ref 97), (1, .long v1), (3, .long v3), (5, .long v5), (7, .long v7)] [] I J R := by
    intro n
    induction n with
    | zero => intro _ _ h; omega
    | succ n ih =>
      intro v5 v7 hm h5
      refine sg_X12_fraction_9 hc v1 v3 v5 v7 I J R ⟨fun c => ?_, fun c => ?_⟩
      · rw [lg_cmp_eq] at c
        have h5' : ¬ v5 = 0 := h5.resolve_right (fun q => q c)
        exact ⟨h5', h5', Or.inr rfl, hQ _ _ _ _ hB0 rfl⟩
      · rw [lg_cmp_eq] at c
        exact ⟨c, ih v7 _ (by have := tl_rem_abs (x := v5) c; omega) (Or.inl c)⟩
  exact sg_X12_fraction_0 hc v1 v3 I J R (L (v3.toInt.natAbs + 1) _ _ (Nat.lt_succ_self _) (Or.inr hb))
/-- one step of the greedy row: what is left falls -/
theorem greedy1 {l y d : Int64} {a b : Int} (hl : l.toInt = a) (hy : y.toInt = b) (ha : 1 ≤ a ∧ a ≤ 29) (hb : 1 ≤ b ∧ b ≤ 300000000000000000) (hd : d = (y + l - 1) / l) (hD : d.toInt ≤ 100000000) : 0 ≤ (l * d - y).toInt ∧ (l * d - y).toInt < a ∧ 1 ≤ (y * d).toInt ∧ (y * d).toInt ≤ 300000000000000000 ∧ 1 ≤ d.toInt := by
  have h1 : (y + l - 1).toInt = b + a - 1 := tl_sub (tl_add hy hl (by omega)) rfl (by omega)
  have h2 : d.toInt = (b + a - 1) / a := by
    rw [hd, Int64.toInt_div, h1, hl, Int.tdiv_eq_ediv_of_nonneg (by omega)]
    have h3 : 0 ≤ (b + a - 1) / a := Int.ediv_nonneg (by omega) (by omega)
    have h4 : (b + a - 1) / a ≤ b + a - 1 := Int.ediv_le_self _ (by omega)
    exact tl_bmod (by omega) (by omega)
  have h3 := Int.mul_ediv_add_emod (b + a - 1) a
  have h4 := Int.emod_nonneg (b + a - 1) (show a ≠ 0 by omega)
  have h5 := Int.emod_lt_of_pos (b + a - 1) (show 0 < a by omega)
  rw [← h2] at h3
  have h6 : 1 ≤ d.toInt := by
    rcases Int.lt_or_le d.toInt 1 with q | q
    · have : a * d.toInt ≤ a * 0 := Int.mul_le_mul_of_nonneg_left (by omega) (by omega)
      omega
    · exact q
  have h7 : a * d.toInt ≤ 29 * d.toInt := Int.mul_le_mul_of_nonneg_right (by omega) (by omega)
  have h8 : b * 1 ≤ b * d.toInt := Int.mul_le_mul_of_nonneg_left h6 (by omega)
  have h9 : b * d.toInt ≤ 2900000000 * d.toInt := Int.mul_le_mul_of_nonneg_right (by omega) (by omega)
  have e1 : (l * d).toInt = a * d.toInt := by rw [Int64.toInt_mul, hl]; exact tl_bmod (by omega) (by omega)
  have e2 : (y * d).toInt = b * d.toInt := by rw [Int64.toInt_mul, hy]; exact tl_bmod (by omega) (by omega)
  have e3 : (l * d - y).toInt = a * d.toInt - b := tl_sub e1 hy (by omega)
  rw [e2, e3]
  omega
/-- one part comes of another by one cut -/
noncomputable def CO (d e : Int32) : Prop := (¬ e ≤ d ∧ e - e / d * d = 0) ∨ ∃ f : Int32, 1 ≤ f.toInt ∧ f.toInt ≤ 30 ∧ (2329089562800 : Int64) / e.toInt64 + 2329089562800 / f.toInt64 = 2329089562800 / d.toInt64
noncomputable def CF (d e : Int32) (n : Int) : Prop := ∀ f : Int32, 1 ≤ f.toInt → f.toInt < n → ¬ (2329089562800 : Int64) / e.toInt64 + 2329089562800 / f.toInt64 = 2329089562800 / d.toInt64
theorem CF.zero {d e : Int32} {n : Int} (h : n ≤ 1) : CF d e n := fun f h1 h2 => absurd h2 (by omega)
end PT7x1
