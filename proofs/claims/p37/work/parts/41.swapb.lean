section PT7x1
theorem Bd.cmen {I : Im} (h : Bd I) {i v w : Int32} {b m : Nat} (hm : m = 324 * b) (hi : Int32.toNatClampNeg i = m) (hb : b < 5) (hv : v.toInt = (I 102 m).toInt + 1) (h6 : v.toInt ≤ 6) (hw : ((Int32.toNatClampNeg w : Nat) : Int) = m + 40 + (I 102 m).toInt) (hs : 1 ≤ (I 102 (Int32.toNatClampNeg w)).toInt) : Bd (uI I 102 (Int32.toNatClampNeg i) v) := by
  subst hm
  rw [hi]
  have h0 := (h.ck.1 (324 * b)).1 (by omega)
  refine hb102 h (h.ck.men hb hv h6 ?_)
  rw [show 324 * b + 40 + (I 102 (324 * b)).toInt.toNat = Int32.toNatClampNeg w by omega]
  exact hs
theorem mul30 {a b : Int} (ha : 1 ≤ a ∧ a ≤ 30) (hb : 1 ≤ b ∧ b ≤ 30) : 1 ≤ a * b ∧ a * b ≤ 900 := by
  have h1 : 1 * 1 ≤ a * b := Int.mul_le_mul ha.1 hb.1 (by decide) (by omega)
  have h2 : a * b ≤ 30 * 30 := Int.mul_le_mul ha.2 hb.2 (by omega) (by decide)
  omega
/-- a slice that is in a set of slices is none of 0 -/
theorem of0 {s d : Int32} (h : 0 ≤ s.toInt) (hz : d.toInt = 0) : ((s >>> ((d - 1) &&& 31)) &&& 1).toInt = 0 := by
  rw [show d = 0 from Int32.toInt_inj.mp hz]
  have h3 : s.toBitVec.sshiftRight 31 = 0#32 := by
    apply BitVec.eq_of_toInt_eq
    rw [BitVec.toInt_sshiftRight, Int.shiftRight_eq_div_pow]
    have h4 := i32 s
    have h5 : s.toBitVec.toInt = s.toInt := rfl
    rw [h5]
    exact Int.ediv_eq_zero_of_lt h (by omega)
  have h6 : (s >>> (((0 : Int32) - 1) &&& 31)).toBitVec = s.toBitVec.sshiftRight 31 := rfl
  have h7 : (s >>> (((0 : Int32) - 1) &&& 31)) = 0 := Int32.toBitVec_inj.mp (h6.trans h3)
  rw [h7]; rfl
theorem Bd.known0 {I : Im} (h : Bd I) : 0 ≤ (I 102 3).toInt := (Bd.c h (j := 3) (z := 3) rfl).2.1 (by decide)
theorem Bd.men {I : Im} (h : Bd I) : 0 ≤ (I 102 0).toInt ∧ (I 102 0).toInt ≤ 6 := (Bd.c h (j := 0) (z := 0) rfl).1 (by decide)
/-- what is due to a man that there is can be divided -/
theorem Bd.div0 {I : Im} (h : Bd I) {v : Int32} (h0 : 0 ≤ v.toInt) (hv : v.toInt < (I 102 0).toInt) : 1 ≤ (I 102 (Int32.toNatClampNeg (40 + v))).toInt ∧ v.toInt ≤ 5 := by
  have h6 := h.men
  refine ⟨Bd.div h (b := 0) (k := v.toInt.toNat) (ti_add rfl rfl (show -2147483648 ≤ 40 + v.toInt ∧ 40 + v.toInt < 2147483648 by omega)) (show 40 + v.toInt = 324 * ((0 : Nat) : Int) + 40 + ((v.toInt.toNat : Nat) : Int) by omega) (by decide) (show ((v.toInt.toNat : Nat) : Int) < (I 102 0).toInt by omega), by omega⟩
/-- the rest of a division of longs -/
theorem tl_rem {x y : Int64} {a b : Int} (hx : x.toInt = a) (hy : y.toInt = b) : (x - x / y * y).toInt = (a.tmod b).bmod (2 ^ 64) := by
  rw [Int64.toInt_sub, Int64.toInt_mul, Int64.toInt_div, hx, hy, Int.bmod_mul_bmod, Int.sub_bmod_bmod, Int.tmod_def, Int.mul_comm b]
theorem tl_rem_abs {x y : Int64} (hy : ¬ y = 0) : ((x - x / y * y).toInt).natAbs < y.toInt.natAbs := by
  have hb : ¬ y.toInt = 0 := fun q => hy (Int64.toInt_inj.mp q)
  have h2 := i64 y
  have h1 : (x.toInt.tmod y.toInt).natAbs < y.toInt.natAbs := by
    rw [Int.natAbs_tmod]; exact Nat.mod_lt _ (by omega)
  rw [tl_rem rfl rfl, Int.bmod_eq_of_le (by omega) (by omega)]
  exact h1
theorem sp_X12_fraction {d : Nat} {Q : Qt} {v1 v3 : Int64} {I : Im} {J : Jm} {R : Rm} (hB0 : Bd I) (hR0 : RI R) (hb : ¬ v3 = 0) (hQ : ∀ (x : Int32) (y : Int64) (I2 : Im) (J2 : Jm), Bd I2 → x.toInt = 1 → Q x y I2 J2 R) : AM (d + 1) 179 112 [.ref 97, .long v1, .long v3] I J R Q := by
  refine am_X12_fraction (fun P hc => ?_)
  have L : ∀ n : Nat, ∀ v5 v7 : Int64, v7.toInt.natAbs < n → (¬ v5 = 0 ∨ ¬ v7 = 0) → P 9 112 [(0, .ref 97), (1, .long v1), (3, .long v3), (5, .long v5), (7, .long v7)] [] I J R := by
    intro n
    induction n with
    | zero => intro _ _ h; omega
    | succ n ih =>
      intro v5 v7 hm h5
      refine sg_X12_fraction_9 hc v1 v3 v5 v7 I J R ⟨fun c => ?_, fun c => ?_⟩
      · rw [lg_cmp_eq] at c
        have h5' : ¬ v5 = 0 := h5.resolve_right (fun q => q c)
        exact ⟨h5', h5', Or.inr rfl, hQ _ _ _ _ hB0 rfl⟩
      · rw [lg_cmp_eq] at c
        exact ⟨c, ih v7 _ (by have := tl_rem_abs (x := v5) c; omega) (Or.inl c)⟩
  exact sg_X12_fraction_0 hc v1 v3 I J R (L (v3.toInt.natAbs + 1) _ _ (Nat.lt_succ_self _) (Or.inr hb))
/-- one step of the greedy row: what is left falls -/
theorem greedy1 {l y d : Int64} {a b : Int} (hl : l.toInt = a) (hy : y.toInt = b) (ha : 1 ≤ a ∧ a ≤ 29) (hb : 1 ≤ b ∧ b ≤ 300000000000000000) (hd : d = (y + l - 1) / l) (hD : d.toInt ≤ 100000000) : 0 ≤ (l * d - y).toInt ∧ (l * d - y).toInt < a ∧ 1 ≤ (y * d).toInt ∧ (y * d).toInt ≤ 300000000000000000 ∧ 1 ≤ d.toInt := by
  have h1 : (y + l - 1).toInt = b + a - 1 := tl_sub (tl_add hy hl (by omega)) rfl (by omega)
  have h2 : d.toInt = (b + a - 1) / a := by
    rw [hd, Int64.toInt_div, h1, hl, Int.tdiv_eq_ediv_of_nonneg (by omega)]
    have h3 : 0 ≤ (b + a - 1) / a := Int.ediv_nonneg (by omega) (by omega)
    have h4 : (b + a - 1) / a ≤ b + a - 1 := Int.ediv_le_self _ (by omega)
    exact tl_bmod (by omega) (by omega)
  have h3 := Int.mul_ediv_add_emod (b + a - 1) a
  have h4 := Int.emod_nonneg (b + a - 1) (show a ≠ 0 by omega)
  have h5 := Int.emod_lt_of_pos (b + a - 1) (show 0 < a by omega)
  rw [← h2] at h3
  have h6 : 1 ≤ d.toInt := by
    rcases Int.lt_or_le d.toInt 1 with q | q
    · have : a * d.toInt ≤ a * 0 := Int.mul_le_mul_of_nonneg_left (by omega) (by omega)
      omega
    · exact q
  have h7 : a * d.toInt ≤ 29 * d.toInt := Int.mul_le_mul_of_nonneg_right (by omega) (by omega)
  have h8 : b * 1 ≤ b * d.toInt := Int.mul_le_mul_of_nonneg_left h6 (by omega)
  have h9 : b * d.toInt ≤ 2900000000 * d.toInt := Int.mul_le_mul_of_nonneg_right (by omega) (by omega)
  have e1 : (l * d).toInt = a * d.toInt := by rw [Int64.toInt_mul, hl]; exact tl_bmod (by omega) (by omega)
  have e2 : (y * d).toInt = b * d.toInt := by rw [Int64.toInt_mul, hy]; exact tl_bmod (by omega) (by omega)
  have e3 : (l * d - y).toInt = a * d.toInt - b := tl_sub e1 hy (by omega)
  rw [e2, e3]
  omega
/-- one part comes of another by one cut -/
noncomputable def CO (d e : Int32) : Prop := (¬ e ≤ d ∧ e - e / d * d = 0) ∨ ∃ f : Int32, 1 ≤ f.toInt ∧ f.toInt ≤ 30 ∧ (2329089562800 : Int64) / e.toInt64 + 2329089562800 / f.toInt64 = 2329089562800 / d.toInt64
noncomputable def CF (d e : Int32) (n : Int) : Prop := ∀ f : Int32, 1 ≤ f.toInt → f.toInt < n → ¬ (2329089562800 : Int64) / e.toInt64 + 2329089562800 / f.toInt64 = 2329089562800 / d.toInt64
theorem CF.zero {d e : Int32} {n : Int} (h : n ≤ 1) : CF d e n := fun f h1 h2 => absurd h2 (by omega)
theorem CF.step {d e f : Int32} {n : Int} (h : CF d e f.toInt) (hn : n = f.toInt + 1) (hf : ¬ (2329089562800 : Int64) / e.toInt64 + 2329089562800 / f.toInt64 = 2329089562800 / d.toInt64) : CF d e n := by
  intro g h1 h2
  by_cases q : g = f
  · rw [q]; exact hf
  · exact h g h1 (by have : ¬ g.toInt = f.toInt := fun z => q (Int32.toInt_inj.mp z); omega)
theorem CF.no {d e : Int32} {n : Int} (h : CF d e n) (hn : 31 ≤ n) (h1 : ¬ (¬ e ≤ d ∧ e - e / d * d = 0)) : ¬ CO d e := by
  intro q
  rcases q with q | ⟨f, f1, f2, f3⟩
  · exact h1 q
  · exact h f f1 (by omega) f3
/-- of each that has been reached there is one before it -/
noncomputable def RQ (I : Im) : Prop := ∀ d : Int32, 1 ≤ d.toInt → d.toInt ≤ 30 → 1 ≤ (I 108 d.toNatClampNeg).toInt → ∃ e : Int32, 1 ≤ e.toInt ∧ e.toInt ≤ 30 ∧ (I 108 e.toNatClampNeg).toInt = (I 108 d.toNatClampNeg).toInt - 1 ∧ CO d e
noncomputable def RZ (I : Im) (n : Int) : Prop := ∀ j : Int32, 0 ≤ j.toInt → j.toInt < n → (I 108 j.toNatClampNeg).toInt ≤ 0
theorem RZ.zero {I : Im} {n : Int} (h : n ≤ 0) : RZ I n := fun j h1 h2 => absurd h2 (by omega)
theorem RZ.step {I : Im} {i v : Int32} {n : Int} (h : RZ I i.toInt) (h0 : 0 ≤ i.toInt) (hn : n = i.toInt + 1) (hv : v.toInt ≤ 0) : RZ (uI I 108 (Int32.toNatClampNeg i) v) n := by
  intro j h1 h2
  by_cases q : j = i
  · rw [q, rd_eq]; exact hv
  · have h3 : ¬ j.toInt = i.toInt := fun z => q (Int32.toInt_inj.mp z)
    rw [rd_k (by have := tn_of (x := j) rfl h1; have := tn_of (x := i) rfl h0; omega)]
    exact h j h1 (by omega)
theorem RZ.rq {I : Im} {n : Int} (h : RZ I n) (hn : 31 ≤ n) : RQ I := fun d h1 h2 h3 => absurd (h d (by omega) (by omega)) (by omega)
theorem RQ.set {I : Im} {i v : Int32} (h : RQ I) (h1 : 1 ≤ i.toInt ∧ i.toInt ≤ 30) (hn : (I 108 i.toNatClampNeg).toInt < 0) (hv : 1 ≤ v.toInt) (he : ∃ e : Int32, 1 ≤ e.toInt ∧ e.toInt ≤ 30 ∧ (I 108 e.toNatClampNeg).toInt = v.toInt - 1 ∧ CO i e) : RQ (uI I 108 (Int32.toNatClampNeg i) v) := by
  have hr : ∀ j : Int32, 1 ≤ j.toInt → ¬ j = i → uI I 108 (Int32.toNatClampNeg i) v 108 j.toNatClampNeg = I 108 j.toNatClampNeg := fun j hj q => by
    have h3 : ¬ j.toInt = i.toInt := fun z => q (Int32.toInt_inj.mp z)
    exact rd_k (by have := tn_of (x := j) rfl (by omega); have := tn_of (x := i) rfl (by omega); omega)
  intro d d1 d2 d3
  by_cases q : d = i
  · subst q
    rw [rd_eq] at d3 ⊢
    obtain ⟨e, e1, e2, e3, e4⟩ := he
    refine ⟨e, e1, e2, ?_, e4⟩
    rw [hr e e1 (fun z => by subst z; omega)]; exact e3
  · rw [hr d d1 q] at d3 ⊢
    obtain ⟨e, e1, e2, e3, e4⟩ := h d d1 d2 d3
    refine ⟨e, e1, e2, ?_, e4⟩
    rw [hr e e1 (fun z => by subst z; omega)]; exact e3
end PT7x1
