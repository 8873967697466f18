/-! ===== what of the reference's blocks stays; small lemmas ===== -/
noncomputable def Fr (P : Nat → Prop) (I I2 : Im) : Prop := (∀ j, P j → I2 102 j = I 102 j) ∧ I2 103 = I 103
theorem Fr.refl (P : Nat → Prop) (I : Im) : Fr P I I := ⟨fun _ _ => rfl, rfl⟩
theorem Fr.o {P : Nat → Prop} {I M : Im} {o k : Nat} {v : Int32} (h : Fr P I M) (ho : ¬ (102 : Nat) = o) (ho2 : ¬ (103 : Nat) = o) : Fr P I (uI M o k v) := by
  refine ⟨fun j hj => ?_, ?_⟩
  · rw [uI_ne ho]; exact h.1 j hj
  · rw [uI_ne ho2]; exact h.2
theorem Fr.w {P : Nat → Prop} {I M : Im} {i v : Int32} {z : Int} (h : Fr P I M) (hi : i.toInt = z) (h0 : 0 ≤ z) (hp : ∀ j : Nat, (j : Int) = z → P j → False) : Fr P I (uI M 102 (Int32.toNatClampNeg i) v) := by
  refine ⟨fun j hj => ?_, ?_⟩
  · have hz := tn_of hi h0
    rw [rd_k (fun q => hp j (by omega) hj)]
    exact h.1 j hj
  · rw [uI_ne (by decide)]; exact h.2
theorem Fr.tr {P Q : Nat → Prop} {I M N : Im} (h1 : Fr P I M) (h2 : Fr Q M N) (hq : ∀ j, P j → Q j) : Fr P I N := ⟨fun j hj => by rw [h2.1 j (hq j hj), h1.1 j hj], h2.2.trans h1.2⟩
noncomputable def pT : Nat → Prop := fun _ => True
theorem Fr.eq {I M : Im} (h : Fr pT I M) : M 102 = I 102 := funext fun j => h.1 j trivial
/-- the days, who are there, by what their dues are divided -/
noncomputable def pD (j : Nat) : Prop := j = 0 ∨ (40 ≤ j ∧ j ≤ 45) ∨ 52 ≤ j ∨ j = 3
/-- how many men, what is known, now and kept -/
noncomputable def pK (j : Nat) : Prop := j = 0 ∨ j = 3 ∨ j = 324 ∨ j = 327 ∨ j = 648 ∨ j = 651 ∨ j = 972 ∨ j = 975
theorem pK_D : ∀ j, pK j → pD j := fun j h => by unfold pK at h; unfold pD; omega
noncomputable def KC (I I2 : Im) : Prop := ∀ j, pK j → I2 102 j = I 102 j
/-- all but a record's fields -/
noncomputable def pW (w : Int) (j : Nat) : Prop := (j : Int) ≤ w ∨ w + 8 ≤ (j : Int)
/-- all below a place -/
noncomputable def pB (w : Int) (j : Nat) : Prop := (j : Int) < w
theorem CK.men {f : Nat → Int32} (h : CK f) {v : Int32} {b : Nat} (hb : b < 5) (hv : v.toInt = (f (324 * b)).toInt + 1) (h6 : v.toInt ≤ 6) (hk : 1 ≤ (f (324 * b + 40 + (f (324 * b)).toInt.toNat)).toInt) : CK (upd f (324 * b) v) := by
  have h0 := (h.1 (324 * b)).1 (by omega)
  have hs : ∀ k : Nat, ¬ k = 324 * b → upd f (324 * b) v k = f k := fun k hk => upd_i hk
  refine ⟨fun k => ?_, fun c k hc hk2 => ?_, fun c s hc hd hs2 => ?_⟩
  · by_cases hk : k = 324 * b
    · subst hk
      rw [upd_s]
      unfold CB
      omega
    · rw [upd_i hk]; exact h.1 k
  · by_cases q : c = b
    · subst q
      rw [upd_s, hv] at hk2
      rw [hs _ (by omega)]
      by_cases r : (k : Int) < (f (324 * c)).toInt
      · exact h.2.1 c k hc r
      · rw [show k = (f (324 * c)).toInt.toNat by omega]; exact hk
    · rw [hs _ (by omega)] at hk2
      have h6 := (h.1 (324 * c)).1 (by omega)
      rw [hs _ (by omega)]
      exact h.2.1 c k hc hk2
  · rw [hs _ (by omega)] at hd hs2
    have h6 := (h.1 (324 * c + 53)).2.2.1 (by omega)
    have q := h.2.2 c s hc hd hs2
    unfold RecOk at q ⊢
    simp only [hs (324 * c + 54 + 9 * s + 8) (by omega), hs (324 * c + 53) (by omega), hs (324 * c + 54 + 9 * s) (by omega), hs (324 * c + 54 + 9 * s + 1) (by omega), hs (324 * c + 54 + 9 * s + 2) (by omega), hs (324 * c + 54 + 9 * s + 3) (by omega), hs (324 * c + 54 + 9 * s + 5) (by omega)]
    by_cases r : c = b
    · subst r
      rw [upd_s, hv]
      unfold Rec at q ⊢
      omega
    · rw [hs (324 * c) (by omega)]; exact q
theorem Bd.cmen {I : Im} (h : Bd I) {i v w : Int32} {b m : Nat} (hm : m = 324 * b) (hi : Int32.toNatClampNeg i = m) (hb : b < 5) (hv : v.toInt = (I 102 m).toInt + 1) (h6 : v.toInt ≤ 6) (hw : ((Int32.toNatClampNeg w : Nat) : Int) = m + 40 + (I 102 m).toInt) (hs : 1 ≤ (I 102 (Int32.toNatClampNeg w)).toInt) : Bd (uI I 102 (Int32.toNatClampNeg i) v) := by
  subst hm
  rw [hi]
  have h0 := (h.ck.1 (324 * b)).1 (by omega)
  refine hb102 h (h.ck.men hb hv h6 ?_)
  rw [show 324 * b + 40 + (I 102 (324 * b)).toInt.toNat = Int32.toNatClampNeg w by omega]
  exact hs
theorem mul30 {a b : Int} (ha : 1 ≤ a ∧ a ≤ 30) (hb : 1 ≤ b ∧ b ≤ 30) : 1 ≤ a * b ∧ a * b ≤ 900 := by
  have h1 : 1 * 1 ≤ a * b := Int.mul_le_mul ha.1 hb.1 (by decide) (by omega)
  have h2 : a * b ≤ 30 * 30 := Int.mul_le_mul ha.2 hb.2 (by omega) (by decide)
  omega
/-- a slice that is in a set of slices is none of 0 -/
theorem of0 {s d : Int32} (h : 0 ≤ s.toInt) (hz : d.toInt = 0) : ((s >>> ((d - 1) &&& 31)) &&& 1).toInt = 0 := by
  rw [show d = 0 from Int32.toInt_inj.mp hz]
  have h3 : s.toBitVec.sshiftRight 31 = 0#32 := by
    apply BitVec.eq_of_toInt_eq
    rw [BitVec.toInt_sshiftRight, Int.shiftRight_eq_div_pow]
    have h4 := i32 s
    have h5 : s.toBitVec.toInt = s.toInt := rfl
    rw [h5]
    exact Int.ediv_eq_zero_of_lt h (by omega)
  have h6 : (s >>> (((0 : Int32) - 1) &&& 31)).toBitVec = s.toBitVec.sshiftRight 31 := rfl
  have h7 : (s >>> (((0 : Int32) - 1) &&& 31)) = 0 := Int32.toBitVec_inj.mp (h6.trans h3)
  rw [h7]; rfl
theorem Bd.known0 {I : Im} (h : Bd I) : 0 ≤ (I 102 3).toInt := (Bd.c h (j := 3) (z := 3) rfl).2.1 (by decide)
theorem Bd.men {I : Im} (h : Bd I) : 0 ≤ (I 102 0).toInt ∧ (I 102 0).toInt ≤ 6 := (Bd.c h (j := 0) (z := 0) rfl).1 (by decide)
/-- what is due to a man that there is can be divided -/
theorem Bd.div0 {I : Im} (h : Bd I) {v : Int32} (h0 : 0 ≤ v.toInt) (hv : v.toInt < (I 102 0).toInt) : 1 ≤ (I 102 (Int32.toNatClampNeg (40 + v))).toInt ∧ v.toInt ≤ 5 := by
  have h6 := h.men
  refine ⟨Bd.div h (b := 0) (k := v.toInt.toNat) (ti_add rfl rfl (show -2147483648 ≤ 40 + v.toInt ∧ 40 + v.toInt < 2147483648 by omega)) (show 40 + v.toInt = 324 * ((0 : Nat) : Int) + 40 + ((v.toInt.toNat : Nat) : Int) by omega) (by decide) (show ((v.toInt.toNat : Nat) : Int) < (I 102 0).toInt by omega), by omega⟩
/-- the rest of a division of longs -/
theorem tl_rem {x y : Int64} {a b : Int} (hx : x.toInt = a) (hy : y.toInt = b) : (x - x / y * y).toInt = (a.tmod b).bmod (2 ^ 64) := by
  rw [Int64.toInt_sub, Int64.toInt_mul, Int64.toInt_div, hx, hy, Int.bmod_mul_bmod, Int.sub_bmod_bmod, Int.tmod_def, Int.mul_comm b]
theorem tl_rem_abs {x y : Int64} (hy : ¬ y = 0) : ((x - x / y * y).toInt).natAbs < y.toInt.natAbs := by
  have hb : ¬ y.toInt = 0 := fun q => hy (Int64.toInt_inj.mp q)
  have h2 := i64 y
  have h1 : (x.toInt.tmod y.toInt).natAbs < y.toInt.natAbs := by
    rw [Int.natAbs_tmod]; exact Nat.mod_lt _ (by omega)
  rw [tl_rem rfl rfl, Int.bmod_eq_of_le (by omega) (by omega)]
  exact h1
theorem sp_X12_fraction {d : Nat} {Q : Qt} {v1 v3 : Int64} {I : Im} {J : Jm} {R : Rm} (hB0 : Bd I) (hR0 : RI R) (hb : ¬ v3 = 0) (hQ : ∀ (x : Int32) (y : Int64) (I2 : Im) (J2 : Jm), Bd I2 → x.toInt = 1 → Q x y I2 J2 R) : AM (d + 1) 179 112 [.ref 97, .long v1, .long v3] I J R Q := by
  refine am_X12_fraction (fun P hc => ?_)
  have L : ∀ n : Nat, ∀ v5 v7 : Int64, v7.toInt.natAbs < n → (¬ v5 = 0 ∨ ¬ v7 = 0) → P 9 112 [(0, .ref 97), (1, .long v1), (3, .long v3), (5, .long v5), (7, .long v7)] [] I J R := by
    intro n
    induction n with
    | zero => intro _ _ h; omega
    | succ n ih =>
      intro v5 v7 hm h5
      refine sg_X12_fraction_9 hc v1 v3 v5 v7 I J R ⟨fun c => ?_, fun c => ?_⟩
      · rw [lg_cmp_eq] at c
        have h5' : ¬ v5 = 0 := h5.resolve_right (fun q => q c)
        exact ⟨h5', h5', Or.inr rfl, hQ _ _ _ _ hB0 rfl⟩
      · rw [lg_cmp_eq] at c
        exact ⟨c, ih v7 _ (by have := tl_rem_abs (x := v5) c; omega) (Or.inl c)⟩
  exact sg_X12_fraction_0 hc v1 v3 I J R (L (v3.toInt.natAbs + 1) _ _ (Nat.lt_succ_self _) (Or.inr hb))
/-- one step of the greedy row: what is left falls -/
theorem greedy1 {l y d : Int64} {a b : Int} (hl : l.toInt = a) (hy : y.toInt = b) (ha : 1 ≤ a ∧ a ≤ 29) (hb : 1 ≤ b ∧ b ≤ 300000000000000000) (hd : d = (y + l - 1) / l) (hD : d.toInt ≤ 100000000) : 0 ≤ (l * d - y).toInt ∧ (l * d - y).toInt < a ∧ 1 ≤ (y * d).toInt ∧ (y * d).toInt ≤ 300000000000000000 ∧ 1 ≤ d.toInt := by
  have h1 : (y + l - 1).toInt = b + a - 1 := tl_sub (tl_add hy hl (by omega)) rfl (by omega)
  have h2 : d.toInt = (b + a - 1) / a := by
    rw [hd, Int64.toInt_div, h1, hl, Int.tdiv_eq_ediv_of_nonneg (by omega)]
    have h3 : 0 ≤ (b + a - 1) / a := Int.ediv_nonneg (by omega) (by omega)
    have h4 : (b + a - 1) / a ≤ b + a - 1 := Int.ediv_le_self _ (by omega)
    exact tl_bmod (by omega) (by omega)
  have h3 := Int.mul_ediv_add_emod (b + a - 1) a
  have h4 := Int.emod_nonneg (b + a - 1) (show a ≠ 0 by omega)
  have h5 := Int.emod_lt_of_pos (b + a - 1) (show 0 < a by omega)
  rw [← h2] at h3
  have h6 : 1 ≤ d.toInt := by
    rcases Int.lt_or_le d.toInt 1 with q | q
    · have : a * d.toInt ≤ a * 0 := Int.mul_le_mul_of_nonneg_left (by omega) (by omega)
      omega
    · exact q
  have h7 : a * d.toInt ≤ 29 * d.toInt := Int.mul_le_mul_of_nonneg_right (by omega) (by omega)
  have h8 : b * 1 ≤ b * d.toInt := Int.mul_le_mul_of_nonneg_left h6 (by omega)
  have h9 : b * d.toInt ≤ 2900000000 * d.toInt := Int.mul_le_mul_of_nonneg_right (by omega) (by omega)
  have e1 : (l * d).toInt = a * d.toInt := by rw [Int64.toInt_mul, hl]; exact tl_bmod (by omega) (by omega)
  have e2 : (y * d).toInt = b * d.toInt := by rw [Int64.toInt_mul, hy]; exact tl_bmod (by omega) (by omega)
  have e3 : (l * d - y).toInt = a * d.toInt - b := tl_sub e1 hy (by omega)
  rw [e2, e3]
  omega
/-- one part comes of another by one cut -/
noncomputable def CO (d e : Int32) : Prop := (¬ e ≤ d ∧ e - e / d * d = 0) ∨ ∃ f : Int32, 1 ≤ f.toInt ∧ f.toInt ≤ 30 ∧ (2329089562800 : Int64) / e.toInt64 + 2329089562800 / f.toInt64 = 2329089562800 / d.toInt64
noncomputable def CF (d e : Int32) (n : Int) : Prop := ∀ f : Int32, 1 ≤ f.toInt → f.toInt < n → ¬ (2329089562800 : Int64) / e.toInt64 + 2329089562800 / f.toInt64 = 2329089562800 / d.toInt64
theorem CF.zero {d e : Int32} {n : Int} (h : n ≤ 1) : CF d e n := fun f h1 h2 => absurd h2 (by omega)
theorem CF.step {d e f : Int32} {n : Int} (h : CF d e f.toInt) (hn : n = f.toInt + 1) (hf : ¬ (2329089562800 : Int64) / e.toInt64 + 2329089562800 / f.toInt64 = 2329089562800 / d.toInt64) : CF d e n := by
  intro g h1 h2
  by_cases q : g = f
  · rw [q]; exact hf
  · exact h g h1 (by have : ¬ g.toInt = f.toInt := fun z => q (Int32.toInt_inj.mp z); omega)
theorem CF.no {d e : Int32} {n : Int} (h : CF d e n) (hn : 31 ≤ n) (h1 : ¬ (¬ e ≤ d ∧ e - e / d * d = 0)) : ¬ CO d e := by
  intro q
  rcases q with q | ⟨f, f1, f2, f3⟩
  · exact h1 q
  · exact h f f1 (by omega) f3
/-- of each that has been reached there is one before it -/
noncomputable def RQ (I : Im) : Prop := ∀ d : Int32, 1 ≤ d.toInt → d.toInt ≤ 30 → 1 ≤ (I 108 d.toNatClampNeg).toInt → ∃ e : Int32, 1 ≤ e.toInt ∧ e.toInt ≤ 30 ∧ (I 108 e.toNatClampNeg).toInt = (I 108 d.toNatClampNeg).toInt - 1 ∧ CO d e
noncomputable def RZ (I : Im) (n : Int) : Prop := ∀ j : Int32, 0 ≤ j.toInt → j.toInt < n → (I 108 j.toNatClampNeg).toInt ≤ 0
theorem RZ.zero {I : Im} {n : Int} (h : n ≤ 0) : RZ I n := fun j h1 h2 => absurd h2 (by omega)
theorem RZ.step {I : Im} {i v : Int32} {n : Int} (h : RZ I i.toInt) (h0 : 0 ≤ i.toInt) (hn : n = i.toInt + 1) (hv : v.toInt ≤ 0) : RZ (uI I 108 (Int32.toNatClampNeg i) v) n := by
  intro j h1 h2
  by_cases q : j = i
  · rw [q, rd_eq]; exact hv
  · have h3 : ¬ j.toInt = i.toInt := fun z => q (Int32.toInt_inj.mp z)
    rw [rd_k (by have := tn_of (x := j) rfl h1; have := tn_of (x := i) rfl h0; omega)]
    exact h j h1 (by omega)
theorem RZ.rq {I : Im} {n : Int} (h : RZ I n) (hn : 31 ≤ n) : RQ I := fun d h1 h2 h3 => absurd (h d (by omega) (by omega)) (by omega)
theorem RQ.set {I : Im} {i v : Int32} (h : RQ I) (h1 : 1 ≤ i.toInt ∧ i.toInt ≤ 30) (hn : (I 108 i.toNatClampNeg).toInt < 0) (hv : 1 ≤ v.toInt) (he : ∃ e : Int32, 1 ≤ e.toInt ∧ e.toInt ≤ 30 ∧ (I 108 e.toNatClampNeg).toInt = v.toInt - 1 ∧ CO i e) : RQ (uI I 108 (Int32.toNatClampNeg i) v) := by
  have hr : ∀ j : Int32, 1 ≤ j.toInt → ¬ j = i → uI I 108 (Int32.toNatClampNeg i) v 108 j.toNatClampNeg = I 108 j.toNatClampNeg := fun j hj q => by
    have h3 : ¬ j.toInt = i.toInt := fun z => q (Int32.toInt_inj.mp z)
    exact rd_k (by have := tn_of (x := j) rfl (by omega); have := tn_of (x := i) rfl (by omega); omega)
  intro d d1 d2 d3
  by_cases q : d = i
  · subst q
    rw [rd_eq] at d3 ⊢
    obtain ⟨e, e1, e2, e3, e4⟩ := he
    refine ⟨e, e1, e2, ?_, e4⟩
    rw [hr e e1 (fun z => by subst z; omega)]; exact e3
  · rw [hr d d1 q] at d3 ⊢
    obtain ⟨e, e1, e2, e3, e4⟩ := h d d1 d2 d3
    refine ⟨e, e1, e2, ?_, e4⟩
    rw [hr e e1 (fun z => by subst z; omega)]; exact e3
theorem Bd.n27 {I : Im} (h : Bd I) : 0 ≤ (I 97 27).toInt ∧ (I 97 27).toInt ≤ 30 := h.o (show isO 112 97 12 = true from rfl) (show bnd 12 27 = some _ from rfl)
/-- what a reader of a bakery leaves -/
noncomputable def pR (j : Nat) : Prop := j = 1348
theorem ti_div {x y : Int32} {a b : Int} (hx : x.toInt = a) (hy : y.toInt = b) (ha : 0 ≤ a) (hb : 0 < b) : (x / y).toInt = a / b := by
  have h1 := i32 x
  rw [Int32.toInt_div, hx, hy, Int.tdiv_eq_ediv_of_nonneg ha]
  have h3 : 0 ≤ a / b := Int.ediv_nonneg ha (by omega)
  have h4 : a / b ≤ a := Int.ediv_le_self _ ha
  exact ti_bmod (by omega) (by omega)
theorem ti_rem {x y : Int32} {a b : Int} (hx : x.toInt = a) (hy : y.toInt = b) (ha : 0 ≤ a) (hb : 0 < b) : 0 ≤ (x - x / y * y).toInt ∧ (x - x / y * y).toInt < b ∧ (x - x / y * y).toInt ≤ a := by
  have h1 := i32 x
  have h3 := Int.mul_ediv_add_emod a b
  have h4 := Int.emod_nonneg a (show b ≠ 0 by omega)
  have h5 := Int.emod_lt_of_pos a hb
  have h6 : 0 ≤ a / b := Int.ediv_nonneg ha (by omega)
  have h8 : 0 ≤ b * (a / b) := Int.mul_nonneg (by omega) h6
  have h9 : (x / y * y).toInt = b * (a / b) := by
    rw [Int32.toInt_mul, ti_div hx hy ha hb, hy, Int.mul_comm]
    exact ti_bmod (by omega) (by omega)
  have h10 : (x - x / y * y).toInt = a - b * (a / b) := ti_sub hx h9 (by omega)
  omega
/-- a record's fields, at a place, by its kind -/
noncomputable def RF (f : Nat → Int32) (w : Int32) (men : Int) : Prop := ((f w.toNatClampNeg).toInt = 0 → 1 ≤ (f (w + 1).toNatClampNeg).toInt ∧ (f (w + 1).toNatClampNeg).toInt ≤ 30 ∧ 1 ≤ (f (w + 2).toNatClampNeg).toInt ∧ (f (w + 2).toNatClampNeg).toInt ≤ 30 ∧ 1 ≤ (f (w + 3).toNatClampNeg).toInt ∧ (f (w + 3).toNatClampNeg).toInt ≤ 30) ∧ ((f w.toNatClampNeg).toInt = 1 → 1 ≤ (f (w + 1).toNatClampNeg).toInt ∧ (f (w + 1).toNatClampNeg).toInt ≤ 30 ∧ 2 ≤ (f (w + 2).toNatClampNeg).toInt ∧ (f (w + 2).toNatClampNeg).toInt ≤ 30) ∧
  ((f w.toNatClampNeg).toInt = 2 ∨ (f w.toNatClampNeg).toInt = 3 → 0 ≤ (f (w + 1).toNatClampNeg).toInt ∧ (f (w + 1).toNatClampNeg).toInt < men ∧ 1 ≤ (f (w + 2).toNatClampNeg).toInt ∧ (f (w + 2).toNatClampNeg).toInt ≤ 30) ∧ ((f w.toNatClampNeg).toInt = 4 → 1 ≤ (f (w + 1).toNatClampNeg).toInt ∧ (f (w + 1).toNatClampNeg).toInt ≤ 9) ∧ ((f w.toNatClampNeg).toInt = 6 → ((f (w + 5).toNatClampNeg).toInt = 1 → 1 ≤ (f (w + 1).toNatClampNeg).toInt ∧ (f (w + 1).toNatClampNeg).toInt ≤ 30) ∧ (¬ (f (w + 5).toNatClampNeg).toInt = 1 → 0 ≤ (f (w + 1).toNatClampNeg).toInt ∧ (f (w + 1).toNatClampNeg).toInt < men))
noncomputable def NewOk (f : Nat → Int32) (s : Nat) (n men : Int) : Prop := Rec (f (1350 + 9 * s)).toInt (f (1350 + 9 * s + 1)).toInt (f (1350 + 9 * s + 2)).toInt (f (1350 + 9 * s + 3)).toInt (f (1350 + 9 * s + 5)).toInt (f (1350 + 9 * s + 8)).toInt (s : Int) n men
/-- new records, from one on -/
noncomputable def NR (f : Nat → Int32) (a n men : Int) : Prop := ∀ s : Nat, a ≤ (s : Int) → (s : Int) < n → NewOk f s n men
theorem NR.nil {f : Nat → Int32} {a n men : Int} (h : n ≤ a) : NR f a n men := fun s h1 h2 => absurd h2 (by omega)
theorem NR.app {f g : Nat → Int32} {a n n2 men z : Int} (h1 : NR f a n men) (fr : ∀ j : Nat, (j : Int) < z → g j = f j) (hz : z = 1350 + 9 * n) (h2 : NR g n n2 men) (hn : n ≤ n2) : NR g a n2 men := by
  intro s s1 s2
  by_cases q : (s : Int) < n
  · have h3 := h1 s s1 q
    unfold NewOk at h3 ⊢
    rw [fr (1350 + 9 * s) (by omega), fr (1350 + 9 * s + 1) (by omega), fr (1350 + 9 * s + 2) (by omega), fr (1350 + 9 * s + 3) (by omega), fr (1350 + 9 * s + 5) (by omega), fr (1350 + 9 * s + 8) (by omega)]
    unfold Rec at h3 ⊢
    omega
  · exact h2 s (by omega) s2
theorem w_at {w : Int32} {z : Int} (hw : w.toInt = z) (h0 : 0 ≤ z ∧ z ≤ 1000000) (k : Nat) (hk : k < 10) : (((w + Int32.ofNat k).toNatClampNeg : Nat) : Int) = z + k := by
  have h1 : (Int32.ofNat k).toInt = (k : Int) := nI_toInt (by omega)
  exact tn_of (ti_add hw h1 (by omega)) (by omega)
theorem NR.close {f : Nat → Int32} {a n men : Int} {w v : Int32} (h : NR f (a + 1) n men) (hw : w.toInt = 1350 + 9 * a) (ha : 0 ≤ a ∧ a ≤ 30) (hn : a + 1 ≤ n) (hr : RF f w men) (hv : v.toInt = n) : NR (upd f (w + 8).toNatClampNeg v) a n men := by
  have h0 := tn_of hw (by omega)
  have h1 := w_at hw (by omega) 1 (by omega)
  have h2 := w_at hw (by omega) 2 (by omega)
  have h3 := w_at hw (by omega) 3 (by omega)
  have h5 := w_at hw (by omega) 5 (by omega)
  have h8 := w_at hw (by omega) 8 (by omega)
  have e1 : (w + 1).toNatClampNeg = (w + Int32.ofNat 1).toNatClampNeg := rfl
  have e2 : (w + 2).toNatClampNeg = (w + Int32.ofNat 2).toNatClampNeg := rfl
  have e3 : (w + 3).toNatClampNeg = (w + Int32.ofNat 3).toNatClampNeg := rfl
  have e5 : (w + 5).toNatClampNeg = (w + Int32.ofNat 5).toNatClampNeg := rfl
  have e8 : (w + 8).toNatClampNeg = (w + Int32.ofNat 8).toNatClampNeg := rfl
  intro s s1 s2
  by_cases q : (s : Int) = a
  · unfold RF at hr
    unfold NewOk Rec
    rw [show (w + 8).toNatClampNeg = 1350 + 9 * s + 8 by omega, upd_s]
    rw [upd_i (show ¬ 1350 + 9 * s = 1350 + 9 * s + 8 by omega), upd_i (show ¬ 1350 + 9 * s + 1 = 1350 + 9 * s + 8 by omega), upd_i (show ¬ 1350 + 9 * s + 2 = 1350 + 9 * s + 8 by omega), upd_i (show ¬ 1350 + 9 * s + 3 = 1350 + 9 * s + 8 by omega), upd_i (show ¬ 1350 + 9 * s + 5 = 1350 + 9 * s + 8 by omega)]
    rw [show w.toNatClampNeg = 1350 + 9 * s by omega, show (w + 1).toNatClampNeg = 1350 + 9 * s + 1 by omega, show (w + 2).toNatClampNeg = 1350 + 9 * s + 2 by omega, show (w + 3).toNatClampNeg = 1350 + 9 * s + 3 by omega, show (w + 5).toNatClampNeg = 1350 + 9 * s + 5 by omega] at hr
    omega
  · have h4 := h s (by omega) s2
    unfold NewOk at h4 ⊢
    rw [upd_i (by omega), upd_i (by omega), upd_i (by omega), upd_i (by omega), upd_i (by omega), upd_i (by omega)]
    exact h4
theorem RF.fr {f g : Nat → Int32} {w : Int32} {z y men : Int} (h : RF f w men) (fr : ∀ j : Nat, (j : Int) < z → g j = f j) (hw : w.toInt = y) (hy : 0 ≤ y ∧ y ≤ 1000000) (hz : y + 9 ≤ z) : RF g w men := by
  have h0 := tn_of hw hy.1
  have h1 := w_at hw hy 1 (by omega)
  have h2 := w_at hw hy 2 (by omega)
  have h3 := w_at hw hy 3 (by omega)
  have h5 := w_at hw hy 5 (by omega)
  have e1 : (w + 1).toNatClampNeg = (w + Int32.ofNat 1).toNatClampNeg := rfl
  have e2 : (w + 2).toNatClampNeg = (w + Int32.ofNat 2).toNatClampNeg := rfl
  have e3 : (w + 3).toNatClampNeg = (w + Int32.ofNat 3).toNatClampNeg := rfl
  have e5 : (w + 5).toNatClampNeg = (w + Int32.ofNat 5).toNatClampNeg := rfl
  unfold RF at h ⊢
  rw [fr w.toNatClampNeg (by omega), fr (w + 1).toNatClampNeg (by omega), fr (w + 2).toNatClampNeg (by omega), fr (w + 3).toNatClampNeg (by omega), fr (w + 5).toNatClampNeg (by omega)]
  exact h
/-- a step of the days that are kept -/
theorem Bd.rec {I : Im} (h : Bd I) {s w : Int32} (h52 : ¬ (I 102 52).toInt = 0) (hs : 0 ≤ s.toInt ∧ s.toInt < (I 102 53).toInt) (hw : w.toInt = 54 + 9 * s.toInt) : RF (I 102) w (I 102 0).toInt ∧ s.toInt < (I 102 (w + 8).toNatClampNeg).toInt ∧ (I 102 (w + 8).toNatClampNeg).toInt ≤ (I 102 53).toInt ∧ (I 102 53).toInt ≤ 30 := by
  have h30 := (h.ck.1 53).2.2.1 (by decide)
  have h0 := tn_of hw (by omega)
  have h1 := w_at hw (by omega) 1 (by omega)
  have h2 := w_at hw (by omega) 2 (by omega)
  have h3 := w_at hw (by omega) 3 (by omega)
  have h5 := w_at hw (by omega) 5 (by omega)
  have h8 := w_at hw (by omega) 8 (by omega)
  have e1 : (w + 1).toNatClampNeg = (w + Int32.ofNat 1).toNatClampNeg := rfl
  have e2 : (w + 2).toNatClampNeg = (w + Int32.ofNat 2).toNatClampNeg := rfl
  have e3 : (w + 3).toNatClampNeg = (w + Int32.ofNat 3).toNatClampNeg := rfl
  have e5 : (w + 5).toNatClampNeg = (w + Int32.ofNat 5).toNatClampNeg := rfl
  have e8 : (w + 8).toNatClampNeg = (w + Int32.ofNat 8).toNatClampNeg := rfl
  have q := h.ck.2.2 0 s.toInt.toNat (by decide) h52 (show ((s.toInt.toNat : Nat) : Int) < (I 102 53).toInt by omega)
  unfold RecOk Rec at q
  rw [show 324 * 0 + 54 + 9 * s.toInt.toNat + 8 = (w + 8).toNatClampNeg by omega, show 324 * 0 + 54 + 9 * s.toInt.toNat + 1 = (w + 1).toNatClampNeg by omega, show 324 * 0 + 54 + 9 * s.toInt.toNat + 2 = (w + 2).toNatClampNeg by omega, show 324 * 0 + 54 + 9 * s.toInt.toNat + 3 = (w + 3).toNatClampNeg by omega, show 324 * 0 + 54 + 9 * s.toInt.toNat + 5 = (w + 5).toNatClampNeg by omega, show 324 * 0 + 54 + 9 * s.toInt.toNat = w.toNatClampNeg by omega] at q
  unfold RF
  have z0 : (I 102 (324 * 0)) = I 102 0 := rfl
  have z53 : (I 102 (324 * 0 + 53)) = I 102 53 := rfl
  rw [z0, z53] at q
  omega
/-- who is named is there -/
noncomputable def NmOk (v : Int32) (x men : Int) : Prop := v.toInt = 0 → x < men
noncomputable def TdOk (b : Int) (v : Int32) (x men : Int) : Prop := b = 0 → v.toInt = 0 → x < men
noncomputable def Hid (p : Prop) : Prop := p
theorem Hid.i {p : Prop} (h : p) : Hid p := h
theorem Hid.o {p : Prop} (h : Hid p) : p := h
/-- what there is still to read -/
noncomputable def MUf (I : Im) : Int := 2 * (901 - (I 97 16).toInt) + min (I 97 14).toInt 1
/-- what is read goes on; what is amiss stays so -/
noncomputable def PMp (I I2 : Im) : Prop := MUf I2 ≤ MUf I ∧ ((I2 97 12).toInt = 0 → (I 97 12).toInt = 0)
theorem PMp.refl (I : Im) : PMp I I := ⟨Int.le_refl _, fun h => h⟩
theorem PMp.tr {I M N : Im} (h1 : PMp I M) (h2 : PMp M N) : PMp I N := ⟨Int.le_trans h2.1 h1.1, fun h => h1.2 (h2.2 h)⟩
theorem PMp.mk {I I2 : Im} (h1 : (2 * (901 - (I2 97 16).toInt) + min (I2 97 14).toInt 1) ≤ (2 * (901 - (I 97 16).toInt) + min (I 97 14).toInt 1)) (h2 : (I 97 12).toInt = 0 ∨ 1 ≤ (I2 97 12).toInt) : PMp I I2 := ⟨h1, fun h => by omega⟩
theorem MUf.keep {I I2 : Im} (h14 : I2 97 14 = I 97 14) (h16 : I2 97 16 = I 97 16) : MUf I2 = MUf I := by unfold MUf; rw [h14, h16]
theorem PMp.keep {I I2 : Im} (h12 : I2 97 12 = I 97 12) (h14 : I2 97 14 = I 97 14) (h16 : I2 97 16 = I 97 16) : PMp I I2 := ⟨by rw [MUf.keep h14 h16]; exact Int.le_refl _, fun h => by rw [← h12]; exact h⟩
theorem PMp.fail {I I2 : Im} (h14 : I2 97 14 = I 97 14) (h16 : I2 97 16 = I 97 16) (hb : 1 ≤ (I2 97 12).toInt) : PMp I I2 := ⟨by rw [MUf.keep h14 h16]; exact Int.le_refl _, fun h => by omega⟩
theorem PMp.adv {I I2 : Im} (h12 : I2 97 12 = I 97 12) (h1 : (2 * (901 - (I2 97 16).toInt) + min (I2 97 14).toInt 1) ≤ (2 * (901 - (I 97 16).toInt) + min (I 97 14).toInt 1)) : PMp I I2 := ⟨h1, fun h => by rw [← h12]; exact h⟩
theorem PMp.may {I I2 : Im} (h14 : I2 97 14 = I 97 14) (h16 : I2 97 16 = I 97 16) (h2 : (I 97 12).toInt = 0 ∨ 1 ≤ (I2 97 12).toInt) : PMp I I2 := ⟨by rw [MUf.keep h14 h16]; exact Int.le_refl _, fun h => by omega⟩
theorem PMp.o {I M : Im} {o k : Nat} {v : Int32} (h : PMp I M) (ho : ¬ (97 : Nat) = o) : PMp I (uI M o k v) := h.tr (PMp.keep (rd_ne ho) (rd_ne ho) (rd_ne ho))
theorem PMp.k {I M : Im} {k : Nat} {v : Int32} (h : PMp I M) (hk : (Nat.beq k 12 || (Nat.beq k 14 || Nat.beq k 16)) = false) : PMp I (uI M 97 k v) := by
  have h12 : ¬ (12 : Nat) = k := fun z => by subst z; cases hk
  have h14 : ¬ (14 : Nat) = k := fun z => by subst z; cases hk
  have h16 : ¬ (16 : Nat) = k := fun z => by subst z; cases hk
  exact h.tr (PMp.keep (rd_k h12) (rd_k h14) (rd_k h16))
theorem PMp.bad {I M : Im} (h : PMp I M) (hz : (M 97 12).toInt = 0) : (I 97 12).toInt = 0 := h.2 hz
/-- something went on, or is amiss -/
noncomputable def Prog (I I2 : Im) : Prop := 1 ≤ (I2 97 12).toInt ∨ MUf I2 < MUf I
