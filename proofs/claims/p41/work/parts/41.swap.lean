section PT7x0
/-! the two methods that change which bakery, which days are at hand -/
theorem am2_of {d mi rk : Nat} {as : List Value} {I : Im} {J : Jm} {R : Rm} {Q : Qt} {k : List En} (h1 : Nat.beq mi mReader = false) (hc : (mQ mi).1 = k) (hrk : qRk (mQ mi) = rk) (hal : qAl (mQ mi) = 0) (hph : qPh (mQ mi) = 1) (hkr : qKr (mQ mi) = 0) (hlen : (lg_sl as).length ≤ qL (mQ mi)) (h : ∀ P : Kt, Cl (AM d) true false 0 (fun _ => 0) rk 112 k (fun n x y I' J' R' => n = 112 ∧ Q x y I' J' R') P → P 0 112 (lv_args 0 as) [] I J R) : AM (d + 1) mi 112 as I J R Q := by
  unfold AM
  rw [h1]
  refine ⟨hlen, ?_⟩
  rw [hc, hrk, hal, hph]
  refine AW_m (AM_m d) ?_ h
  intro n x y I' J' R' q
  exact ⟨q.1, fun z => absurd z (by rw [hkr]; decide), q.2⟩
theorem Fl.u {R : Rm} (h : Fl R) {i0 j v : Nat} (ha : Nat.beq (fkd (shl.getD i0 (999, 0)).1 j) 4 = false) : Fl (uR R (i0 + 1) j v) := by
  intro i k hk
  show ¬ (if i + 1 = i0 + 1 then va_up (R (i0 + 1)) j v else R (i + 1)) k = 0
  by_cases q : i + 1 = i0 + 1
  · rw [if_pos q]
    have qi : i = i0 := by omega
    subst qi
    have h2 : ¬ k = j := fun z => by subst z; rw [hk] at ha; cases ha
    show ¬ (if k = j then v else R (i + 1) k) = 0
    rw [if_neg h2]; exact h i k hk
  · rw [if_neg q]; exact h i k hk
theorem RI.swB {R : Rm} (h : RI R) : RI (uR (uR R 1 7 (R 1 8)) 1 8 (R 1 7)) := ⟨h.2.1, h.1, h.2.2.1, h.2.2.2.1, h.2.2.2.2.1, h.2.2.2.2.2.1, h.2.2.2.2.2.2.1, h.2.2.2.2.2.2.2.1, h.rp.1.elim (fun q => Or.inr ⟨q.2, q.1⟩) (fun q => Or.inl ⟨q.2, q.1⟩), h.rp.2⟩
theorem RI.swD {R : Rm} (h : RI R) : RI (uR (uR R 1 9 (R 1 10)) 1 10 (R 1 9)) := ⟨h.1, h.2.1, h.2.2.2.1, h.2.2.1, h.2.2.2.2.1, h.2.2.2.2.2.1, h.2.2.2.2.2.2.1, h.2.2.2.2.2.2.2.1, h.rp.1, h.rp.2.1.elim (fun q => Or.inr ⟨q.2, q.1⟩) (fun q => Or.inl ⟨q.2, q.1⟩), h.rp.2.2⟩
set_option maxHeartbeats 2000000 in
theorem sp_X11_bakery {d : Nat} {Q : Qt} {v1 : Int32} {I : Im} {J : Jm} {R : Rm} (hB0 : Bd I) (hR0 : RI R) (hQ : ∀ (x : Int32) (y : Int64) (I2 : Im) (J2 : Jm) (R2 : Rm), Bd I2 → RI R2 → (Fl R → Fl R2) → (((v1.toInt < 0 ∨ (I 3 1).toInt < v1.toInt) ∧ (I2 3 1).toInt = (I 3 1).toInt) ∨ (0 ≤ v1.toInt ∧ v1.toInt ≤ (I 3 1).toInt ∧ (I2 3 1).toInt = 0)) → Q x y I2 J2 R2) : AM (d + 9) 108 112 [.ref 1, .int v1] I J R Q := by
  have o0 : ∀ (I : Im) (v : Int32), Bd I → Bd (uI I 1 0 v) := fun I v h => Bd.o0 h io9_112_1_11 (by decide) bd9_11_0
  refine am2_of (k := kX11_bakery) rfl rfl rfl rfl rfl rfl (Nat.le_of_ble_eq_true rfl) (fun P hc => ?_)
  refine sg_X11_bakery_0 hc _ _ _ _ ?_
  refine ⟨fun c1 => ?_, fun c1 => ⟨fun c2 => ?_, fun c2 => ?_⟩⟩
  · exact w_X11_refuse ⟨rfl, hQ _ _ _ _ _ (o0 _ _ hB0) hR0 (fun z => z) (Or.inl ⟨Or.inl (ci_lt rfl rfl c1), rfl⟩)⟩
  · refine sp_X6_open hB0 hR0 (fun x2 y2 I2 J2 hB2 h8 => ⟨(RI.spare hR0).2, ?_⟩)
    refine kp0 rfl (sp_X1_readInto hB2 hR0 (RI.spare hR0).1 (fun x3 y3 I3 J3 hB3 _ k3 => ?_))
    intro _
    refine ⟨fun c3 => ⟨(RI.now hR0).2, (RI.spare hR0).2, (RI.spare hR0).2, (RI.now hR0).2, (RI.plan (RI.swB hR0)).2, ?_⟩, fun c3 => ?_⟩
    · refine bif_t (RI.plan (RI.swB hR0)).1 ?_
      refine kp0 rfl (sp_X2_forget hB3 (RI.swB hR0) (RI.plan (RI.swB hR0)).1 (fun x4 y4 I4 J4 hB4 _ k4 => ⟨(RI.now (RI.swB hR0)).2, ?_⟩))
      refine bif_t (RI.now (RI.swB hR0)).1 ?_
      exact w_X11_answer ⟨rfl, hQ _ _ _ _ _ (o0 _ _ hB4) (RI.swB hR0) (fun z => (z.u (i0 := 0) rfl).u (i0 := 0) rfl) (Or.inr ⟨ci_nlt rfl rfl c1, ci_le rfl rfl c2, ((congrArg Int32.toInt (k4.trans k3)).trans h8)⟩)⟩
    · exact w_X11_refuse ⟨rfl, hQ _ _ _ _ _ (o0 _ _ hB3) hR0 (fun z => z) (Or.inr ⟨ci_nlt rfl rfl c1, ci_le rfl rfl c2, ((congrArg Int32.toInt k3).trans h8)⟩)⟩
  · exact w_X11_refuse ⟨rfl, hQ _ _ _ _ _ (o0 _ _ hB0) hR0 (fun z => z) (Or.inl ⟨Or.inr (ci_nle rfl rfl c2), rfl⟩)⟩
set_option maxHeartbeats 2000000 in
theorem sp_X11_days {d : Nat} {Q : Qt} {v1 : Int32} {I : Im} {J : Jm} {R : Rm} (hB0 : Bd I) (hR0 : RI R) (hQ : ∀ (x : Int32) (y : Int64) (I2 : Im) (J2 : Jm) (R2 : Rm), Bd I2 → RI R2 → (Fl R → Fl R2) → (((v1.toInt < 0 ∨ (I 3 1).toInt < v1.toInt ∨ 300 < v1.toInt) ∧ (I2 3 1).toInt = (I 3 1).toInt) ∨ (0 ≤ v1.toInt ∧ v1.toInt ≤ (I 3 1).toInt ∧ v1.toInt ≤ 300 ∧ (I2 3 1).toInt = 0)) → (R2 1 7 = R 1 7 ∧ ∀ c, ¬ c = 1 → R2 c = R c) → Q x y I2 J2 R2) : AM (d + 9) 109 112 [.ref 1, .int v1] I J R Q := by
  have o0 : ∀ (I : Im) (v : Int32), Bd I → Bd (uI I 1 0 v) := fun I v h => Bd.o0 h io9_112_1_11 (by decide) bd9_11_0
  refine am2_of (k := kX11_days) rfl rfl rfl rfl rfl rfl (Nat.le_of_ble_eq_true rfl) (fun P hc => ?_)
  refine sg_X11_days_0 hc _ _ _ _ ?_
  refine ⟨fun c1 => ?_, fun c1 => ⟨fun c2 => ?_, fun c2 => ⟨fun c4 => ?_, fun c3 => ?_⟩⟩⟩
  · exact w_X11_refuse ⟨rfl, hQ _ _ _ _ _ (o0 _ _ hB0) hR0 (fun z => z) (Or.inl ⟨Or.inl (ci_lt rfl rfl c1), rfl⟩) ⟨rfl, fun _ _ => rfl⟩⟩
  · exact w_X11_refuse ⟨rfl, hQ _ _ _ _ _ (o0 _ _ hB0) hR0 (fun z => z) (Or.inl ⟨Or.inr (Or.inl (ci_lt rfl rfl c2)), rfl⟩) ⟨rfl, fun _ _ => rfl⟩⟩
  · refine sp_X6_open hB0 hR0 (fun x2 y2 I2 J2 hB2 h8 => ⟨(RI.splan hR0).2, (RI.now hR0).2, ?_⟩)
    refine kp0 rfl (sp_X3_readInto hB2 hR0 (RI.splan hR0).1 (RI.now hR0).1 (fun x3 y3 I3 J3 hB3 _ k3 => ?_))
    intro _
    refine ⟨fun c3 => ⟨(RI.plan hR0).2, (RI.splan hR0).2, (RI.splan hR0).2, (RI.plan hR0).2, (RI.plan (RI.swD hR0)).2, ?_⟩, fun c3 => ?_⟩
    · refine bif_t (RI.plan (RI.swD hR0)).1 ?_
      exact w_X11_answer ⟨rfl, hQ _ _ _ _ _ (o0 _ _ hB3) (RI.swD hR0) (fun z => (z.u (i0 := 0) rfl).u (i0 := 0) rfl) (Or.inr ⟨ci_nlt rfl rfl c1, ci_nlt rfl rfl c2, ci_le rfl (show (300 : Int32).toInt = 300 from rfl) c4, ((congrArg Int32.toInt k3).trans h8)⟩) ⟨rfl, fun _ q => (uR_ne q).trans (uR_ne q)⟩⟩
    · exact w_X11_refuse ⟨rfl, hQ _ _ _ _ _ (o0 _ _ hB3) hR0 (fun z => z) (Or.inr ⟨ci_nlt rfl rfl c1, ci_nlt rfl rfl c2, ci_le rfl (show (300 : Int32).toInt = 300 from rfl) c4, ((congrArg Int32.toInt k3).trans h8)⟩) ⟨rfl, fun _ _ => rfl⟩⟩
  · exact w_X11_refuse ⟨rfl, hQ _ _ _ _ _ (o0 _ _ hB0) hR0 (fun z => z) (Or.inl ⟨Or.inr (Or.inr (ci_nle rfl (show (300 : Int32).toInt = 300 from rfl) c3)), rfl⟩) ⟨rfl, fun _ _ => rfl⟩⟩
end PT7x0
section PT7x1
/-! ===== what of the reference's blocks stays; small lemmas ===== -/
noncomputable def Fr (P : Nat → Prop) (I I2 : Im) : Prop := (∀ j, P j → I2 102 j = I 102 j) ∧ I2 103 = I 103
theorem Fr.refl (P : Nat → Prop) (I : Im) : Fr P I I := ⟨fun _ _ => rfl, rfl⟩
theorem Fr.o {P : Nat → Prop} {I M : Im} {o k : Nat} {v : Int32} (h : Fr P I M) (ho : ¬ (102 : Nat) = o) (ho2 : ¬ (103 : Nat) = o) : Fr P I (uI M o k v) := by
  refine ⟨fun j hj => ?_, ?_⟩
  · rw [uI_ne ho]; exact h.1 j hj
  · rw [uI_ne ho2]; exact h.2
theorem Fr.w {P : Nat → Prop} {I M : Im} {i v : Int32} {z : Int} (h : Fr P I M) (hi : i.toInt = z) (h0 : 0 ≤ z) (hp : ∀ j : Nat, (j : Int) = z → P j → False) : Fr P I (uI M 102 (Int32.toNatClampNeg i) v) := by
  refine ⟨fun j hj => ?_, ?_⟩
  · have hz := tn_of hi h0
    rw [rd_k (fun q => hp j (by omega) hj)]
    exact h.1 j hj
  · rw [uI_ne (by decide)]; exact h.2
theorem Fr.tr {P Q : Nat → Prop} {I M N : Im} (h1 : Fr P I M) (h2 : Fr Q M N) (hq : ∀ j, P j → Q j) : Fr P I N := ⟨fun j hj => by rw [h2.1 j (hq j hj), h1.1 j hj], h2.2.trans h1.2⟩
noncomputable def pT : Nat → Prop := fun _ => True
theorem Fr.eq {I M : Im} (h : Fr pT I M) : M 102 = I 102 := funext fun j => h.1 j trivial
/-- the days, who are there, by what their dues are divided -/
noncomputable def pD (j : Nat) : Prop := j = 0 ∨ (40 ≤ j ∧ j ≤ 45) ∨ 52 ≤ j ∨ j = 3
/-- how many men, what is known, now and kept -/
noncomputable def pK (j : Nat) : Prop := j = 0 ∨ j = 3 ∨ j = 324 ∨ j = 327 ∨ j = 648 ∨ j = 651 ∨ j = 972 ∨ j = 975
theorem pK_D : ∀ j, pK j → pD j := fun j h => by unfold pK at h; unfold pD; omega
noncomputable def KC (I I2 : Im) : Prop := ∀ j, pK j → I2 102 j = I 102 j
/-- all but a record's fields -/
noncomputable def pW (w : Int) (j : Nat) : Prop := (j : Int) ≤ w ∨ w + 8 ≤ (j : Int)
/-- all below a place -/
noncomputable def pB (w : Int) (j : Nat) : Prop := (j : Int) < w
theorem CK.men {f : Nat → Int32} (h : CK f) {v : Int32} {b : Nat} (hb : b < 5) (hv : v.toInt = (f (324 * b)).toInt + 1) (h6 : v.toInt ≤ 6) (hk : 1 ≤ (f (324 * b + 40 + (f (324 * b)).toInt.toNat)).toInt) : CK (upd f (324 * b) v) := by
  have h0 := (h.1 (324 * b)).1 (by omega)
  have hs : ∀ k : Nat, ¬ k = 324 * b → upd f (324 * b) v k = f k := fun k hk => upd_i hk
  refine ⟨fun k => ?_, fun c k hc hk2 => ?_, fun c s hc hd hs2 => ?_⟩
  · by_cases hk : k = 324 * b
    · subst hk
      rw [upd_s]
      unfold CB
      omega
    · rw [upd_i hk]; exact h.1 k
  · by_cases q : c = b
    · subst q
      rw [upd_s, hv] at hk2
      rw [hs _ (by omega)]
      by_cases r : (k : Int) < (f (324 * c)).toInt
      · exact h.2.1 c k hc r
      · rw [show k = (f (324 * c)).toInt.toNat by omega]; exact hk
    · rw [hs _ (by omega)] at hk2
      have h6 := (h.1 (324 * c)).1 (by omega)
      rw [hs _ (by omega)]
      exact h.2.1 c k hc hk2
  · rw [hs _ (by omega)] at hd hs2
    have h6 := (h.1 (324 * c + 53)).2.2.1 (by omega)
    have q := h.2.2 c s hc hd hs2
    unfold RecOk at q ⊢
    simp only [hs (324 * c + 54 + 9 * s + 8) (by omega), hs (324 * c + 53) (by omega), hs (324 * c + 54 + 9 * s) (by omega), hs (324 * c + 54 + 9 * s + 1) (by omega), hs (324 * c + 54 + 9 * s + 2) (by omega), hs (324 * c + 54 + 9 * s + 3) (by omega), hs (324 * c + 54 + 9 * s + 5) (by omega)]
    by_cases r : c = b
    · subst r
      rw [upd_s, hv]
      unfold Rec at q ⊢
      omega
    · rw [hs (324 * c) (by omega)]; exact q
theorem Bd.cmen {I : Im} (h : Bd I) {i v w : Int32} {b m : Nat} (hm : m = 324 * b) (hi : Int32.toNatClampNeg i = m) (hb : b < 5) (hv : v.toInt = (I 102 m).toInt + 1) (h6 : v.toInt ≤ 6) (hw : ((Int32.toNatClampNeg w : Nat) : Int) = m + 40 + (I 102 m).toInt) (hs : 1 ≤ (I 102 (Int32.toNatClampNeg w)).toInt) : Bd (uI I 102 (Int32.toNatClampNeg i) v) := by
  subst hm
  rw [hi]
  have h0 := (h.ck.1 (324 * b)).1 (by omega)
  refine hb102 h (h.ck.men hb hv h6 ?_)
  rw [show 324 * b + 40 + (I 102 (324 * b)).toInt.toNat = Int32.toNatClampNeg w by omega]
  exact hs
theorem mul30 {a b : Int} (ha : 1 ≤ a ∧ a ≤ 30) (hb : 1 ≤ b ∧ b ≤ 30) : 1 ≤ a * b ∧ a * b ≤ 900 := by
  have h1 : 1 * 1 ≤ a * b := Int.mul_le_mul ha.1 hb.1 (by decide) (by omega)
  have h2 : a * b ≤ 30 * 30 := Int.mul_le_mul ha.2 hb.2 (by omega) (by decide)
  omega
/-- a slice that is in a set of slices is none of 0 -/
theorem of0 {s d : Int32} (h : 0 ≤ s.toInt) (hz : d.toInt = 0) : ((s >>> ((d - 1) &&& 31)) &&& 1).toInt = 0 := by
  rw [show d = 0 from Int32.toInt_inj.mp hz]
  have h3 : s.toBitVec.sshiftRight 31 = 0#32 := by
    apply BitVec.eq_of_toInt_eq
    rw [BitVec.toInt_sshiftRight, Int.shiftRight_eq_div_pow]
    have h4 := i32 s
    have h5 : s.toBitVec.toInt = s.toInt := rfl
    rw [h5]
    exact Int.ediv_eq_zero_of_lt h (by omega)
  have h6 : (s >>> (((0 : Int32) - 1) &&& 31)).toBitVec = s.toBitVec.sshiftRight 31 := rfl
  have h7 : (s >>> (((0 : Int32) - 1) &&& 31)) = 0 := Int32.toBitVec_inj.mp (h6.trans h3)
  rw [h7]; rfl
theorem Bd.known0 {I : Im} (h : Bd I) : 0 ≤ (I 102 3).toInt := (Bd.c h (j := 3) (z := 3) rfl).2.1 (by decide)
theorem Bd.men {I : Im} (h : Bd I) : 0 ≤ (I 102 0).toInt ∧ (I 102 0).toInt ≤ 6 := (Bd.c h (j := 0) (z := 0) rfl).1 (by decide)
/-- what is due to a man that there is can be divided -/
theorem Bd.div0 {I : Im} (h : Bd I) {v : Int32} (h0 : 0 ≤ v.toInt) (hv : v.toInt < (I 102 0).toInt) : 1 ≤ (I 102 (Int32.toNatClampNeg (40 + v))).toInt ∧ v.toInt ≤ 5 := by
  have h6 := h.men
  refine ⟨Bd.div h (b := 0) (k := v.toInt.toNat) (ti_add rfl rfl (show -2147483648 ≤ 40 + v.toInt ∧ 40 + v.toInt < 2147483648 by omega)) (show 40 + v.toInt = 324 * ((0 : Nat) : Int) + 40 + ((v.toInt.toNat : Nat) : Int) by omega) (by decide) (show ((v.toInt.toNat : Nat) : Int) < (I 102 0).toInt by omega), by omega⟩
/-- the rest of a division of longs -/
theorem tl_rem {x y : Int64} {a b : Int} (hx : x.toInt = a) (hy : y.toInt = b) : (x - x / y * y).toInt = (a.tmod b).bmod (2 ^ 64) := by
  rw [Int64.toInt_sub, Int64.toInt_mul, Int64.toInt_div, hx, hy, Int.bmod_mul_bmod, Int.sub_bmod_bmod, Int.tmod_def, Int.mul_comm b]
theorem tl_rem_abs {x y : Int64} (hy : ¬ y = 0) : ((x - x / y * y).toInt).natAbs < y.toInt.natAbs := by
  have hb : ¬ y.toInt = 0 := fun q => hy (Int64.toInt_inj.mp q)
  have h2 := i64 y
  have h1 : (x.toInt.tmod y.toInt).natAbs < y.toInt.natAbs := by
    rw [Int.natAbs_tmod]; exact Nat.mod_lt _ (by omega)
  rw [tl_rem rfl rfl, Int.bmod_eq_of_le (by omega) (by omega)]
  exact h1
theorem sp_X12_fraction {d : Nat} {Q : Qt} {v1 v3 : Int64} {I : Im} {J : Jm} {R : Rm} (hB0 : Bd I) (hR0 : RI R) (hb : ¬ v3 = 0) (hQ : ∀ (x : Int32) (y : Int64) (I2 : Im) (J2 : Jm), Bd I2 → x.toInt = 1 → Q x y I2 J2 R) : AM (d + 1) 179 112 [.ref 97, .long v1, .long v3] I J R Q := by
  refine am_X12_fraction (fun P hc => ?_)
  have L : ∀ n : Nat, ∀ v5 v7 : Int64, v7.toInt.natAbs < n → (¬ v5 = 0 ∨ ¬ v7 = 0) → P 9 112 [(0, .ref 97), (1, .long v1), (3, .long v3), (5, .long v5), (7, .long v7)] [] I J R := by
    intro n
    induction n with
    | zero => intro _ _ h; omega
    | succ n ih =>
      intro v5 v7 hm h5
      refine sg_X12_fraction_9 hc v1 v3 v5 v7 I J R ⟨fun c => ?_, fun c => ?_⟩
      · rw [lg_cmp_eq] at c
        have h5' : ¬ v5 = 0 := h5.resolve_right (fun q => q c)
        exact ⟨h5', h5', Or.inr rfl, hQ _ _ _ _ hB0 rfl⟩
      · rw [lg_cmp_eq] at c
        exact ⟨c, ih v7 _ (by have := tl_rem_abs (x := v5) c; omega) (Or.inl c)⟩
  exact sg_X12_fraction_0 hc v1 v3 I J R (L (v3.toInt.natAbs + 1) _ _ (Nat.lt_succ_self _) (Or.inr hb))
/-- one step of the greedy row: what is left falls -/
theorem greedy1 {l y d : Int64} {a b : Int} (hl : l.toInt = a) (hy : y.toInt = b) (ha : 1 ≤ a ∧ a ≤ 29) (hb : 1 ≤ b ∧ b ≤ 300000000000000000) (hd : d = (y + l - 1) / l) (hD : d.toInt ≤ 100000000) : 0 ≤ (l * d - y).toInt ∧ (l * d - y).toInt < a ∧ 1 ≤ (y * d).toInt ∧ (y * d).toInt ≤ 300000000000000000 ∧ 1 ≤ d.toInt := by
  have h1 : (y + l - 1).toInt = b + a - 1 := tl_sub (tl_add hy hl (by omega)) rfl (by omega)
  have h2 : d.toInt = (b + a - 1) / a := by
    rw [hd, Int64.toInt_div, h1, hl, Int.tdiv_eq_ediv_of_nonneg (by omega)]
    have h3 : 0 ≤ (b + a - 1) / a := Int.ediv_nonneg (by omega) (by omega)
    have h4 : (b + a - 1) / a ≤ b + a - 1 := Int.ediv_le_self _ (by omega)
    exact tl_bmod (by omega) (by omega)
  have h3 := Int.mul_ediv_add_emod (b + a - 1) a
  have h4 := Int.emod_nonneg (b + a - 1) (show a ≠ 0 by omega)
  have h5 := Int.emod_lt_of_pos (b + a - 1) (show 0 < a by omega)
  rw [← h2] at h3
  have h6 : 1 ≤ d.toInt := by
    rcases Int.lt_or_le d.toInt 1 with q | q
    · have : a * d.toInt ≤ a * 0 := Int.mul_le_mul_of_nonneg_left (by omega) (by omega)
      omega
    · exact q
  have h7 : a * d.toInt ≤ 29 * d.toInt := Int.mul_le_mul_of_nonneg_right (by omega) (by omega)
  have h8 : b * 1 ≤ b * d.toInt := Int.mul_le_mul_of_nonneg_left h6 (by omega)
  have h9 : b * d.toInt ≤ 2900000000 * d.toInt := Int.mul_le_mul_of_nonneg_right (by omega) (by omega)
  have e1 : (l * d).toInt = a * d.toInt := by rw [Int64.toInt_mul, hl]; exact tl_bmod (by omega) (by omega)
  have e2 : (y * d).toInt = b * d.toInt := by rw [Int64.toInt_mul, hy]; exact tl_bmod (by omega) (by omega)
  have e3 : (l * d - y).toInt = a * d.toInt - b := tl_sub e1 hy (by omega)
  rw [e2, e3]
  omega
/-- one part comes of another by one cut -/
noncomputable def CO (d e : Int32) : Prop := (¬ e ≤ d ∧ e - e / d * d = 0) ∨ ∃ f : Int32, 1 ≤ f.toInt ∧ f.toInt ≤ 30 ∧ (2329089562800 : Int64) / e.toInt64 + 2329089562800 / f.toInt64 = 2329089562800 / d.toInt64
noncomputable def CF (d e : Int32) (n : Int) : Prop := ∀ f : Int32, 1 ≤ f.toInt → f.toInt < n → ¬ (2329089562800 : Int64) / e.toInt64 + 2329089562800 / f.toInt64 = 2329089562800 / d.toInt64
theorem CF.zero {d e : Int32} {n : Int} (h : n ≤ 1) : CF d e n := fun f h1 h2 => absurd h2 (by omega)
theorem CF.step {d e f : Int32} {n : Int} (h : CF d e f.toInt) (hn : n = f.toInt + 1) (hf : ¬ (2329089562800 : Int64) / e.toInt64 + 2329089562800 / f.toInt64 = 2329089562800 / d.toInt64) : CF d e n := by
  intro g h1 h2
  by_cases q : g = f
  · rw [q]; exact hf
  · exact h g h1 (by have : ¬ g.toInt = f.toInt := fun z => q (Int32.toInt_inj.mp z); omega)
theorem CF.no {d e : Int32} {n : Int} (h : CF d e n) (hn : 31 ≤ n) (h1 : ¬ (¬ e ≤ d ∧ e - e / d * d = 0)) : ¬ CO d e := by
  intro q
  rcases q with q | ⟨f, f1, f2, f3⟩
  · exact h1 q
  · exact h f f1 (by omega) f3
/-- of each that has been reached there is one before it -/
noncomputable def RQ (I : Im) : Prop := ∀ d : Int32, 1 ≤ d.toInt → d.toInt ≤ 30 → 1 ≤ (I 108 d.toNatClampNeg).toInt → ∃ e : Int32, 1 ≤ e.toInt ∧ e.toInt ≤ 30 ∧ (I 108 e.toNatClampNeg).toInt = (I 108 d.toNatClampNeg).toInt - 1 ∧ CO d e
noncomputable def RZ (I : Im) (n : Int) : Prop := ∀ j : Int32, 0 ≤ j.toInt → j.toInt < n → (I 108 j.toNatClampNeg).toInt ≤ 0
theorem RZ.zero {I : Im} {n : Int} (h : n ≤ 0) : RZ I n := fun j h1 h2 => absurd h2 (by omega)
theorem RZ.step {I : Im} {i v : Int32} {n : Int} (h : RZ I i.toInt) (h0 : 0 ≤ i.toInt) (hn : n = i.toInt + 1) (hv : v.toInt ≤ 0) : RZ (uI I 108 (Int32.toNatClampNeg i) v) n := by
  intro j h1 h2
  by_cases q : j = i
  · rw [q, rd_eq]; exact hv
  · have h3 : ¬ j.toInt = i.toInt := fun z => q (Int32.toInt_inj.mp z)
    rw [rd_k (by have := tn_of (x := j) rfl h1; have := tn_of (x := i) rfl h0; omega)]
    exact h j h1 (by omega)
theorem RZ.rq {I : Im} {n : Int} (h : RZ I n) (hn : 31 ≤ n) : RQ I := fun d h1 h2 h3 => absurd (h d (by omega) (by omega)) (by omega)
theorem RQ.set {I : Im} {i v : Int32} (h : RQ I) (h1 : 1 ≤ i.toInt ∧ i.toInt ≤ 30) (hn : (I 108 i.toNatClampNeg).toInt < 0) (hv : 1 ≤ v.toInt) (he : ∃ e : Int32, 1 ≤ e.toInt ∧ e.toInt ≤ 30 ∧ (I 108 e.toNatClampNeg).toInt = v.toInt - 1 ∧ CO i e) : RQ (uI I 108 (Int32.toNatClampNeg i) v) := by
  have hr : ∀ j : Int32, 1 ≤ j.toInt → ¬ j = i → uI I 108 (Int32.toNatClampNeg i) v 108 j.toNatClampNeg = I 108 j.toNatClampNeg := fun j hj q => by
    have h3 : ¬ j.toInt = i.toInt := fun z => q (Int32.toInt_inj.mp z)
    exact rd_k (by have := tn_of (x := j) rfl (by omega); have := tn_of (x := i) rfl (by omega); omega)
  intro d d1 d2 d3
  by_cases q : d = i
  · subst q
    rw [rd_eq] at d3 ⊢
    obtain ⟨e, e1, e2, e3, e4⟩ := he
    refine ⟨e, e1, e2, ?_, e4⟩
    rw [hr e e1 (fun z => by subst z; omega)]; exact e3
  · rw [hr d d1 q] at d3 ⊢
    obtain ⟨e, e1, e2, e3, e4⟩ := h d d1 d2 d3
    refine ⟨e, e1, e2, ?_, e4⟩
    rw [hr e e1 (fun z => by subst z; omega)]; exact e3
theorem Bd.n27 {I : Im} (h : Bd I) : 0 ≤ (I 97 27).toInt ∧ (I 97 27).toInt ≤ 30 := h.o io9_112_97_12 bd9_12_27
/-- what a reader of a bakery leaves -/
noncomputable def pR (j : Nat) : Prop := j = 1348
theorem ti_div {x y : Int32} {a b : Int} (hx : x.toInt = a) (hy : y.toInt = b) (ha : 0 ≤ a) (hb : 0 < b) : (x / y).toInt = a / b := by
  have h1 := i32 x
  rw [Int32.toInt_div, hx, hy, Int.tdiv_eq_ediv_of_nonneg ha]
  have h3 : 0 ≤ a / b := Int.ediv_nonneg ha (by omega)
  have h4 : a / b ≤ a := Int.ediv_le_self _ ha
  exact ti_bmod (by omega) (by omega)
theorem ti_rem {x y : Int32} {a b : Int} (hx : x.toInt = a) (hy : y.toInt = b) (ha : 0 ≤ a) (hb : 0 < b) : 0 ≤ (x - x / y * y).toInt ∧ (x - x / y * y).toInt < b ∧ (x - x / y * y).toInt ≤ a := by
  have h1 := i32 x
  have h3 := Int.mul_ediv_add_emod a b
  have h4 := Int.emod_nonneg a (show b ≠ 0 by omega)
  have h5 := Int.emod_lt_of_pos a hb
  have h6 : 0 ≤ a / b := Int.ediv_nonneg ha (by omega)
  have h8 : 0 ≤ b * (a / b) := Int.mul_nonneg (by omega) h6
  have h9 : (x / y * y).toInt = b * (a / b) := by
    rw [Int32.toInt_mul, ti_div hx hy ha hb, hy, Int.mul_comm]
    exact ti_bmod (by omega) (by omega)
  have h10 : (x - x / y * y).toInt = a - b * (a / b) := ti_sub hx h9 (by omega)
  omega
/-- a record's fields, at a place, by its kind -/
noncomputable def RF (f : Nat → Int32) (w : Int32) (men : Int) : Prop := ((f w.toNatClampNeg).toInt = 0 → 1 ≤ (f (w + 1).toNatClampNeg).toInt ∧ (f (w + 1).toNatClampNeg).toInt ≤ 30 ∧ 1 ≤ (f (w + 2).toNatClampNeg).toInt ∧ (f (w + 2).toNatClampNeg).toInt ≤ 30 ∧ 1 ≤ (f (w + 3).toNatClampNeg).toInt ∧ (f (w + 3).toNatClampNeg).toInt ≤ 30) ∧ ((f w.toNatClampNeg).toInt = 1 → 1 ≤ (f (w + 1).toNatClampNeg).toInt ∧ (f (w + 1).toNatClampNeg).toInt ≤ 30 ∧ 2 ≤ (f (w + 2).toNatClampNeg).toInt ∧ (f (w + 2).toNatClampNeg).toInt ≤ 30) ∧
  ((f w.toNatClampNeg).toInt = 2 ∨ (f w.toNatClampNeg).toInt = 3 → 0 ≤ (f (w + 1).toNatClampNeg).toInt ∧ (f (w + 1).toNatClampNeg).toInt < men ∧ 1 ≤ (f (w + 2).toNatClampNeg).toInt ∧ (f (w + 2).toNatClampNeg).toInt ≤ 30) ∧ ((f w.toNatClampNeg).toInt = 4 → 1 ≤ (f (w + 1).toNatClampNeg).toInt ∧ (f (w + 1).toNatClampNeg).toInt ≤ 9) ∧ ((f w.toNatClampNeg).toInt = 6 → ((f (w + 5).toNatClampNeg).toInt = 1 → 1 ≤ (f (w + 1).toNatClampNeg).toInt ∧ (f (w + 1).toNatClampNeg).toInt ≤ 30) ∧ (¬ (f (w + 5).toNatClampNeg).toInt = 1 → 0 ≤ (f (w + 1).toNatClampNeg).toInt ∧ (f (w + 1).toNatClampNeg).toInt < men))
noncomputable def NewOk (f : Nat → Int32) (s : Nat) (n men : Int) : Prop := Rec (f (1350 + 9 * s)).toInt (f (1350 + 9 * s + 1)).toInt (f (1350 + 9 * s + 2)).toInt (f (1350 + 9 * s + 3)).toInt (f (1350 + 9 * s + 5)).toInt (f (1350 + 9 * s + 8)).toInt (s : Int) n men
/-- new records, from one on -/
noncomputable def NR (f : Nat → Int32) (a n men : Int) : Prop := ∀ s : Nat, a ≤ (s : Int) → (s : Int) < n → NewOk f s n men
theorem NR.nil {f : Nat → Int32} {a n men : Int} (h : n ≤ a) : NR f a n men := fun s h1 h2 => absurd h2 (by omega)
theorem Rec.mono {k f1 f2 f3 f5 f8 s lim lim2 men : Int} (h : Rec k f1 f2 f3 f5 f8 s lim men) (hl : lim ≤ lim2) : Rec k f1 f2 f3 f5 f8 s lim2 men := ⟨h.1, Int.le_trans h.2.1 hl, h.2.2⟩
theorem NR.app {f g : Nat → Int32} {a n n2 men z : Int} (h1 : NR f a n men) (fr : ∀ j : Nat, (j : Int) < z → g j = f j) (hz : z = 1350 + 9 * n) (h2 : NR g n n2 men) (hn : n ≤ n2) : NR g a n2 men := by
  intro s s1 s2
  by_cases q : (s : Int) < n
  · have h3 := h1 s s1 q
    unfold NewOk at h3 ⊢
    rw [fr (1350 + 9 * s) (by omega), fr (1350 + 9 * s + 1) (by omega), fr (1350 + 9 * s + 2) (by omega), fr (1350 + 9 * s + 3) (by omega), fr (1350 + 9 * s + 5) (by omega), fr (1350 + 9 * s + 8) (by omega)]
    exact h3.mono hn
  · exact h2 s (by omega) s2
theorem w_at {w : Int32} {z : Int} (hw : w.toInt = z) (h0 : 0 ≤ z ∧ z ≤ 1000000) (k : Nat) (hk : k < 10) : (((w + Int32.ofNat k).toNatClampNeg : Nat) : Int) = z + k := by
  have h1 : (Int32.ofNat k).toInt = (k : Int) := nI_toInt (by omega)
  exact tn_of (ti_add hw h1 (by omega)) (by omega)
theorem NR.close {f : Nat → Int32} {a n men : Int} {w v : Int32} (h : NR f (a + 1) n men) (hw : w.toInt = 1350 + 9 * a) (ha : 0 ≤ a ∧ a ≤ 30) (hn : a + 1 ≤ n) (hr : RF f w men) (hv : v.toInt = n) : NR (upd f (w + 8).toNatClampNeg v) a n men := by
  have h0 := tn_of hw (by omega)
  have h1 := w_at hw (by omega) 1 (by omega)
  have h2 := w_at hw (by omega) 2 (by omega)
  have h3 := w_at hw (by omega) 3 (by omega)
  have h5 := w_at hw (by omega) 5 (by omega)
  have h8 := w_at hw (by omega) 8 (by omega)
  have e1 : (w + 1).toNatClampNeg = (w + Int32.ofNat 1).toNatClampNeg := rfl
  have e2 : (w + 2).toNatClampNeg = (w + Int32.ofNat 2).toNatClampNeg := rfl
  have e3 : (w + 3).toNatClampNeg = (w + Int32.ofNat 3).toNatClampNeg := rfl
  have e5 : (w + 5).toNatClampNeg = (w + Int32.ofNat 5).toNatClampNeg := rfl
  have e8 : (w + 8).toNatClampNeg = (w + Int32.ofNat 8).toNatClampNeg := rfl
  intro s s1 s2
  by_cases q : (s : Int) = a
  · unfold RF at hr
    unfold NewOk Rec
    rw [show (w + 8).toNatClampNeg = 1350 + 9 * s + 8 by omega, upd_s]
    rw [upd_i (show ¬ 1350 + 9 * s = 1350 + 9 * s + 8 by omega), upd_i (show ¬ 1350 + 9 * s + 1 = 1350 + 9 * s + 8 by omega), upd_i (show ¬ 1350 + 9 * s + 2 = 1350 + 9 * s + 8 by omega), upd_i (show ¬ 1350 + 9 * s + 3 = 1350 + 9 * s + 8 by omega), upd_i (show ¬ 1350 + 9 * s + 5 = 1350 + 9 * s + 8 by omega)]
    rw [show w.toNatClampNeg = 1350 + 9 * s by omega, show (w + 1).toNatClampNeg = 1350 + 9 * s + 1 by omega, show (w + 2).toNatClampNeg = 1350 + 9 * s + 2 by omega, show (w + 3).toNatClampNeg = 1350 + 9 * s + 3 by omega, show (w + 5).toNatClampNeg = 1350 + 9 * s + 5 by omega] at hr
    exact ⟨by omega, by omega, hr⟩
  · have h4 := h s (by omega) s2
    unfold NewOk at h4 ⊢
    rw [upd_i (by omega), upd_i (by omega), upd_i (by omega), upd_i (by omega), upd_i (by omega), upd_i (by omega)]
    exact h4
theorem RF.fr {f g : Nat → Int32} {w : Int32} {z y men : Int} (h : RF f w men) (fr : ∀ j : Nat, (j : Int) < z → g j = f j) (hw : w.toInt = y) (hy : 0 ≤ y ∧ y ≤ 1000000) (hz : y + 9 ≤ z) : RF g w men := by
  have h0 := tn_of hw hy.1
  have h1 := w_at hw hy 1 (by omega)
  have h2 := w_at hw hy 2 (by omega)
  have h3 := w_at hw hy 3 (by omega)
  have h5 := w_at hw hy 5 (by omega)
  have e1 : (w + 1).toNatClampNeg = (w + Int32.ofNat 1).toNatClampNeg := rfl
  have e2 : (w + 2).toNatClampNeg = (w + Int32.ofNat 2).toNatClampNeg := rfl
  have e3 : (w + 3).toNatClampNeg = (w + Int32.ofNat 3).toNatClampNeg := rfl
  have e5 : (w + 5).toNatClampNeg = (w + Int32.ofNat 5).toNatClampNeg := rfl
  unfold RF at h ⊢
  rw [fr w.toNatClampNeg (by omega), fr (w + 1).toNatClampNeg (by omega), fr (w + 2).toNatClampNeg (by omega), fr (w + 3).toNatClampNeg (by omega), fr (w + 5).toNatClampNeg (by omega)]
  exact h
/-- a step of the days that are kept -/
theorem Bd.rec {I : Im} (h : Bd I) {s w : Int32} (h52 : ¬ (I 102 52).toInt = 0) (hs : 0 ≤ s.toInt ∧ s.toInt < (I 102 53).toInt) (hw : w.toInt = 54 + 9 * s.toInt) : RF (I 102) w (I 102 0).toInt ∧ s.toInt < (I 102 (w + 8).toNatClampNeg).toInt ∧ (I 102 (w + 8).toNatClampNeg).toInt ≤ (I 102 53).toInt ∧ (I 102 53).toInt ≤ 30 := by
  have h30 := (h.ck.1 53).2.2.1 (by decide)
  have h0 := tn_of hw (by omega)
  have h1 := w_at hw (by omega) 1 (by omega)
  have h2 := w_at hw (by omega) 2 (by omega)
  have h3 := w_at hw (by omega) 3 (by omega)
  have h5 := w_at hw (by omega) 5 (by omega)
  have h8 := w_at hw (by omega) 8 (by omega)
  have e1 : (w + 1).toNatClampNeg = (w + Int32.ofNat 1).toNatClampNeg := rfl
  have e2 : (w + 2).toNatClampNeg = (w + Int32.ofNat 2).toNatClampNeg := rfl
  have e3 : (w + 3).toNatClampNeg = (w + Int32.ofNat 3).toNatClampNeg := rfl
  have e5 : (w + 5).toNatClampNeg = (w + Int32.ofNat 5).toNatClampNeg := rfl
  have e8 : (w + 8).toNatClampNeg = (w + Int32.ofNat 8).toNatClampNeg := rfl
  have q := h.ck.2.2 0 s.toInt.toNat (by decide) h52 (show ((s.toInt.toNat : Nat) : Int) < (I 102 53).toInt by omega)
  unfold RecOk Rec at q
  rw [show 324 * 0 + 54 + 9 * s.toInt.toNat + 8 = (w + 8).toNatClampNeg by omega, show 324 * 0 + 54 + 9 * s.toInt.toNat + 1 = (w + 1).toNatClampNeg by omega, show 324 * 0 + 54 + 9 * s.toInt.toNat + 2 = (w + 2).toNatClampNeg by omega, show 324 * 0 + 54 + 9 * s.toInt.toNat + 3 = (w + 3).toNatClampNeg by omega, show 324 * 0 + 54 + 9 * s.toInt.toNat + 5 = (w + 5).toNatClampNeg by omega, show 324 * 0 + 54 + 9 * s.toInt.toNat = w.toNatClampNeg by omega] at q
  unfold RF
  have z0 : (I 102 (324 * 0)) = I 102 0 := rfl
  have z53 : (I 102 (324 * 0 + 53)) = I 102 53 := rfl
  rw [z0, z53] at q
  exact ⟨q.2.2, by omega, q.2.1, by omega⟩
/-- who is named is there -/
noncomputable def NmOk (v : Int32) (x men : Int) : Prop := v.toInt = 0 → x < men
noncomputable def TdOk (b : Int) (v : Int32) (x men : Int) : Prop := b = 0 → v.toInt = 0 → x < men
noncomputable def Hid (p : Prop) : Prop := p
theorem Hid.i {p : Prop} (h : p) : Hid p := h
theorem Hid.o {p : Prop} (h : Hid p) : p := h
/-- what there is still to read -/
noncomputable def MUf (I : Im) : Int := 2 * (901 - (I 97 16).toInt) + min (I 97 14).toInt 1
/-- what is read goes on; what is amiss stays so -/
noncomputable def PMp (I I2 : Im) : Prop := MUf I2 ≤ MUf I ∧ ((I2 97 12).toInt = 0 → (I 97 12).toInt = 0)
theorem PMp.refl (I : Im) : PMp I I := ⟨Int.le_refl _, fun h => h⟩
theorem PMp.tr {I M N : Im} (h1 : PMp I M) (h2 : PMp M N) : PMp I N := ⟨Int.le_trans h2.1 h1.1, fun h => h1.2 (h2.2 h)⟩
theorem PMp.mk {I I2 : Im} (h1 : (2 * (901 - (I2 97 16).toInt) + min (I2 97 14).toInt 1) ≤ (2 * (901 - (I 97 16).toInt) + min (I 97 14).toInt 1)) (h2 : (I 97 12).toInt = 0 ∨ 1 ≤ (I2 97 12).toInt) : PMp I I2 := ⟨h1, fun h => by omega⟩
theorem MUf.keep {I I2 : Im} (h14 : I2 97 14 = I 97 14) (h16 : I2 97 16 = I 97 16) : MUf I2 = MUf I := by unfold MUf; rw [h14, h16]
theorem PMp.keep {I I2 : Im} (h12 : I2 97 12 = I 97 12) (h14 : I2 97 14 = I 97 14) (h16 : I2 97 16 = I 97 16) : PMp I I2 := ⟨by rw [MUf.keep h14 h16]; exact Int.le_refl _, fun h => by rw [← h12]; exact h⟩
theorem PMp.fail {I I2 : Im} (h14 : I2 97 14 = I 97 14) (h16 : I2 97 16 = I 97 16) (hb : 1 ≤ (I2 97 12).toInt) : PMp I I2 := ⟨by rw [MUf.keep h14 h16]; exact Int.le_refl _, fun h => by omega⟩
theorem PMp.adv {I I2 : Im} (h12 : I2 97 12 = I 97 12) (h1 : (2 * (901 - (I2 97 16).toInt) + min (I2 97 14).toInt 1) ≤ (2 * (901 - (I 97 16).toInt) + min (I 97 14).toInt 1)) : PMp I I2 := ⟨h1, fun h => by rw [← h12]; exact h⟩
theorem PMp.may {I I2 : Im} (h14 : I2 97 14 = I 97 14) (h16 : I2 97 16 = I 97 16) (h2 : (I 97 12).toInt = 0 ∨ 1 ≤ (I2 97 12).toInt) : PMp I I2 := ⟨by rw [MUf.keep h14 h16]; exact Int.le_refl _, fun h => by omega⟩
theorem PMp.o {I M : Im} {o k : Nat} {v : Int32} (h : PMp I M) (ho : ¬ (97 : Nat) = o) : PMp I (uI M o k v) := h.tr (PMp.keep (rd_ne ho) (rd_ne ho) (rd_ne ho))
theorem PMp.k {I M : Im} {k : Nat} {v : Int32} (h : PMp I M) (hk : (Nat.beq k 12 || (Nat.beq k 14 || Nat.beq k 16)) = false) : PMp I (uI M 97 k v) := by
  have h12 : ¬ (12 : Nat) = k := fun z => by subst z; cases hk
  have h14 : ¬ (14 : Nat) = k := fun z => by subst z; cases hk
  have h16 : ¬ (16 : Nat) = k := fun z => by subst z; cases hk
  exact h.tr (PMp.keep (rd_k h12) (rd_k h14) (rd_k h16))
theorem PMp.bad {I M : Im} (h : PMp I M) (hz : (M 97 12).toInt = 0) : (I 97 12).toInt = 0 := h.2 hz
/-- something went on, or is amiss -/
noncomputable def Prog (I I2 : Im) : Prop := 1 ≤ (I2 97 12).toInt ∨ MUf I2 < MUf I
end PT7x1
section PT7x2
/-! ===== the scribe's bakery(), whole ===== -/
theorem uR_k {R : Rm} {o j k v : Nat} (h : ¬ k = j) : uR R o j v o k = R o k := by rw [uR_eq, va_up_ne _ _ h]
theorem uR_s {R : Rm} {o j v : Nat} : uR R o j v o j = v := by rw [uR_eq, va_up_self]
theorem o_9 : ∀ o, o < 113 → isO 112 o 0 = true → o = 9 ∨ o = 15 ∨ o = 61 ∨ o = 73 ∨ o = 85 := by decide +kernel
theorem o_lt {o ci : Nat} (h : isO 112 o ci = true) : o < 113 := by have := (isO_spec h).2.1; omega
theorem o_ge {o : Nat} (h : isO 112 o 0 = true) : 9 ≤ o := by have := o_9 o (o_lt h) h; omega
theorem p_21 : ∀ o, o < 113 → isO 112 o 2 = true → o = 21 ∨ o = 27 ∨ o = 67 ∨ o = 79 ∨ o = 91 := by decide +kernel
theorem p_ge {p : Nat} (h : isO 112 p 2 = true) : 21 ≤ p := by have := p_21 p (o_lt h) h; omega
theorem op_ne {o p : Nat} (h : isO 112 o 0 = true) (h2 : isO 112 p 2 = true) : p + 5 < o ∨ o + 5 < p := by
  have := o_9 o (o_lt h) h
  have := p_21 p (o_lt h2) h2
  omega
noncomputable abbrev WC (o p : Nat) : Nat → Nat → Prop := fun c k => (c = 1 ∧ k = 0) ∨ c = 3 ∨ c = 6 ∨ (o ≤ c ∧ c ≤ o + 5) ∨ (c = p ∧ k ≤ 2)
section CB
variable {d : Nat} {I : Im} {J : Jm} {R : Rm} {Q : Qt}
theorem px_cbN {v : Int32} {f : Nat} (hf : f ≤ 900) (h1 : I 3 1 = nI f) (hv : v < 0 ∨ nI f < v) (hQ : Q (-1) 0 (uI I 1 0 5) J R) : AM (d + 8) 108 112 [.ref 1, .int v] I J R Q := by
  refine am2_of (k := kX11_bakery) rfl rfl rfl rfl rfl rfl (Nat.le_of_ble_eq_true rfl) (fun P hc => sg_X11_bakery_0 hc _ _ _ _ ⟨fun _ => w_X11_refuse ⟨rfl, hQ⟩, fun c1 => ⟨fun c2 => ?_, fun _ => w_X11_refuse ⟨rfl, hQ⟩⟩⟩)
  rw [h1] at c2
  rcases hv with z | z
  · exact absurd z c1
  · rw [Int32.lt_iff_toInt_lt] at z
    rw [Int32.le_iff_toInt_le] at c2
    omega
theorem px_cbY {n f : Nat} (hf : f ≤ 900) (hn : n ≤ f) (h1 : I 3 1 = nI f) (hJ : ∀ k, k < 22 → J 5 k = rsv.getD k 0) (hR : RI R)
    (hE : ∀ p I2 J2, prB (I 4) n (n + 1) em0 0 = .error p → FrW (WC (R 1 8) (R 1 9)) (VB (R 1 8)) I J I2 J2 → I2 3 1 = 0 → I2 3 3 = 1 → Ft p I2 → Q (-1) 0 I2 J2 R)
    (hK : ∀ B2 b I2 J2, prB (I 4) n (n + 1) em0 0 = .ok (B2, b) → BOk B2 → FrW (WC (R 1 8) (R 1 9)) (VB (R 1 8)) I J I2 J2 → I2 3 1 = 0 → I2 3 3 = 1 → I2 3 12 = 0 → I2 3 13 = -1 → BkC B2.1 B2.2.1 (R 1 8) I2 J2 → I2 (R 1 9) 0 = 0 → I2 (R 1 9) 1 = 0 → I2 (R 1 9) 2 = 0 → Q (B2.1 0) 0 I2 J2 (uR (uR R 1 7 (R 1 8)) 1 8 (R 1 7))) : AM (d + 8) 108 112 [.ref 1, .int (nI n)] I J R Q := by
  have hO := hR.spare.1
  have ho := o_ge hO
  have hP := hR.plan.1
  have hp := p_ge hP
  have hop := op_ne hO hP
  refine am2_of (k := kX11_bakery) rfl rfl rfl rfl rfl rfl (Nat.le_of_ble_eq_true rfl) (fun P hc => sg_X11_bakery_0 hc _ _ _ _ ⟨fun c => absurd c (nI_pos (by omega)), fun _ => ⟨fun _ => ?_, fun c => absurd ?_ c⟩⟩)
  · refine px_open hf hn h1 hJ (fun I2 J2 hF2 h2 h31 h33 => ⟨hR.spare.2, px_intoB ho hO h2 (fun p I3 J3 he hF3 hf3 _ => ?_) (fun B2 b I3 J3 he hF3 h3 hB3 hO3 _ => ?_)⟩)
    · refine ⟨fun q => absurd rfl q, fun _ => w_X11_refuse ⟨rfl, ?_⟩⟩
      have hFa : FrW (WC (R 1 8) (R 1 9)) (VB (R 1 8)) I J (uI I3 1 0 10) J3 := ((hF2.up (fun c k q => Or.inr (Or.inl q)) (fun _ _ q => Or.inl q)).tr (hF3.up (fun c k q => q.elim (fun z => Or.inr (Or.inl z.1)) (fun z => z.elim (fun y => Or.inr (Or.inr (Or.inl y))) (fun y => Or.inr (Or.inr (Or.inr (Or.inl y)))))) (fun _ _ q => q))).u (Or.inl ⟨rfl, rfl⟩)
      refine hE p _ J3 he hFa ?_ ?_ (hf3.w_ (by decide))
      · rw [rd_ne (by decide), hF3.i (by rintro (q | q | q) <;> first | exact absurd q.2 (by decide) | omega)]; exact h31
      · rw [rd_ne (by decide), hF3.i (by rintro (q | q | q) <;> first | exact absurd q.2 (by decide) | omega)]; exact h33
    · refine ⟨fun _ => ⟨hR.now.2, hR.spare.2, hR.spare.2, hR.now.2, ?_⟩, fun q => absurd q (by decide)⟩
      have e9 : uR (uR R 1 7 (R 1 8)) 1 8 (R 1 7) 1 9 = R 1 9 := by rw [uR_k (by decide), uR_k (by decide)]
      have e7 : uR (uR R 1 7 (R 1 8)) 1 8 (R 1 7) 1 7 = R 1 8 := by rw [uR_k (by decide), uR_s]
      rw [e9, e7]
      refine ⟨hR.plan.2, bif_t hP (px_forgetD hP ⟨hR.spare.2, bif_t hO (w_X11_answer ⟨rfl, ?_⟩)⟩)⟩
      have hFa : FrW (WC (R 1 8) (R 1 9)) (VB (R 1 8)) I J (uI (uI (uI (uI I3 (R 1 9) 0 0) (R 1 9) 1 0) (R 1 9) 2 0) 1 0 0) J3 := (((((hF2.up (fun c k q => Or.inr (Or.inl q)) (fun _ _ q => Or.inl q)).tr (hF3.up (fun c k q => q.elim (fun z => Or.inr (Or.inl z.1)) (fun z => z.elim (fun y => Or.inr (Or.inr (Or.inl y))) (fun y => Or.inr (Or.inr (Or.inr (Or.inl y)))))) (fun _ _ q => q))).u (Or.inr (Or.inr (Or.inr (Or.inr ⟨rfl, by omega⟩))))).u (Or.inr (Or.inr (Or.inr (Or.inr ⟨rfl, by omega⟩))))).u (Or.inr (Or.inr (Or.inr (Or.inr ⟨rfl, by omega⟩))))).u (Or.inl ⟨rfl, rfl⟩)
      have es : ∀ c, ¬ c = R 1 9 → ¬ c = 1 → uI (uI (uI (uI I3 (R 1 9) 0 0) (R 1 9) 1 0) (R 1 9) 2 0) 1 0 0 c = I3 c := fun c z1 z2 => (uI_ne z2).trans ((uI_ne z1).trans ((uI_ne z1).trans (uI_ne z1)))
      have e4 : uI (uI (uI I3 (R 1 9) 0 0) (R 1 9) 1 0) (R 1 9) 2 0 (R 1 8) 4 = B2.1 0 := by
        rw [rd_ne (by first | decide | omega), rd_ne (by first | decide | omega), rd_ne (by first | decide | omega)]; exact hB3.1.1
      rw [e4]
      refine hK B2 b _ J3 he hO3 hFa ?_ ?_ ?_ ?_ (hB3.1.cp (fun c z1 z2 => es c (by omega) (by omega)) rfl) ?_ ?_ ?_
      · rw [es 3 (by omega) (by decide), hF3.i (by rintro (q | q | q) <;> first | exact absurd q.2 (by decide) | omega)]; exact h31
      · rw [es 3 (by omega) (by decide), hF3.i (by rintro (q | q | q) <;> first | exact absurd q.2 (by decide) | omega)]; exact h33
      · rw [es 3 (by omega) (by decide)]; exact h3.f
      · rw [es 3 (by omega) (by decide)]; exact h3.f13
      · rw [rd_ne (by first | decide | omega), rd_k (by decide), rd_k (by decide), rd_eq]
      · rw [rd_ne (by first | decide | omega), rd_k (by decide), rd_eq]
      · rw [rd_ne (by first | decide | omega), rd_eq]
  · rw [h1]; exact (nle_nI (by omega) (by omega)).mpr hn
end CB
end PT7x2
section PT7x3
/-! printed by grp3.py: the tapes, the words that are no names: what keeps them -/
noncomputable def bad7 (a : Nat) : Bool := Nat.beq a 4 || (Nat.beq a 5 || Nat.beq a 101)
noncomputable def okg7 (ci k : Nat) : Bool := !(Nat.beq ci 6 && (Nat.beq k 0 || Nat.beq k 2)) && !(Nat.beq ci 12 && Nat.beq k 7)
noncomputable def K7 (I : Im) (J : Jm) (I2 : Im) (J2 : Jm) : Prop := I2 4 = I 4 ∧ I2 101 = I 101 ∧ J2 5 = J 5
theorem K7.rf {I : Im} {J : Jm} : K7 I J I J := ⟨rfl, rfl, rfl⟩
theorem K7.tr {I I2 I3 : Im} {J J2 J3 : Jm} (h : K7 I J I2 J2) (h2 : K7 I2 J2 I3 J3) : K7 I J I3 J3 := ⟨h2.1.trans h.1, h2.2.1.trans h.2.1, h2.2.2.trans h.2.2⟩
theorem bad7_f {a : Nat} (h : bad7 a = false) : ¬ a = 4 ∧ ¬ a = 5 ∧ ¬ a = 101 := by
  refine ⟨?_, ?_, ?_⟩ <;> intro q <;> subst q <;> exact absurd h (by decide)
theorem bad7_i {a : Nat} (h : ¬ a = 4 ∧ ¬ a = 5 ∧ ¬ a = 101) : bad7 a = false := by
  cases q : bad7 a with
  | false => rfl
  | true =>
    unfold bad7 at q
    rw [Bool.or_eq_true, Bool.or_eq_true] at q
    rcases q with q | q | q
    · exact absurd (Nat.eq_of_beq_eq_true q) h.1
    · exact absurd (Nat.eq_of_beq_eq_true q) h.2.1
    · exact absurd (Nat.eq_of_beq_eq_true q) h.2.2
theorem bad7_o {a ci : Nat} (h : (shl.getD (a - 1) (999, 0)).1 = ci) (hc : ci < 100) : bad7 a = false := by
  refine bad7_i ⟨fun q => ?_, fun q => ?_, fun q => ?_⟩ <;> subst q
  · have : (shl.getD (4 - 1) (999, 0)).1 = 102 := rfl
    omega
  · have : (shl.getD (5 - 1) (999, 0)).1 = 101 := rfl
    omega
  · have : (shl.getD (101 - 1) (999, 0)).1 = 102 := rfl
    omega
theorem stg_7 {I0 : Im} {J0 : Jm} : StG bad7 (fun _ _ => true) (fun I J _ => K7 I0 J0 I J) := by
  refine ⟨fun I J R o ci k x h1 h2 h3 hF => ?_, fun I J R o ci k x h1 h2 h3 hF => ?_, fun I J R a t j x h1 h2 hF => ?_, fun I J R a t j x h1 h2 hF => ?_, fun I J R a0 a1 t p q m h1 h2 hF => ?_, fun I J R a0 a1 t p q m h1 h2 hF => ?_, fun I J R o ci k x h1 h2 hF => hF⟩
  · have hb := bad7_f (bad7_o h1 h2)
    exact ⟨(uI_ne (fun q => hb.1 q.symm)).trans hF.1, (uI_ne (fun q => hb.2.2 q.symm)).trans hF.2.1, hF.2.2⟩
  · have hb := bad7_f (bad7_o h1 h2)
    exact ⟨hF.1, hF.2.1, (uJ_ne (fun q => hb.2.1 q.symm)).trans hF.2.2⟩
  · have hb := bad7_f h2
    exact ⟨(uI_ne (fun q => hb.1 q.symm)).trans hF.1, (uI_ne (fun q => hb.2.2 q.symm)).trans hF.2.1, hF.2.2⟩
  · have hb := bad7_f h2
    exact ⟨hF.1, hF.2.1, (uJ_ne (fun q => hb.2.1 q.symm)).trans hF.2.2⟩
  · have hb := bad7_f h2
    exact ⟨(if_neg (fun q => hb.1 q.symm)).trans hF.1, (if_neg (fun q => hb.2.2 q.symm)).trans hF.2.1, hF.2.2⟩
  · have hb := bad7_f h2
    exact ⟨hF.1, hF.2.1, (if_neg (fun q => hb.2.1 q.symm)).trans hF.2.2⟩
set_option maxRecDepth 100000 in
theorem gf_7 : ∀ o ci k, 0 < o → (shl.getD (o - 1) (999, 0)).1 = ci → fkd ci k = 4 → okg7 ci k = true → bad7 (o + fof ci k) = false := by
  have each : ∀ q ∈ fk4L, okg7 (shl.getD (q.1 - 1) (999, 0)).1 q.2 = true → bad7 (q.1 + fof (shl.getD (q.1 - 1) (999, 0)).1 q.2) = false := by decide +kernel
  have all : ∀ o, o < 113 → 0 < o → ∀ k, k < 60 → fkd (shl.getD (o - 1) (999, 0)).1 k = 4 → okg7 (shl.getD (o - 1) (999, 0)).1 k = true → bad7 (o + fof (shl.getD (o - 1) (999, 0)).1 k) = false := fun o h1 h0 k h2 h3 h4 => each (o, k) (List.contains_iff_mem.mp (fk4_all o h1 h0 k h2 h3)) h4
  intro o ci k h0 h1 h2 h3
  obtain ⟨i1, i2⟩ := fkd_in h2 (by decide)
  subst h1
  exact all o (shl_in rfl (by omega)) h0 k i2 h2 h3
set_option maxRecDepth 100000 in
theorem HRf_7 {R : Rm} (h : RI R) : HRf bad7 R := by
  constructor
  · intro o ci k h0 h1 h2
    have all : ∀ o, o < 113 → 0 < o → ∀ k, k < 60 → fkd (shl.getD (o - 1) (999, 0)).1 k = 3 → okH9 o k = true := okH9_all
    obtain ⟨i1, i2⟩ := fkd_in h2 (by decide)
    subst h1
    obtain ⟨rfl, hk⟩ := okH9_s (all o (shl_in rfl (by omega)) h0 k i2 h2)
    rcases hk with rfl | rfl | rfl | rfl
    · exact bad7_o (isO_spec h.now.1).2.2 (by decide)
    · exact bad7_o (isO_spec h.spare.1).2.2 (by decide)
    · exact bad7_o (isO_spec h.plan.1).2.2 (by decide)
    · exact bad7_o (isO_spec h.splan.1).2.2 (by decide)
  · intro a t j h1 h2
    have ha : a < 113 := by
      rcases Nat.lt_or_ge a 113 with q | q
      · exact q
      · unfold aL at h2
        rw [sh_out (by omega)] at h2
        exact absurd h2 (Nat.not_lt_zero _)
    have all : ∀ a, a < 113 → 103 ≤ (shl.getD (a - 1) (999, 0)).1 → (shl.getD (a - 1) (999, 0)).1 < 999 → (a = 2 ∧ aL a = 4) ∨ (a = 33 ∧ aL a = 3) ∨ (a = 34 ∧ aL a = 3) := arr9_all
    have lt : (shl.getD (a - 1) (999, 0)).1 < 999 := by
      have h3 : ∀ a, a < 113 → (shl.getD (a - 1) (999, 0)).1 < 999 := shl9_lt
      exact h3 a ha
    rcases all a ha (by omega) lt with ⟨rfl, e⟩ | ⟨rfl, e⟩ | ⟨rfl, e⟩
    · exact bad7_o (isO_spec (h.tray j (by omega)).2).2.2 (by decide)
    · exact bad7_o (isO_spec (h.kb j (by omega)).2).2.2 (by decide)
    · exact bad7_o (isO_spec (h.kd j (by omega)).2).2.2 (by decide)
noncomputable def okas7 : List Value → Bool
  | [] => true
  | .ref a :: r => !bad7 a && okas7 r
  | _ :: r => okas7 r
theorem okas7_kv : ∀ as : List Value, okas7 as = true → kvS bad7 as := by
  intro as
  induction as with
  | nil => intro _; exact kvS.n
  | cons v r ih =>
    intro h
    cases v with
    | ref a =>
      unfold okas7 at h
      rw [Bool.and_eq_true, Bool.not_eq_true'] at h
      exact kvS.c (kvO.rf h.1) (ih h.2)
    | _ => exact kvS.c (fun _ q => by cases q) (ih h)
/-- all that reads or writes those rows and is not pure: X11_bakery, X11_days, X11_feed, X12_feed, X12_lay, X1_readInto, X1_readKnown, X1_readMan, X1_readOdds, X1_readStore, X1_takeSlices, X3_readAct, X3_readCut, X3_readEnd, X3_readInto, X3_readStep, X3_readTest, X3_takeMan, X6_advance, X6_append, X6_open, X6_readNumber, X6_readWord, X6_takeAny, X6_takeCompares, X6_takeName, X6_takeNumber, X6_takeSemicolon, X6_takeWord -/
noncomputable def dty7 : List Nat := [0, 21, 22, 23, 24, 25, 26, 27, 32, 33, 34, 35, 36, 37, 38, 39, 40, 53, 58, 60, 61, 62, 63, 64, 68, 69, 70, 71, 72, 73, 74, 85, 88, 94, 99, 107, 108, 109, 172, 220, 221]
set_option maxRecDepth 100000 in
theorem cl7 : ClT pul dty7 okg7 (fun _ _ => true) := ClT.ef (by decide +kernel)
theorem kp7 {d mi n : Nat} {as : List Value} {I : Im} {J : Jm} {R : Rm} {Q : Qt} (hd : dty7.elem mi = false) (hR : RI R) (ha : okas7 as = true) (h : AM d mi n as I J R (fun x y I' J' R' => K7 I J I' J' → Q x y I' J' R')) : AM d mi n as I J R Q :=
  AM_w (F := fun I' J' _ => K7 I J I' J') pul_kk cl7 gf_7 stg_7 hd (okas7_kv as ha) (HRf_7 hR) K7.rf h
/-- no row of bytes, none of longs is written by these -/
noncomputable def nbl : List Nat := [1, 3, 5, 6, 7, 8, 9, 10, 11, 12, 13, 14, 15, 16, 17, 18, 19, 20, 22, 23, 25, 26, 28, 29, 30, 31, 33, 34, 35, 36, 37, 38, 39, 41, 42, 43, 44, 45, 46, 47, 48, 49, 50, 51, 52, 54, 55, 56, 57, 59, 61, 62, 63, 64, 65, 66, 67, 68, 69, 70, 71, 72, 73, 75, 76, 77, 78, 79, 80, 81, 82, 83, 84, 86, 87, 92, 93, 95, 97, 100, 101, 102, 105, 109, 110, 111, 112, 113, 114, 115, 116, 118, 119, 120, 121, 122, 123, 125, 126, 127, 128, 129, 130, 131, 132, 133, 134, 135, 136, 137, 138, 139, 143, 144, 145, 149, 150, 151, 152, 153, 154, 155, 156, 157, 158, 159, 160, 161, 162, 163, 164, 165, 166, 167, 168, 169, 170, 171, 173, 174, 175, 176, 177, 178, 179, 180, 182, 183, 185, 187, 188, 189, 190, 191, 192, 193, 194, 195, 196, 197, 198, 199, 200, 201, 202, 203, 204, 205, 206, 207, 208, 209, 210, 211, 212, 213, 214, 215, 216, 217, 218, 219, 222, 223, 224, 225, 226, 227, 228, 229, 230, 234, 235, 236, 237, 238, 239, 240, 241, 242, 243, 244, 245, 246, 247, 248, 249, 250, 251, 252, 253, 255, 256, 257, 258, 259, 260, 261, 262, 263, 264, 265, 266, 267, 269, 270, 271, 272, 273, 274, 275, 276, 277, 278, 279, 280, 281, 282, 283, 284, 285, 286, 287, 288, 289, 290, 291, 292, 293, 294, 295, 296, 297, 298, 299, 300, 301, 302, 304, 305, 306, 307, 308, 309, 310, 311, 312, 313, 314, 315, 319, 321]
set_option maxRecDepth 100000 in
theorem nbl_t : NbT nbl := NbT.of (by decide +kernel)
theorem kt7 {d mi n : Nat} {as : List Value} {I : Im} {J : Jm} {R : Rm} {Q : Qt} (hd : nbl.elem mi = true) (h : AM d mi n as I J R (fun x y I' J' R' => K7 I J I' J' → Q x y I' J' R')) : AM d mi n as I J R Q :=
  AM_m d _ _ _ _ _ _ _ _ (fun x y I' J' R' q => q.2 ⟨q.1.1 4 rfl, q.1.1 101 rfl, q.1.2 5 rfl⟩) (AM_t nbl_t d mi n as I J R _ hd h)
/-- what is shown of a run by another way may be taken along -/
theorem kx {d mi n : Nat} {as : List Value} {I : Im} {J : Jm} {R : Rm} {Q X : Qt} (hx : AM d mi n as I J R X) (h : AM d mi n as I J R (fun x y I' J' R' => X x y I' J' R' → Q x y I' J' R')) : AM d mi n as I J R Q :=
  AM_2 d _ _ _ _ _ _ _ _ _ (fun _ _ _ _ _ a b => b a) hx h
end PT7x3
section PT7x4
/-! ===== the relation of the tapes; what feed() and bakery() answer ===== -/
noncomputable def fl (I : Im) : Nat := (I 3 1).toInt.toNat
theorem fl_bd {I : Im} (h : Bd I) : I 3 1 = nI (fl I) ∧ fl I ≤ 900 := by
  have b := Bd.o h io9_112_3_6 bd9_6_1
  have e : ((fl I : Nat) : Int) = (I 3 1).toInt := by unfold fl; omega
  exact ⟨Int32.toInt_inj.mp (by rw [nI_toInt (by omega)]; omega), by omega⟩
noncomputable def R3 (I : Im) (J : Jm) : Prop := Byt (I 4) ∧ (∀ i, i < fl I → I 4 i = I 101 i) ∧ ∀ k, k < 22 → J 5 k = rsv.getD k 0
theorem R3.kp {I I2 : Im} {J J2 : Jm} (h : R3 I J) (k : K7 I J I2 J2) (e : (I2 3 1).toInt ≤ (I 3 1).toInt) : R3 I2 J2 := by
  obtain ⟨h1, h2, h3⟩ := h
  refine ⟨by rw [k.1]; exact h1, fun i hi => ?_, by rw [k.2.2]; exact h3⟩
  rw [k.1, k.2.1]
  refine h2 i ?_
  unfold fl at hi ⊢
  omega
/-- feed() -/
noncomputable def HF (f : Nat) (a b c e g : Int32) (I : Im) (J : Jm) (x : Int32) (I2 : Im) (J2 : Jm) : Prop := ((f + 20 ≤ 900 ∧ x = nI (f + 20) ∧ I2 3 1 = nI (f + 20) ∧ I2 4 = ap20 (I 4) f a b c e g) ∨ (900 < f + 20 ∧ x = -1 ∧ I2 3 1 = nI f ∧ I2 4 = I 4)) ∧ I2 101 = I 101 ∧ J2 5 = J 5 ∧ I2 97 8 = I 97 8
noncomputable def MF (f : Nat) (a b c e g : Int32) (I : Im) (J : Jm) (x : Int32) (I2 : Im) (J2 : Jm) : Prop := ((f + 20 ≤ 900 ∧ x = nI (f + 20) ∧ I2 97 8 = nI (f + 20) ∧ I2 101 = ap20 (I 101) f a b c e g) ∨ (900 < f + 20 ∧ x = -1 ∧ I2 97 8 = nI f ∧ I2 101 = I 101)) ∧ I2 4 = I 4 ∧ J2 5 = J 5 ∧ I2 3 1 = I 3 1
theorem cx_feed {d : Nat} {a b c e g : Int32} {I : Im} {J : Jm} {R : Rm} (hB : Bd I) : AM (d + 3) 107 112 [.ref 1, .int a, .int b, .int c, .int e, .int g] I J R (fun x _ I2 J2 _ => HF (fl I) a b c e g I J x I2 J2) := by
  obtain ⟨h1, h2⟩ := fl_bd hB
  rcases Nat.lt_or_ge 900 (fl I + 20) with q | q
  · exact px_cfN q h2 h1 ⟨Or.inr ⟨q, rfl, h1, rfl⟩, rfl, rfl, rfl⟩
  · exact px_cfY q h1 (fun I2 hF e1 e4 => ⟨Or.inl ⟨q, rfl, e1, e4⟩, hF.c (by intro k z; omega), rfl, hF.i (by omega)⟩)
theorem mx_feed {d f : Nat} {a b c e g : Int32} {I : Im} {J : Jm} {R : Rm} (h1 : I 97 8 = nI f) (h2 : f ≤ 900) : AM (d + 3) 220 112 [.ref 97, .int a, .int b, .int c, .int e, .int g] I J R (fun x _ I2 J2 _ => MF f a b c e g I J x I2 J2) := by
  rcases Nat.lt_or_ge 900 (f + 20) with q | q
  · exact px_mfN q h2 h1 ⟨Or.inr ⟨q, rfl, (rd_k (by decide)).trans h1, uI_ne (by decide)⟩, uI_ne (by decide), rfl, rd_ne (by decide)⟩
  · exact px_mfY q h1 (fun I2 hF e1 e4 => ⟨Or.inl ⟨q, rfl, e1, e4⟩, hF.c (by intro k z; omega), rfl, hF.i (by omega)⟩)
theorem R3.feed {f : Nat} {a b c e g x x2 : Int32} {I I1 I2 : Im} {J J1 J2 : Jm} (h : R3 I J) (hf : f = fl I) (h1 : HF f a b c e g I J x I1 J1) (h2 : MF f a b c e g I1 J1 x2 I2 J2) : R3 I2 J2 ∧ x2 = x := by
  obtain ⟨a1, a2, a3⟩ := h
  obtain ⟨p, p2, p3, p4⟩ := h1
  obtain ⟨q, q2, q3, q4⟩ := h2
  have j5 : ∀ k, k < 22 → J2 5 k = rsv.getD k 0 := by rw [q3, p3]; exact a3
  rcases p with ⟨b1, b2, b3, b4⟩ | ⟨b1, b2, b3, b4⟩
  · rcases q with ⟨c1, c2, c3, c4⟩ | ⟨c1, c2, c3, c4⟩
    · refine ⟨⟨by rw [q2, b4]; exact ap20_b a1, fun i hi => ?_, j5⟩, by rw [c2, b2]⟩
      rw [q2, b4, c4, p2]
      refine ap20_e (f := f) (fun j hj => a2 j (by omega)) i ?_
      unfold fl at hi
      rw [q4, b3, nI_toInt (by omega)] at hi
      omega
    · omega
  · rcases q with ⟨c1, c2, c3, c4⟩ | ⟨c1, c2, c3, c4⟩
    · omega
    · refine ⟨⟨by rw [q2, b4]; exact a1, fun i hi => ?_, j5⟩, by rw [c2, b2]⟩
      rw [q2, b4, c4, p2]
      have hf9 : f < 2 ^ 31 := by
        have := i32 (I 3 1)
        rw [hf]; unfold fl; omega
      refine a2 i ?_
      unfold fl at hi
      rw [q4, b3, nI_toInt hf9] at hi
      omega
/-- bakery(): how many men, by the text -/
noncomputable def bkX (T : Nat → Int32) (n : Nat) : Int32 := match prB T n (n + 1) em0 0 with
  | .error _ => -1
  | .ok p => p.1.1 0
noncomputable def HB (f : Nat) (T : Nat → Int32) (v x : Int32) (z : Int32) (z0 : Int32) : Prop := ((v < 0 ∨ nI f < v) ∧ x = -1 ∧ z = z0) ∨ ∃ n, n ≤ f ∧ v = nI n ∧ z = 0 ∧ x = bkX T n
theorem sp_v {v : Int32} {f : Nat} (hf : f ≤ 900) : (v < 0 ∨ nI f < v) ∨ ∃ n, n ≤ f ∧ v = nI n := by
  by_cases q : v < 0 ∨ nI f < v
  · exact Or.inl q
  · refine Or.inr ⟨v.toInt.toNat, ?_, ?_⟩
    all_goals
      have h1 : ¬ v < 0 := fun z => q (Or.inl z)
      have h2 : ¬ nI f < v := fun z => q (Or.inr z)
      rw [Int32.lt_iff_toInt_lt] at h1 h2
      rw [nI_toInt (by omega)] at h2
      have e0 : (0 : Int32).toInt = 0 := rfl
    · omega
    · exact Int32.toInt_inj.mp (by rw [nI_toInt (by omega)]; omega)
theorem cx_bakery {d : Nat} {v : Int32} {I : Im} {J : Jm} {R : Rm} (hB : Bd I) (hR : RI R) (h3 : R3 I J) : AM (d + 8) 108 112 [.ref 1, .int v] I J R (fun x _ I2 J2 _ => HB (fl I) (I 4) v x (I2 3 1) (I 3 1) ∧ K7 I J I2 J2) := by
  obtain ⟨h1, h2⟩ := fl_bd hB
  rcases sp_v (v := v) h2 with q | ⟨n, hn, rfl⟩
  · exact px_cbN h2 h1 q ⟨Or.inl ⟨q, rfl, rd_ne (by decide)⟩, uI_ne (by decide), uI_ne (by decide), rfl⟩
  · have ho := o_ge hR.spare.1
    have hp := p_ge hR.plan.1
    have hol := o_lt hR.spare.1
    have hpl := o_lt hR.plan.1
    have ho5 := o_9 _ hol hR.spare.1
    have hp5 := p_21 _ hpl hR.plan.1
    have k7 : ∀ I2 J2, FrW (WC (R 1 8) (R 1 9)) (VB (R 1 8)) I J I2 J2 → K7 I J I2 J2 := fun I2 J2 hF => ⟨hF.c (by intro k z; omega), hF.c (by intro k z; omega), hF.cj (by intro k z; omega)⟩
    exact px_cbY h2 hn h1 h3.2.2 hR (fun p I2 J2 he hF e1 _ _ => ⟨Or.inr ⟨n, hn, rfl, e1, by unfold bkX; rw [he]⟩, k7 I2 J2 hF⟩) (fun B2 b I2 J2 he _ hF e1 _ _ _ _ _ _ _ => ⟨Or.inr ⟨n, hn, rfl, e1, by unfold bkX; rw [he]⟩, k7 I2 J2 hF⟩)
theorem mx_bakery {d f : Nat} {T : Nat → Int32} {v : Int32} {I : Im} {J : Jm} {R : Rm} (h1 : I 97 8 = nI f) (h2 : f ≤ 900) (hT : Byt T) (hI : ∀ i, i < f → I 101 i = T i) : AM (d + 8) 233 112 [.ref 97, .int v] I J R (fun x _ I2 J2 _ => HB f T v x (I2 97 8) (I 97 8) ∧ K7 I J I2 J2 ∧ I2 3 1 = I 3 1) := by
  have k7 : ∀ I2 J2, FrQ I J I2 J2 → K7 I J I2 J2 ∧ I2 3 1 = I 3 1 := fun I2 J2 hF => ⟨⟨hF.c (by intro k z; omega), hF.c (by intro k z; omega), hF.cj (by intro k z; omega)⟩, hF.i (by omega)⟩
  rcases sp_v (v := v) h2 with q | ⟨n, hn, rfl⟩
  · exact px_mbN h2 h1 q (fun I2 hF e8 _ _ _ => ⟨Or.inl ⟨q, rfl, e8⟩, k7 I2 J hF⟩)
  · exact px_mbY h2 hn h1 hT hI (fun p I2 J2 he hF e1 _ _ _ => ⟨Or.inr ⟨n, hn, rfl, e1, by unfold bkX; rw [he]⟩, k7 I2 J2 hF⟩) (fun B2 b I2 J2 he _ hF e1 _ _ _ _ => ⟨Or.inr ⟨n, hn, rfl, e1, by unfold bkX; rw [he]⟩, k7 I2 J2 hF⟩)
theorem HB.eq {f : Nat} {T : Nat → Int32} {v x x2 z z0 w w0 : Int32} (hf : f ≤ 900) (h : HB f T v x z z0) (h2 : HB f T v x2 w w0) : x2 = x := by
  rcases h with ⟨a1, a2, a3⟩ | ⟨n, a1, a2, a3, a4⟩
  · rcases h2 with ⟨b1, b2, b3⟩ | ⟨m, b1, b2, b3, b4⟩
    · rw [a2, b2]
    · rw [b2] at a1
      rcases a1 with q | q
      · exact absurd q (nI_pos (by omega))
      · have := (nlt_nI (by omega) (by omega)).mp q; omega
  · rcases h2 with ⟨b1, b2, b3⟩ | ⟨m, b1, b2, b3, b4⟩
    · rw [a2] at b1
      rcases b1 with q | q
      · exact absurd q (nI_pos (by omega))
      · have := (nlt_nI (by omega) (by omega)).mp q; omega
    · have := (nK (a := n) (b := m) (by omega) (by omega)).mp (a2.symm.trans b2)
      rw [a4, b4, this]
theorem HB.le {f : Nat} {T : Nat → Int32} {v x z z0 : Int32} (hz : 0 ≤ z0.toInt) (h : HB f T v x z z0) : z.toInt ≤ z0.toInt := by
  rcases h with ⟨a1, a2, a3⟩ | ⟨n, a1, a2, a3, a4⟩
  · rw [a3]; exact Int.le_refl _
  · rw [a3]; exact hz
end PT7x4
section PT7x5
/-! printed by grp4.py: the men, their names, what is known: what keeps them -/
noncomputable def badnm (a : Nat) : Bool := Nat.beq a 11 || (Nat.beq a 17 || (Nat.beq a 63 || (Nat.beq a 75 || (Nat.beq a 87 || (Nat.beq a 104)))))
noncomputable def okgnm (ci k : Nat) : Bool := !(Nat.beq ci 0 && Nat.beq k 5) && !(Nat.beq ci 12 && Nat.beq k 22)
noncomputable def Knm (I : Im) (J : Jm) (I2 : Im) (J2 : Jm) : Prop := J2 11 = J 11 ∧ J2 17 = J 17 ∧ J2 63 = J 63 ∧ J2 75 = J 75 ∧ J2 87 = J 87 ∧ J2 104 = J 104
theorem Knm.rf {I : Im} {J : Jm} : Knm I J I J := ⟨rfl, rfl, rfl, rfl, rfl, rfl⟩
theorem badnm_f {a : Nat} (h : badnm a = false) : ¬ a = 11 ∧ ¬ a = 17 ∧ ¬ a = 63 ∧ ¬ a = 75 ∧ ¬ a = 87 ∧ ¬ a = 104 := by
  refine ⟨?_, ?_, ?_, ?_, ?_, ?_⟩ <;> intro q <;> subst q <;> exact absurd h (by decide)
theorem badnm_i {a : Nat} (h : ¬ a = 11 ∧ ¬ a = 17 ∧ ¬ a = 63 ∧ ¬ a = 75 ∧ ¬ a = 87 ∧ ¬ a = 104) : badnm a = false := by
  cases q : badnm a with
  | false => rfl
  | true =>
    unfold badnm at q
    rw [Bool.or_eq_true, Bool.or_eq_true, Bool.or_eq_true, Bool.or_eq_true, Bool.or_eq_true] at q
    rcases q with q | q
    · exact absurd (Nat.eq_of_beq_eq_true q) h.1
    rcases q with q | q
    · exact absurd (Nat.eq_of_beq_eq_true q) h.2.1
    rcases q with q | q
    · exact absurd (Nat.eq_of_beq_eq_true q) h.2.2.1
    rcases q with q | q
    · exact absurd (Nat.eq_of_beq_eq_true q) h.2.2.2.1
    rcases q with q | q
    · exact absurd (Nat.eq_of_beq_eq_true q) h.2.2.2.2.1
    exact absurd (Nat.eq_of_beq_eq_true q) h.2.2.2.2.2
theorem badnm_o {a ci : Nat} (h : (shl.getD (a - 1) (999, 0)).1 = ci) (hc : ci < 100) : badnm a = false := by
  refine badnm_i ⟨fun q => ?_, fun q => ?_, fun q => ?_, fun q => ?_, fun q => ?_, fun q => ?_⟩ <;> subst q
  · have : (shl.getD (11 - 1) (999, 0)).1 = 101 := rfl
    omega
  · have : (shl.getD (17 - 1) (999, 0)).1 = 101 := rfl
    omega
  · have : (shl.getD (63 - 1) (999, 0)).1 = 101 := rfl
    omega
  · have : (shl.getD (75 - 1) (999, 0)).1 = 101 := rfl
    omega
  · have : (shl.getD (87 - 1) (999, 0)).1 = 101 := rfl
    omega
  · have : (shl.getD (104 - 1) (999, 0)).1 = 101 := rfl
    omega
theorem stg_nm {I0 : Im} {J0 : Jm} : StG badnm (fun _ _ => true) (fun I J _ => Knm I0 J0 I J) := by
  refine ⟨fun I J R o ci k x h1 h2 h3 hF => ?_, fun I J R o ci k x h1 h2 h3 hF => ?_, fun I J R a t j x h1 h2 hF => ?_, fun I J R a t j x h1 h2 hF => ?_, fun I J R a0 a1 t p q m h1 h2 hF => ?_, fun I J R a0 a1 t p q m h1 h2 hF => ?_, fun I J R o ci k x h1 h2 hF => hF⟩
  · exact hF
  · have hb := badnm_f (badnm_o h1 h2)
    exact ⟨(uJ_ne (fun q => hb.1 q.symm)).trans hF.1, (uJ_ne (fun q => hb.2.1 q.symm)).trans hF.2.1, (uJ_ne (fun q => hb.2.2.1 q.symm)).trans hF.2.2.1, (uJ_ne (fun q => hb.2.2.2.1 q.symm)).trans hF.2.2.2.1, (uJ_ne (fun q => hb.2.2.2.2.1 q.symm)).trans hF.2.2.2.2.1, (uJ_ne (fun q => hb.2.2.2.2.2 q.symm)).trans hF.2.2.2.2.2⟩
  · exact hF
  · have hb := badnm_f h2
    exact ⟨(uJ_ne (fun q => hb.1 q.symm)).trans hF.1, (uJ_ne (fun q => hb.2.1 q.symm)).trans hF.2.1, (uJ_ne (fun q => hb.2.2.1 q.symm)).trans hF.2.2.1, (uJ_ne (fun q => hb.2.2.2.1 q.symm)).trans hF.2.2.2.1, (uJ_ne (fun q => hb.2.2.2.2.1 q.symm)).trans hF.2.2.2.2.1, (uJ_ne (fun q => hb.2.2.2.2.2 q.symm)).trans hF.2.2.2.2.2⟩
  · exact hF
  · have hb := badnm_f h2
    exact ⟨(if_neg (fun q => hb.1 q.symm)).trans hF.1, (if_neg (fun q => hb.2.1 q.symm)).trans hF.2.1, (if_neg (fun q => hb.2.2.1 q.symm)).trans hF.2.2.1, (if_neg (fun q => hb.2.2.2.1 q.symm)).trans hF.2.2.2.1, (if_neg (fun q => hb.2.2.2.2.1 q.symm)).trans hF.2.2.2.2.1, (if_neg (fun q => hb.2.2.2.2.2 q.symm)).trans hF.2.2.2.2.2⟩
set_option maxRecDepth 100000 in
theorem gf_nm : ∀ o ci k, 0 < o → (shl.getD (o - 1) (999, 0)).1 = ci → fkd ci k = 4 → okgnm ci k = true → badnm (o + fof ci k) = false := by
  have each : ∀ q ∈ fk4L, okgnm (shl.getD (q.1 - 1) (999, 0)).1 q.2 = true → badnm (q.1 + fof (shl.getD (q.1 - 1) (999, 0)).1 q.2) = false := by decide +kernel
  have all : ∀ o, o < 113 → 0 < o → ∀ k, k < 60 → fkd (shl.getD (o - 1) (999, 0)).1 k = 4 → okgnm (shl.getD (o - 1) (999, 0)).1 k = true → badnm (o + fof (shl.getD (o - 1) (999, 0)).1 k) = false := fun o h1 h0 k h2 h3 h4 => each (o, k) (List.contains_iff_mem.mp (fk4_all o h1 h0 k h2 h3)) h4
  intro o ci k h0 h1 h2 h3
  obtain ⟨i1, i2⟩ := fkd_in h2 (by decide)
  subst h1
  exact all o (shl_in rfl (by omega)) h0 k i2 h2 h3
set_option maxRecDepth 100000 in
theorem HRf_nm {R : Rm} (h : RI R) : HRf badnm R := by
  constructor
  · intro o ci k h0 h1 h2
    have all : ∀ o, o < 113 → 0 < o → ∀ k, k < 60 → fkd (shl.getD (o - 1) (999, 0)).1 k = 3 → okH9 o k = true := okH9_all
    obtain ⟨i1, i2⟩ := fkd_in h2 (by decide)
    subst h1
    obtain ⟨rfl, hk⟩ := okH9_s (all o (shl_in rfl (by omega)) h0 k i2 h2)
    rcases hk with rfl | rfl | rfl | rfl
    · exact badnm_o (isO_spec h.now.1).2.2 (by decide)
    · exact badnm_o (isO_spec h.spare.1).2.2 (by decide)
    · exact badnm_o (isO_spec h.plan.1).2.2 (by decide)
    · exact badnm_o (isO_spec h.splan.1).2.2 (by decide)
  · intro a t j h1 h2
    have ha : a < 113 := by
      rcases Nat.lt_or_ge a 113 with q | q
      · exact q
      · unfold aL at h2
        rw [sh_out (by omega)] at h2
        exact absurd h2 (Nat.not_lt_zero _)
    have all : ∀ a, a < 113 → 103 ≤ (shl.getD (a - 1) (999, 0)).1 → (shl.getD (a - 1) (999, 0)).1 < 999 → (a = 2 ∧ aL a = 4) ∨ (a = 33 ∧ aL a = 3) ∨ (a = 34 ∧ aL a = 3) := arr9_all
    have lt : (shl.getD (a - 1) (999, 0)).1 < 999 := by
      have h3 : ∀ a, a < 113 → (shl.getD (a - 1) (999, 0)).1 < 999 := shl9_lt
      exact h3 a ha
    rcases all a ha (by omega) lt with ⟨rfl, e⟩ | ⟨rfl, e⟩ | ⟨rfl, e⟩
    · exact badnm_o (isO_spec (h.tray j (by omega)).2).2.2 (by decide)
    · exact badnm_o (isO_spec (h.kb j (by omega)).2).2.2 (by decide)
    · exact badnm_o (isO_spec (h.kd j (by omega)).2).2.2 (by decide)
noncomputable def okasnm : List Value → Bool
  | [] => true
  | .ref a :: r => !badnm a && okasnm r
  | _ :: r => okasnm r
theorem okasnm_kv : ∀ as : List Value, okasnm as = true → kvS badnm as := by
  intro as
  induction as with
  | nil => intro _; exact kvS.n
  | cons v r ih =>
    intro h
    cases v with
    | ref a =>
      unfold okasnm at h
      rw [Bool.and_eq_true, Bool.not_eq_true'] at h
      exact kvS.c (kvO.rf h.1) (ih h.2)
    | _ => exact kvS.c (fun _ q => by cases q) (ih h)
/-- all that comes to the names and is not pure -/
noncomputable def dtynm : List Nat := [0, 2, 4, 21, 24, 27, 32, 40, 53, 58, 74, 85, 88, 94, 99, 108, 124, 146, 147, 148, 172, 231, 232, 233, 268, 316, 317, 318]
set_option maxRecDepth 100000 in
theorem clnm : ClT pul dtynm okgnm (fun _ _ => true) := ClT.ef (by decide +kernel)
theorem kpnm {d mi n : Nat} {as : List Value} {I : Im} {J : Jm} {R : Rm} {Q : Qt} (hd : dtynm.elem mi = false) (hR : RI R) (ha : okasnm as = true) (h : AM d mi n as I J R (fun x y I' J' R' => Knm I J I' J' → Q x y I' J' R')) : AM d mi n as I J R Q :=
  AM_w (F := fun I' J' _ => Knm I J I' J') pul_kk clnm gf_nm stg_nm hd (okasnm_kv as ha) (HRf_nm hR) Knm.rf h
noncomputable def BKL : List Nat := [9, 15, 61, 73, 85]
theorem BKL_sh : ∀ c, c ∈ BKL → (shl.getD (c - 1) (999, 0)).1 = 0 := by decide
noncomputable def okpA (ci k : Nat) : Bool := !(Nat.beq ci 0 && (Nat.beq k 4 || Nat.beq k 2)) && !(Nat.beq ci 12 && Nat.beq k 23)
theorem okpA_f {ci k : Nat} (h : okpA ci k = true) : (ci = 0 → ¬ 4 = k ∧ ¬ 2 = k) ∧ (ci = 12 → ¬ 23 = k) := by
  refine ⟨fun e => ⟨fun q => ?_, fun q => ?_⟩, fun e q => ?_⟩ <;> subst e <;> subst q <;> exact absurd h (by decide)
noncomputable def KA (I I2 : Im) : Prop := (∀ c, c ∈ BKL → I2 c 4 = I c 4 ∧ I2 c 2 = I c 2) ∧ I2 97 23 = I 97 23
theorem KA.rf {I : Im} : KA I I := ⟨fun _ _ => ⟨rfl, rfl⟩, rfl⟩
theorem KA.tr {I I2 I3 : Im} (h : KA I I2) (h2 : KA I2 I3) : KA I I3 := ⟨fun c hc => ⟨(h2.1 c hc).1.trans (h.1 c hc).1, (h2.1 c hc).2.trans (h.1 c hc).2⟩, h2.2.trans h.2⟩
theorem KA.ne {I I2 I3 : Im} (h : KA I I2) (e : ∀ c, c ∈ BKL → I3 c = I2 c) (e2 : I3 97 = I2 97) : KA I I3 := ⟨fun c hc => by rw [e c hc]; exact h.1 c hc, by rw [e2]; exact h.2⟩
theorem stg_A {I0 : Im} : StG (fun _ => false) okpA (fun I _ _ => KA I0 I) := by
  have s97 : (shl.getD (97 - 1) (999, 0)).1 = 12 := rfl
  refine ⟨fun I J R o ci k x h1 h2 h3 hF => ⟨fun c hc => ?_, ?_⟩, fun I J R o ci k x h1 h2 h3 hF => hF, fun I J R a t j x h1 h2 hF => ?_, fun I J R a t j x h1 h2 hF => hF, fun I J R a0 a1 t p q m h1 h2 hF => ?_, fun I J R a0 a1 t p q m h1 h2 hF => hF, fun I J R o ci k x h1 h2 hF => hF⟩
  · by_cases ho : c = o
    · subst ho
      have e := (okpA_f h3).1 (h1.symm.trans (BKL_sh c hc))
      exact ⟨(rd_k e.1).trans (hF.1 c hc).1, (rd_k e.2).trans (hF.1 c hc).2⟩
    · rw [uI_ne ho]; exact hF.1 c hc
  · by_cases ho : 97 = o
    · subst ho
      exact (rd_k ((okpA_f h3).2 (h1.symm.trans s97))).trans hF.2
    · rw [uI_ne ho]; exact hF.2
  · refine KA.ne hF (fun c hc => uI_ne (fun q => ?_)) (uI_ne (fun q => ?_))
    · have := BKL_sh c hc; subst q; omega
    · subst q; omega
  · refine KA.ne hF (fun c hc => if_neg (fun q => ?_)) (if_neg (fun q => ?_))
    · have := BKL_sh c hc; subst q; omega
    · subst q; omega
/-- all that may write those: X0_addMan, X0_copyFrom, X0_forget, X11_back, X11_bakery, X11_come, X11_learn, X11_mark, X11_mean, X12_back, X12_mark, X1_readInto, X1_readKnown, X1_readMan -/
noncomputable def dtyA : List Nat := [0, 1, 2, 4, 21, 24, 25, 27, 32, 40, 53, 58, 74, 85, 88, 94, 99, 108, 124, 125, 146, 147, 148, 172, 317, 318]
set_option maxRecDepth 100000 in
theorem clMn8 : ClT pul dtyA (fun _ _ => true) okpA := ClT.ef (by decide +kernel)
theorem kpA {d mi n : Nat} {as : List Value} {I : Im} {J : Jm} {R : Rm} {Q : Qt} (hd : dtyA.elem mi = false) (h : AM d mi n as I J R (fun x y I' J' R' => KA I I' → Q x y I' J' R')) : AM d mi n as I J R Q :=
  AM_w (F := fun I' _ _ => KA I I') pul_kk clMn8 gf_none stg_A hd kvS_none HRf_none KA.rf h
/-- no row of ints is written by these -/
noncomputable def nil8 : List Nat := [3, 5, 6, 7, 8, 9, 10, 11, 12, 13, 16, 20, 22, 25, 26, 28, 39, 44, 45, 52, 57, 59, 60, 61, 62, 63, 64, 65, 66, 67, 68, 69, 70, 71, 72, 73, 80, 81, 87, 91, 92, 93, 95, 96, 97, 98, 100, 101, 102, 103, 104, 105, 106, 107, 110, 111, 112, 113, 114, 115, 116, 117, 125, 126, 133, 143, 145, 149, 150, 151, 152, 153, 154, 155, 156, 157, 158, 159, 160, 161, 162, 163, 164, 165, 166, 167, 168, 169, 170, 171, 173, 174, 175, 176, 177, 178, 179, 180, 182, 183, 184, 185, 186, 187, 188, 189, 190, 191, 192, 193, 194, 195, 196, 197, 198, 199, 200, 201, 202, 203, 204, 205, 206, 207, 208, 209, 210, 211, 212, 213, 214, 215, 216, 217, 218, 219, 220, 221, 222, 223, 224, 226, 227, 238, 239, 240, 241, 242, 243, 244, 245, 246, 247, 248, 249, 250, 251, 252, 253, 254, 255, 256, 274, 282, 283, 284, 285, 286, 287, 288, 296, 300, 301, 302, 303, 304, 309, 314, 319, 320]
set_option maxRecDepth 100000 in
theorem nil8_t : NiT nil8 := NiT.of (by decide +kernel)
theorem kti {d mi n : Nat} {as : List Value} {I : Im} {J : Jm} {R : Rm} {Q : Qt} (hd : nil8.elem mi = true) (h : AM d mi n as I J R (fun x y I' J' R' => I' 102 = I 102 → Q x y I' J' R')) : AM d mi n as I J R Q :=
  AM_m d _ _ _ _ _ _ _ _ (fun x y I' J' R' q => q.2 (q.1 102 rfl)) (AM_i nil8_t d mi n as I J R _ hd h)
/-- men, names, what is known: now and kept -/
noncomputable def K8 (I : Im) (J : Jm) (I2 : Im) (J2 : Jm) : Prop := KA I I2 ∧ Knm I J I2 J2 ∧ KC I I2
end PT7x5
section PT7x6
/-! ===== men, names, what is known: both sides alike ===== -/
theorem cI_ne {I : Im} {a0 a1 p q m c : Nat} (h : ¬ c = a1) : cI I a0 a1 p q m c = I c := if_neg h
theorem cJ_ne {J : Jm} {a0 a1 p q m c : Nat} (h : ¬ c = a1) : cJ J a0 a1 p q m c = J c := if_neg h
theorem cJ_at {J : Jm} {a0 a1 m k : Nat} (h : k < m) : cJ J a0 a1 0 0 m a1 k = J a0 k := by
  unfold cJ va_cpy
  rw [if_pos rfl, if_pos (by omega)]
  exact congrArg (J a0) (by omega)
theorem cI_at {I : Im} {a0 a1 m k : Nat} (h : k < m) : cI I a0 a1 0 0 m a1 k = I a0 k := by
  unfold cI va_cpy
  rw [if_pos rfl, if_pos (by omega)]
  exact congrArg (I a0) (by omega)
noncomputable def KB (C : Nat → Int32) (N : Nat → Int64) (c n o : Nat) (I : Im) (J : Jm) : Prop := I o 4 = C c ∧ I o 2 = C (c + 3) ∧ ∀ k : Nat, k < 6 → (k : Int) < (C c).toInt → J (o + 2) k = N (n + k)
noncomputable def RM (I : Im) (J : Jm) (R : Rm) : Prop := KB (I 102) (J 104) 0 0 (R 1 7) I J ∧ ∀ j : Nat, j < 3 → (j : Int) < (I 97 23).toInt → KB (I 102) (J 104) (324 * (j + 1)) (6 * (j + 1)) (61 + 12 * j) I J
theorem bk_in {o : Nat} (h : isO 112 o 0 = true) : o ∈ BKL := by
  rcases o_9 o (o_lt h) h with q | q | q | q | q <;> subst q <;> decide
theorem bk_nm {I I2 : Im} {J J2 : Jm} (h : Knm I J I2 J2) : ∀ c, c ∈ BKL → J2 (c + 2) = J (c + 2) := fun c hc => by
  have : c = 9 ∨ c = 15 ∨ c = 61 ∨ c = 73 ∨ c = 85 := by simpa [BKL] using hc
  rcases this with q | q | q | q | q <;> subst q
  · exact h.1
  · exact h.2.1
  · exact h.2.2.1
  · exact h.2.2.2.1
  · exact h.2.2.2.2.1
theorem now_bk {R : Rm} (hR : RI R) : R 1 7 ∈ BKL := bk_in hR.now.1
theorem kb_bk {j : Nat} (hj : j < 3) : 61 + 12 * j ∈ BKL := by
  rcases (show j = 0 ∨ j = 1 ∨ j = 2 by omega) with q | q | q <;> subst q <;> decide
theorem pK0 : pK 0 := Or.inl rfl
theorem pK3 : pK 3 := Or.inr (Or.inl rfl)
theorem pKj {j : Nat} (hj : j < 3) : pK (324 * (j + 1)) ∧ pK (324 * (j + 1) + 3) := by
  constructor <;> unfold pK <;> omega
theorem KB.kp {c n o : Nat} {I I2 : Im} {J J2 : Jm} (h : KB (I 102) (J 104) c n o I J) (k : K8 I J I2 J2) (ho : o ∈ BKL) (h1 : pK c) (h2 : pK (c + 3)) : KB (I2 102) (J2 104) c n o I2 J2 := by
  obtain ⟨a1, a2, a3⟩ := h
  obtain ⟨k1, k2, k3⟩ := k
  obtain ⟨e1, e2⟩ := k1.1 o ho
  refine ⟨by rw [e1, k3 _ h1]; exact a1, by rw [e2, k3 _ h2]; exact a2, fun i h6 hi => ?_⟩
  rw [k3 _ h1] at hi
  rw [bk_nm k2 o ho, k2.2.2.2.2.2]
  exact a3 i h6 hi
theorem RM.kp {I I2 : Im} {J J2 : Jm} {R : Rm} (hR : RI R) (h : RM I J R) (k : K8 I J I2 J2) : RM I2 J2 R := by
  refine ⟨h.1.kp k (now_bk hR) pK0 pK3, fun j hj hm => ?_⟩
  rw [k.1.2] at hm
  exact (h.2 j hj hm).kp k (kb_bk hj) (pKj hj).1 (pKj hj).2
theorem RM.r {I : Im} {J : Jm} {R R2 : Rm} (h : RM I J R) (e : R2 1 7 = R 1 7) : RM I J R2 := by
  unfold RM at h ⊢
  rw [e]; exact h
/-- the class has changed the bakery at o (that which is now, then) and perhaps the one at e -/
noncomputable def HN (o e : Nat) (m k : Int32) (N : Nat → Int64) (I : Im) (J : Jm) (I1 : Im) (J1 : Jm) : Prop := I1 o 4 = m ∧ I1 o 2 = k ∧ J1 (o + 2) = N ∧ (∀ c, c ∈ BKL → ¬ c = o → ¬ c = e → I1 c 4 = I c 4 ∧ I1 c 2 = I c 2) ∧ (∀ c, c ∈ BKL → ¬ c = o → ¬ c = e → J1 (c + 2) = J (c + 2)) ∧ J1 104 = J 104 ∧ I1 102 = I 102 ∧ I1 97 23 = I 97 23
/-- the reference has changed its first block -/
noncomputable def MN (m k : Int32) (N : Nat → Int64) (I : Im) (J : Jm) (I2 : Im) (J2 : Jm) : Prop := I2 102 0 = m ∧ I2 102 3 = k ∧ (∀ i, i < 6 → J2 104 i = N i) ∧ (∀ j, pK j → 6 ≤ j → I2 102 j = I 102 j) ∧ (∀ i, 6 ≤ i → i < 24 → J2 104 i = J 104 i) ∧ (∀ c, c ∈ BKL → I2 c 4 = I c 4 ∧ I2 c 2 = I c 2) ∧ (∀ c, c ∈ BKL → J2 (c + 2) = J (c + 2)) ∧ (I2 97 23).toInt ≤ (I 97 23).toInt
theorem bk_six {c : Nat} (h : c ∈ BKL) : c = 9 ∨ c = 15 ∨ c = 61 ∨ c = 73 ∨ c = 85 := by simpa [BKL] using h
theorem K8.mn {I I2 : Im} {J J2 : Jm} (k : K8 I J I2 J2) : MN (I 102 0) (I 102 3) (J 104) I J I2 J2 := by
  obtain ⟨k1, k2, k3⟩ := k
  exact ⟨k3 0 pK0, k3 3 pK3, fun i _ => by rw [k2.2.2.2.2.2], fun j hj _ => k3 j hj, fun i _ _ => by rw [k2.2.2.2.2.2], k1.1, bk_nm k2, Int.le_of_eq (congrArg Int32.toInt k1.2)⟩
theorem RM.now {o e : Nat} {m k : Int32} {N N2 : Nat → Int64} {I I1 I2 : Im} {J J1 J2 : Jm} {R R2 : Rm} (ho : o = 9 ∨ o = 15) (he : e < 61) (h7 : R2 1 7 = o) (h : RM I J R) (h1 : HN o e m k N I J I1 J1) (h2 : MN m k N2 I1 J1 I2 J2) (eN : ∀ i : Nat, i < 6 → (i : Int) < m.toInt → N i = N2 i) : RM I2 J2 R2 := by
  obtain ⟨a1, a2, a3, a4, a5, a6, a7, a8⟩ := h1
  obtain ⟨b1, b2, b3, b4, b5, b6, b7, b8⟩ := h2
  have n7 : o ∈ BKL := by rcases ho with q | q <;> subst q <;> decide
  unfold RM
  rw [h7]
  refine ⟨⟨?_, ?_, fun i h6 hi => ?_⟩, fun j hj hm => ?_⟩
  · rw [(b6 _ n7).1, a1, b1]
  · rw [(b6 _ n7).2, a2]; exact b2.symm
  · rw [b1] at hi
    rw [b7 _ n7, a3, Nat.zero_add, b3 i h6]
    exact eN i h6 hi
  · rw [a8] at b8
    obtain ⟨c1, c2, c3⟩ := h.2 j hj (by omega)
    have hk := kb_bk hj
    have hne : ¬ 61 + 12 * j = o := by omega
    have hnf : ¬ 61 + 12 * j = e := by omega
    have p0 := b4 _ (pKj hj).1 (by omega)
    have p3 := b4 _ (pKj hj).2 (by omega)
    refine ⟨?_, ?_, fun i h6 hi => ?_⟩
    · rw [(b6 _ hk).1, (a4 _ hk hne hnf).1, p0, a7]; exact c1
    · rw [(b6 _ hk).2, (a4 _ hk hne hnf).2, p3, a7]; exact c2
    · rw [p0, a7] at hi
      rw [b7 _ hk, a5 _ hk hne hnf, b5 _ (by omega) (by omega), a6]
      exact c3 i h6 hi
theorem now_9 {R : Rm} (hR : RI R) : R 1 7 = 9 ∨ R 1 7 = 15 := hR.rp.1.elim (fun q => Or.inl q.1) (fun q => Or.inr q.1)
/-! a share, a slice, a man -/
theorem ile {a b : Int32} : ¬ b < a ↔ a ≤ b := by
  rw [Int32.lt_iff_toInt_lt, Int32.le_iff_toInt_le]; omega
noncomputable def sh (p q : Int32) : Prop := ((1 : Int32) ≤ p ∧ p ≤ 99) ∧ ((1 : Int32) ≤ q ∧ q ≤ 30)
theorem px_isShare {d : Nat} {Q : Qt} {p q : Int32} {I : Im} {J : Jm} {R : Rm} (hY : sh p q → Q 1 0 I J R) (hN : ¬ sh p q → Q 0 0 I J R) : AM (d + 1) 162 112 [.int p, .int q] I J R Q := by
  refine w_X11_isShare ⟨fun c => ⟨Or.inl rfl, hN (fun z => ile.mpr z.1.1 c)⟩, fun c1 => ⟨fun c => ⟨Or.inl rfl, hN (fun z => ile.mpr z.1.2 c)⟩, fun c2 => ⟨fun c => ⟨Or.inl rfl, hN (fun z => ile.mpr z.2.1 c)⟩, fun c3 => ⟨fun c => ⟨Or.inl rfl, hN (fun z => ile.mpr z.2.2 c)⟩, fun c4 => ⟨Or.inr rfl, hY ⟨⟨ile.mp c1, ile.mp c2⟩, ⟨ile.mp c3, ile.mp c4⟩⟩⟩⟩⟩⟩⟩
theorem px_mShare {d : Nat} {Q : Qt} {p q : Int32} {I : Im} {J : Jm} {R : Rm} (hY : sh p q → Q 1 0 I J R) (hN : ¬ sh p q → Q 0 0 I J R) : AM (d + 2) 242 112 [.int p, .int q] I J R Q := by
  refine w_X12_isShare (px_isInI (lo := 1) (hi := 99) (fun l1 l2 _ => ⟨fun c => absurd c (by decide), fun _ => px_isInI (lo := 1) (hi := 30) (fun l3 l4 _ => ⟨fun c => absurd c (by decide), fun _ => ⟨Or.inr rfl, hY ⟨⟨l1, l2⟩, ⟨l3, l4⟩⟩⟩⟩) (fun z _ => ⟨fun _ => ⟨Or.inl rfl, hN (fun y => z.elim (fun x => ile.mpr y.2.1 x) (fun x => x y.2.2))⟩, fun c => absurd rfl c⟩)⟩) (fun z _ => ⟨fun _ => ⟨Or.inl rfl, hN (fun y => z.elim (fun x => ile.mpr y.1.1 x) (fun x => x y.1.2))⟩, fun c => absurd rfl c⟩))
theorem px_mSlice {d : Nat} {Q : Qt} {v : Int32} {I : Im} {J : Jm} {R : Rm} (hY : (1 : Int32) ≤ v → v ≤ 30 → Q 1 0 I J R) (hN : ¬ ((1 : Int32) ≤ v ∧ v ≤ 30) → Q 0 0 I J R) : AM (d + 2) 238 112 [.int v] I J R Q :=
  w_X12_isSlice (px_isInI (lo := 1) (hi := 30) (fun l1 l2 _ => ⟨Or.inr rfl, hY l1 l2⟩) (fun z _ => ⟨Or.inl rfl, hN (fun y => z.elim (fun x => ile.mpr y.1 x) (fun x => x y.2))⟩))
noncomputable def slc (v : Int32) : Prop := (1 : Int32) ≤ v ∧ v ≤ 30
theorem slc_n {v : Int32} (h : v < 1 ∨ 30 < v) : ¬ slc v := fun y => h.elim (fun x => ile.mpr y.1 x) (fun x => ile.mpr y.2 x)
/-! a man more -/
noncomputable def HCm (o : Nat) (p q : Int32) (I : Im) (J : Jm) (x : Int32) (I1 : Im) (J1 : Jm) : Prop := (¬ (sh p q ∧ I o 4 < 6) ∧ x = -1 ∧ HN o 0 (I o 4) (I o 2) (J (o + 2)) I J I1 J1) ∨ (sh p q ∧ I o 4 < 6 ∧ x = I o 4 ∧ HN o 0 (I o 4 + 1) (I o 2) (vp_updL (J (o + 2)) (Int32.toNatClampNeg (I o 4)) 0) I J I1 J1)
noncomputable def MCm (p q : Int32) (I : Im) (J : Jm) (x : Int32) (I2 : Im) (J2 : Jm) : Prop := (¬ (sh p q ∧ ¬ I 102 0 = 6) ∧ x = -1 ∧ MN (I 102 0) (I 102 3) (J 104) I J I2 J2) ∨ (sh p q ∧ ¬ I 102 0 = 6 ∧ x = I 102 0 ∧ MN (I 102 0 + 1) (I 102 3) (vp_updL (J 104) (Int32.toNatClampNeg (I 102 0)) 0) I J I2 J2)
theorem HN.same {o e : Nat} {I I1 : Im} {J : Jm} (h : ∀ c, ¬ c = 1 → I1 c = I c) (h9 : 9 ≤ o) : HN o e (I o 4) (I o 2) (J (o + 2)) I J I1 J :=
  ⟨by rw [h o (by omega)], by rw [h o (by omega)], rfl, fun c hc _ _ => by rw [h c (fun q => by subst q; exact absurd hc (by decide))]; exact ⟨rfl, rfl⟩, fun _ _ _ _ => rfl, rfl, h 102 (by decide), by rw [h 97 (by decide)]⟩
theorem uJ_at {J : Jm} {o m : Nat} {w : Int64} : uJ J o m w o = vp_updL (J o) m w := if_pos rfl
theorem px_addM2 {d : Nat} {Q : Qt} {o m : Nat} {w : Int64} {p q : Int32} {I : Im} {J : Jm} {R : Rm} (hO : isO 112 o 0 = true) (hm : m ≤ 5) (e0 : I o 4 = nI m) (hQ : Q (nI m) 0 (uI (uI (uI (uI I (o + 3) m p) (o + 4) m q) (o + 5) m 0) o 4 (nI m + 1)) (uJ J (o + 2) m w) R) : AM (d + 1) 4 112 [.ref o, .long w, .int p, .int q] I J R Q := by
  refine w_X0_addMan (bif_t hO ?_)
  obtain ⟨hA2, hL2, -⟩ := fa_0_5 hO
  obtain ⟨hA3, hL3, -⟩ := fa_0_6 hO
  obtain ⟨hA4, hL4, -⟩ := fa_0_7 hO
  obtain ⟨hA5, hL5, -⟩ := fa_0_8 hO
  have e1 : uI I (o + 3) m p o 4 = nI m := (rd_ne (by first | decide | omega)).trans e0
  have e2 : uI (uI I (o + 3) m p) (o + 4) m q o 4 = nI m := (rd_ne (by first | decide | omega)).trans e1
  have e3 : uI (uI (uI I (o + 3) m p) (o + 4) m q) (o + 5) m 0 o 4 = nI m := (rd_ne (by first | decide | omega)).trans e2
  have tn : Int32.toNatClampNeg (nI m) = m := tn_nI (by omega)
  rw [e0, tn, e1, tn, e2, tn, e3, rd_eq]
  refine ⟨fun _ => bif_t hO (bif_t hO (bif_t hA2 ⟨vp_nI (by omega) (by omega), bif_t hO (bif_t hO (bif_t hA3 ⟨vp_nI (by omega) (by omega), bif_t hO (bif_t hO (bif_t hA4 ⟨vp_nI (by omega) (by omega), bif_t hO (bif_t hO (bif_t hA5 ⟨vp_nI (by omega) (by omega), bif_t hO (bif_t hO (bif_t hO ?_))⟩))⟩))⟩))⟩)), fun c => absurd ((nlt_nI (b := 6) (by omega) (by omega)).mpr (by omega)) c⟩
  have e5 : nI m + 1 - 1 = nI m := by rw [nI_k1, nI_pred]
  rw [e5]
  exact hQ
theorem cx_come {d : Nat} {p q : Int32} {I : Im} {J : Jm} {R : Rm} (hB : Bd I) (hR : RI R) : AM (d + 3) 124 112 [.ref 1, .int p, .int q] I J R (fun x _ I2 J2 _ => HCm (R 1 7) p q I J x I2 J2) := by
  have hO := hR.now.1
  have h9 := o_ge hO
  have h7 := o_lt hO
  have b4 := Bd.o hB hO bd9_0_4
  refine w_X11_come (px_isShare (fun hs _ => ⟨fun _ => ⟨hR.now.2, bif_t hO ⟨fun c6 => ⟨hR.now.2, bif_t hO ?_⟩, fun c6 => w_X11_refuse (Or.inl ⟨fun z => c6 z.2, rfl, HN.same (fun c hc => uI_ne hc) h9⟩)⟩⟩, fun c => absurd c (by decide)⟩) (fun hs _ => ⟨fun c => absurd rfl c, fun _ => w_X11_refuse (Or.inl ⟨fun z => hs z.1, rfl, HN.same (fun c hc => uI_ne hc) h9⟩)⟩))
  have c6' := c6
  rw [Int32.lt_iff_toInt_lt] at c6'
  have e6 : (6 : Int32).toInt = 6 := rfl
  have tm : ((Int32.toNatClampNeg (I (R 1 7) 4) : Nat) : Int) = (I (R 1 7) 4).toInt := by
    have := tn_of (x := I (R 1 7) 4) rfl b4.1; omega
  have em : I (R 1 7) 4 = nI (Int32.toNatClampNeg (I (R 1 7) 4)) := Int32.toInt_inj.mp (by rw [nI_toInt (by omega)]; omega)
  generalize hm : Int32.toNatClampNeg (I (R 1 7) 4) = m at em tm
  refine px_addM2 hO (m := m) (by omega) em (w_X11_answer (Or.inr ⟨hs, c6, em.symm, ?_⟩))
  have e9 : ∀ c, ¬ c = 1 → ¬ (R 1 7 ≤ c ∧ c ≤ R 1 7 + 5) → uI (uI (uI (uI (uI I (R 1 7 + 3) m p) (R 1 7 + 4) m q) (R 1 7 + 5) m 0) (R 1 7) 4 (nI m + 1)) 1 0 0 c = I c := fun c h1 h2 => (uI_ne h1).trans ((uI_ne (by first | decide | omega)).trans ((uI_ne (by first | decide | omega)).trans ((uI_ne (by first | decide | omega)).trans (uI_ne (by first | decide | omega)))))
  have hb : ∀ c, c ∈ BKL → ¬ c = R 1 7 → ¬ c = 1 ∧ ¬ (R 1 7 ≤ c ∧ c ≤ R 1 7 + 5) := fun c hc hne => by
    have h1 := bk_six hc
    have h2 := bk_six (now_bk hR)
    omega
  have n97 : R 1 7 + 5 < 97 := by
    have := bk_six (now_bk hR); omega
  refine ⟨?_, ?_, ?_, fun c hc hne _ => ?_, fun c hc hne _ => ?_, ?_, ?_, ?_⟩
  · rw [rd_ne (by first | decide | omega), rd_eq, ← em]
  · rw [rd_ne (by first | decide | omega), rd_k (by decide), rd_ne (by first | decide | omega), rd_ne (by first | decide | omega), rd_ne (by first | decide | omega)]
  · rw [uJ_at, hm]
  · rw [e9 c (hb c hc hne).1 (hb c hc hne).2]; exact ⟨rfl, rfl⟩
  · exact uJ_ne (by omega)
  · exact uJ_ne (by omega)
  · exact e9 102 (by decide) (by omega)
  · rw [e9 97 (by decide) (by omega)]
theorem MN.same {I I2 : Im} {J : Jm} (h : ∀ c, ¬ c = 97 → I2 c = I c) (h23 : I2 97 23 = I 97 23) : MN (I 102 0) (I 102 3) (J 104) I J I2 J :=
  ⟨by rw [h 102 (by decide)], by rw [h 102 (by decide)], fun _ _ => rfl, fun _ _ _ => by rw [h 102 (by decide)], fun _ _ _ => rfl, fun c hc => by rw [h c (fun q => by subst q; exact absurd hc (by decide))]; exact ⟨rfl, rfl⟩, fun _ _ => rfl, Int.le_of_eq (congrArg Int32.toInt h23)⟩
/-- a write into the first block beside the men and what is known; the same with a name -/
theorem nI_o8 {v : Int32} {a : Int} (h0 : 0 ≤ v.toInt) : ∃ m : Nat, v = nI m ∧ (m : Int) = v.toInt ∧ Int32.toNatClampNeg v = m := by
  have t := tn_of (x := v) rfl h0
  have hb := i32 v
  refine ⟨Int32.toNatClampNeg v, Int32.toInt_inj.mp ?_, t, rfl⟩
  rw [nI_toInt (by omega)]
  omega
theorem mx_come {d : Nat} {p q : Int32} {I : Im} {J : Jm} {R : Rm} (hB : Bd I) : AM (d + 3) 268 112 [.ref 97, .int p, .int q] I J R (fun x _ I2 J2 _ => MCm p q I J x I2 J2) := by
  obtain ⟨b0, b6⟩ := Bd.men hB
  obtain ⟨m, em, tm, tn⟩ := nI_o8 (a := 0) b0
  have e1 : uI (uI I 97 1 0) 97 0 0 102 = I 102 := (uI_ne (by decide)).trans (uI_ne (by decide))
  have t0 : Int32.toNatClampNeg 0 = 0 := rfl
  have f1 : ∀ c, ¬ c = 97 → uI (uI I 97 1 0) 97 0 0 c = I c := fun c h => (uI_ne h).trans (uI_ne h)
  have g1 : uI (uI I 97 1 0) 97 0 0 97 23 = I 97 23 := (rd_k (by decide)).trans (rd_k (by decide))
  refine w_X12_come (px_mShare (fun hs _ => ⟨fun _ => ⟨vp_of (a := 0) rfl (by decide) (by decide), ?_⟩, fun c => absurd c (by decide)⟩) (fun hs _ => ⟨fun c => absurd rfl c, fun _ => w_X12_refuse (Or.inl ⟨fun z => hs z.1, rfl, MN.same (fun c hc => (uI_ne hc).trans (f1 c hc)) ((rd_k (by decide)).trans g1)⟩)⟩))
  rw [t0, e1]
  refine ⟨fun c6 => ?_, fun c6 => w_X12_refuse (Or.inl ⟨fun z => z.2 c6, rfl, MN.same (fun c hc => (uI_ne hc).trans (f1 c hc)) ((rd_k (by decide)).trans g1)⟩)⟩
  have m5 : m ≤ 5 := by
    rcases Nat.lt_or_ge m 6 with h | h
    · omega
    · exact absurd (em.trans (by rw [show m = 6 by omega]; rfl)) c6
  have k34 : (34 : Int32) + nI m = nI (34 + m) := by rw [show (34 : Int32) = nI 34 from rfl]; exact nI_add 34 m
  have k40 : (40 : Int32) + nI m = nI (40 + m) := by rw [show (40 : Int32) = nI 40 from rfl]; exact nI_add 40 m
  have k46 : (46 : Int32) + nI m = nI (46 + m) := by rw [show (46 : Int32) = nI 46 from rfl]; exact nI_add 46 m
  rw [em, k34, k40, k46, tn_nI (by omega), tn_nI (by omega), tn_nI (by omega), tn_nI (by omega)]
  have hv : uI (uI (uI (uI (uI I 97 1 0) 97 0 0) 102 (34 + m) p) 102 (40 + m) q) 102 (46 + m) 0 102 0 = nI m := (rd_k (by omega)).trans ((rd_k (by omega)).trans ((rd_k (by omega)).trans ((congrFun e1 0).trans em)))
  rw [hv]
  refine ⟨vp_nI (by omega) (by omega), vp_nI (by omega) (by omega), vp_nI (by omega) (by omega), vp_nI (by omega) (by omega), vp_of (a := 0) rfl (by decide) (by decide), vp_of (a := 0) rfl (by decide) (by decide), Or.inr ⟨hs, c6, em.symm, ?_⟩⟩
  have fr : ∀ c, ¬ c = 97 → ¬ c = 102 → uI (uI (uI (uI (uI (uI I 97 1 0) 97 0 0) 102 (34 + m) p) 102 (40 + m) q) 102 (46 + m) 0) 102 0 (nI m + 1) c = I c := fun c h1 h2 => (uI_ne h2).trans ((uI_ne h2).trans ((uI_ne h2).trans ((uI_ne h2).trans (f1 c h1))))
  have fk : ∀ k, ¬ k = 0 → ¬ k = 34 + m → ¬ k = 40 + m → ¬ k = 46 + m → uI (uI (uI (uI (uI (uI I 97 1 0) 97 0 0) 102 (34 + m) p) 102 (40 + m) q) 102 (46 + m) 0) 102 0 (nI m + 1) 102 k = I 102 k := fun k h1 h2 h3 h4 => (rd_k h1).trans ((rd_k h4).trans ((rd_k h3).trans ((rd_k h2).trans (congrFun e1 k))))
  refine ⟨?_, ?_, fun i hi => ?_, fun j hj h6 => ?_, fun i hi _ => ?_, fun c hc => ?_, fun c hc => ?_, ?_⟩
  · rw [rd_eq, em]
  · exact fk 3 (by decide) (by omega) (by omega) (by omega)
  · rw [uJ_at, em, tn_nI (by omega)]
  · unfold pK at hj
    exact fk j (by omega) (by omega) (by omega) (by omega)
  · exact rj_k (by omega)
  · have h6 := bk_six hc
    rw [fr c (by omega) (by omega)]; exact ⟨rfl, rfl⟩
  · have h6 := bk_six hc
    exact uJ_ne (by omega)
  · rw [rd_ne (by decide), rd_ne (by decide), rd_ne (by decide), rd_ne (by decide), g1]; exact Int.le_refl _
theorem RM.eqN {I : Im} {J J1 : Jm} {R : Rm} (h : RM I J R) (e : J1 104 = J 104) : ∀ i : Nat, i < 6 → (i : Int) < (I (R 1 7) 4).toInt → J (R 1 7 + 2) i = J1 104 i := fun i h6 hi => by
  rw [e]
  rw [h.1.1] at hi
  exact (h.1.2.2 i h6 hi).trans (by rw [Nat.zero_add])
theorem RM.come {p q x x2 : Int32} {I I1 I2 : Im} {J J1 J2 : Jm} {R : Rm} (hB : Bd I) (hR : RI R) (h : RM I J R) (h1 : HCm (R 1 7) p q I J x I1 J1) (h2 : MCm p q I1 J1 x2 I2 J2) : RM I2 J2 R ∧ x2 = x := by
  have e0 := h.1.1
  have b := Bd.men hB
  have key : I 102 0 = 6 ↔ ¬ I (R 1 7) 4 < 6 := by
    rw [e0, Int32.lt_iff_toInt_lt, show (6 : Int32).toInt = 6 from rfl, ← Int32.toInt_inj, show (6 : Int32).toInt = 6 from rfl]
    omega
  have f0 : ∀ {m k N}, HN (R 1 7) 0 m k N I J I1 J1 → I1 102 0 = I (R 1 7) 4 := fun a => by rw [a.2.2.2.2.2.2.1]; exact e0.symm
  have f3 : ∀ {m k N}, HN (R 1 7) 0 m k N I J I1 J1 → I1 102 3 = I (R 1 7) 2 := fun a => by rw [a.2.2.2.2.2.2.1]; have := h.1.2.1; rw [Nat.zero_add] at this; exact this.symm
  rcases h1 with ⟨n1, x1, a⟩ | ⟨s1, l1, x1, a⟩
  · have e102 := a.2.2.2.2.2.2.1
    have e104 := a.2.2.2.2.2.1
    rcases h2 with ⟨n2, y1, b2⟩ | ⟨s2, l2, y1, b2⟩
    · rw [f0 a, f3 a] at b2
      exact ⟨RM.now (now_9 hR) (by decide) rfl h a b2 (h.eqN e104), by rw [x1, y1]⟩
    · rw [e102] at l2
      exact absurd ⟨s2, Decidable.not_not.mp (fun z => l2 (key.mpr z))⟩ n1
  · have e102 := a.2.2.2.2.2.2.1
    have e104 := a.2.2.2.2.2.1
    rcases h2 with ⟨n2, y1, b2⟩ | ⟨s2, l2, y1, b2⟩
    · rw [e102] at n2
      exact absurd ⟨s1, fun z => key.mp z l1⟩ n2
    · have e0' : I1 102 0 = I (R 1 7) 4 := f0 a
      rw [e0', f3 a] at b2
      refine ⟨RM.now (now_9 hR) (by decide) rfl h a b2 (fun i h6 hi => ?_), by rw [x1, y1, e0']⟩
      rw [e104]
      unfold vp_updL
      by_cases z : i = Int32.toNatClampNeg (I (R 1 7) 4)
      · rw [if_pos z, if_pos z]
      · rw [if_neg z, if_neg z]
        have l1' := l1
        rw [Int32.lt_iff_toInt_lt, show (6 : Int32).toInt = 6 from rfl] at l1'
        have tn := tn_of (x := I (R 1 7) 4) rfl (by rw [e0]; exact b.1)
        have hs : (I (R 1 7) 4 + 1 : Int32).toInt = (I (R 1 7) 4).toInt + 1 := ti_add rfl (show (1 : Int32).toInt = 1 from rfl) (by rw [e0]; omega)
        rw [hs] at hi
        exact (h.1.2.2 i h6 (by rw [← e0]; omega)).trans (by rw [Nat.zero_add])
/-! what is known -/
noncomputable def HLn (o : Nat) (v w : Int32) (I : Im) (J : Jm) (x : Int32) (I1 : Im) (J1 : Jm) : Prop := (¬ slc v ∧ x = 0 ∧ HN o 0 (I o 4) (I o 2) (J (o + 2)) I J I1 J1) ∨ (slc v ∧ (inS (I o 2) v = true ↔ w = 1) ∧ x = 0 ∧ HN o 0 (I o 4) (I o 2) (J (o + 2)) I J I1 J1) ∨ (slc v ∧ ¬ (inS (I o 2) v = true ↔ w = 1) ∧ x = 1 ∧ HN o 0 (I o 4) (I o 2 ^^^ biS v) (J (o + 2)) I J I1 J1)
noncomputable def MLn (v w : Int32) (I : Im) (J : Jm) (x : Int32) (I2 : Im) (J2 : Jm) : Prop := (¬ slc v ∧ x = 0 ∧ MN (I 102 0) (I 102 3) (J 104) I J I2 J2) ∨ (slc v ∧ (inS (I 102 3) v = true ↔ w = 1) ∧ x = 0 ∧ MN (I 102 0) (I 102 3) (J 104) I J I2 J2) ∨ (slc v ∧ ¬ (inS (I 102 3) v = true ↔ w = 1) ∧ x = 1 ∧ MN (I 102 0) (I 102 3 ^^^ biS v) (J 104) I J I2 J2)
theorem HN.kn {o : Nat} {k : Int32} {I : Im} {J : Jm} (ho : o ∈ BKL) : HN o 0 (I o 4) k (J (o + 2)) I J (uI (uI I o 2 k) 1 0 0) J := by
  have h6 := bk_six ho
  refine ⟨?_, ?_, rfl, fun c hc hne _ => ?_, fun _ _ _ _ => rfl, rfl, ?_, ?_⟩
  · rw [rd_ne (by first | decide | omega), rd_k (by decide)]
  · rw [rd_ne (by first | decide | omega), rd_eq]
  · have h7 := bk_six hc
    rw [uI_ne (show ¬ c = 1 by omega), uI_ne hne]; exact ⟨rfl, rfl⟩
  · rw [uI_ne (by decide), uI_ne (by first | decide | omega)]
  · rw [rd_ne (by decide), rd_ne (by first | decide | omega)]
theorem cx_learn {d : Nat} {v w : Int32} {I : Im} {J : Jm} {R : Rm} (hw : w = 0 ∨ w = 1) (hR : RI R) : AM (d + 3) 125 112 [.ref 1, .int v, .int w] I J R (fun x _ I2 J2 _ => HLn (R 1 7) v w I J x I2 J2) := by
  have hO := hR.now.1
  have h9 := o_ge hO
  have hin := now_bk hR
  have no : HN (R 1 7) 0 (I (R 1 7) 4) (I (R 1 7) 2) (J (R 1 7 + 2)) I J (uI I 1 0 9) J := HN.same (fun c hc => uI_ne hc) h9
  refine w_X11_learn (px_isSlice (fun l1 l2 _ => ⟨fun _ => ⟨hR.now.2, bif_t hO (px_isIn (fun hi _ => ⟨fun c => ⟨hR.now.2, bif_t hO (w_X11_bit (bif_t hO (w_X11_allow ⟨Or.inr rfl, fun _ => ⟨Or.inr rfl, Or.inr (Or.inr ⟨⟨l1, l2⟩, fun z => c (z.mp hi).symm, rfl, HN.kn hin⟩)⟩⟩)))⟩, fun c => w_X11_deny ⟨Or.inl rfl, fun _ => ⟨Or.inl rfl, Or.inr (Or.inl ⟨⟨l1, l2⟩, ⟨fun _ => c.symm, fun _ => hi⟩, rfl, no⟩)⟩⟩⟩) (fun hi _ => ⟨fun c => ⟨hR.now.2, bif_t hO (w_X11_bit (bif_t hO (w_X11_allow ⟨Or.inr rfl, fun _ => ⟨Or.inr rfl, Or.inr (Or.inr ⟨⟨l1, l2⟩, fun z => ?_, rfl, HN.kn hin⟩)⟩⟩)))⟩, fun c => w_X11_deny ⟨Or.inl rfl, fun _ => ⟨Or.inl rfl, Or.inr (Or.inl ⟨⟨l1, l2⟩, ⟨fun z => ?_, fun z => ?_⟩, rfl, no⟩)⟩⟩⟩))⟩, fun c => absurd c (by decide)⟩) (fun hn _ => ⟨fun c => absurd rfl c, fun _ => w_X11_deny ⟨Or.inl rfl, fun _ => ⟨Or.inl rfl, Or.inl ⟨slc_n hn, rfl, HN.same (fun c hc => uI_ne hc) h9⟩⟩⟩⟩))
  · rcases hw with q | q
    · exact c q.symm
    · rw [z.mpr q] at hi; exact absurd hi (by decide)
  · rw [z] at hi; exact absurd hi (by decide)
  · rw [z] at c; exact absurd c (by decide)
theorem MN.kn {k : Int32} {I : Im} {J : Jm} : MN (I 102 0) k (J 104) I J (uI (uI (uI I 97 1 0) 97 0 0) 102 3 k) J := by
  refine ⟨?_, rd_eq, fun _ _ => rfl, fun j hj h6 => ?_, fun _ _ _ => rfl, fun c hc => ?_, fun _ _ => rfl, ?_⟩
  · rw [rd_k (by decide), rd_ne (by decide), rd_ne (by decide)]
  · rw [rd_k (by omega), rd_ne (by decide), rd_ne (by decide)]
  · have h6 := bk_six hc
    rw [uI_ne (by first | decide | omega), uI_ne (by first | decide | omega), uI_ne (by first | decide | omega)]; exact ⟨rfl, rfl⟩
  · rw [rd_ne (by decide), rd_k (by decide), rd_k (by decide)]; exact Int.le_refl _
theorem mx_learn {d : Nat} {v w : Int32} {I : Im} {J : Jm} {R : Rm} (hB : Bd I) (hw : w = 0 ∨ w = 1) : AM (d + 3) 269 112 [.ref 97, .int v, .int w] I J R (fun x _ I2 J2 _ => MLn v w I J x I2 J2) := by
  have k0 := Bd.known0 hB
  have e1 : uI (uI I 97 1 0) 97 0 0 102 = I 102 := (uI_ne (by decide)).trans (uI_ne (by decide))
  have t3 : Int32.toNatClampNeg 3 = 3 := rfl
  have no : ∀ z : Int32, MN (I 102 0) (I 102 3) (J 104) I J (uI (uI (uI I 97 1 0) 97 0 0) 97 0 z) J := fun z => MN.same (fun c hc => (uI_ne hc).trans ((uI_ne hc).trans (uI_ne hc))) ((rd_k (by decide)).trans ((rd_k (by decide)).trans (rd_k (by decide))))
  have v3 : vp_in 3 1620 := vp_of (a := 3) rfl (by decide) (by decide)
  refine w_X12_learn (px_mSlice (fun l1 l2 _ => ⟨fun _ => ⟨v3, ?_⟩, fun c => absurd c (by decide)⟩) (fun hn _ => ⟨fun c => absurd rfl c, fun _ => w_X12_no ⟨Or.inl rfl, fun _ => ⟨Or.inl rfl, Or.inl ⟨hn, rfl, no 2⟩⟩⟩⟩))
  rw [t3, e1]
  refine px_isOf k0 l1 l2 (fun hi _ => ⟨fun c => ⟨v3, v3, Or.inr rfl, Or.inr (Or.inr ⟨⟨l1, l2⟩, fun z => c (z.mp hi).symm, rfl, MN.kn⟩)⟩, fun c => w_X12_no ⟨Or.inl rfl, fun _ => ⟨Or.inl rfl, Or.inr (Or.inl ⟨⟨l1, l2⟩, ⟨fun _ => c.symm, fun _ => hi⟩, rfl, no 9⟩)⟩⟩⟩) (fun hi _ => ⟨fun c => ⟨v3, v3, Or.inr rfl, Or.inr (Or.inr ⟨⟨l1, l2⟩, fun z => ?_, rfl, MN.kn⟩)⟩, fun c => w_X12_no ⟨Or.inl rfl, fun _ => ⟨Or.inl rfl, Or.inr (Or.inl ⟨⟨l1, l2⟩, ⟨fun z => ?_, fun z => ?_⟩, rfl, no 9⟩)⟩⟩⟩)
  · rcases hw with q | q
    · exact c q.symm
    · rw [z.mpr q] at hi; exact absurd hi (by decide)
  · rw [z] at hi; exact absurd hi (by decide)
  · rw [z] at c; exact absurd c (by decide)
theorem RM.learn {v w x x2 : Int32} {I I1 I2 : Im} {J J1 J2 : Jm} {R : Rm} (hR : RI R) (h : RM I J R) (h1 : HLn (R 1 7) v w I J x I1 J1) (h2 : MLn v w I1 J1 x2 I2 J2) : RM I2 J2 R ∧ x2 = x := by
  have e0 := h.1.1
  have e3 := h.1.2.1
  rw [Nat.zero_add] at e3
  have go : ∀ k k2 : Int32, HN (R 1 7) 0 (I (R 1 7) 4) k (J (R 1 7 + 2)) I J I1 J1 → MN (I1 102 0) k2 (J1 104) I1 J1 I2 J2 → k2 = k → RM I2 J2 R := fun k k2 a b2 ek => by
    have f0 : I1 102 0 = I (R 1 7) 4 := by rw [a.2.2.2.2.2.2.1]; exact e0.symm
    rw [f0, ek] at b2
    exact RM.now (now_9 hR) (by decide) rfl h a b2 (h.eqN a.2.2.2.2.2.1)
  have f3 : ∀ k : Int32, HN (R 1 7) 0 (I (R 1 7) 4) k (J (R 1 7 + 2)) I J I1 J1 → I1 102 3 = I (R 1 7) 2 := fun k a => by rw [a.2.2.2.2.2.2.1]; exact e3.symm
  rcases h1 with ⟨n1, x1, a⟩ | ⟨s1, l1, x1, a⟩ | ⟨s1, l1, x1, a⟩
  · rcases h2 with ⟨n2, y1, b2⟩ | ⟨s2, l2, y1, b2⟩ | ⟨s2, l2, y1, b2⟩
    · exact ⟨go _ _ a b2 (f3 _ a), by rw [x1, y1]⟩
    · exact absurd s2 n1
    · exact absurd s2 n1
  · rcases h2 with ⟨n2, y1, b2⟩ | ⟨s2, l2, y1, b2⟩ | ⟨s2, l2, y1, b2⟩
    · exact absurd s1 n2
    · exact ⟨go _ _ a b2 (f3 _ a), by rw [x1, y1]⟩
    · rw [f3 _ a] at l2; exact absurd l1 l2
  · rcases h2 with ⟨n2, y1, b2⟩ | ⟨s2, l2, y1, b2⟩ | ⟨s2, l2, y1, b2⟩
    · exact absurd s1 n2
    · rw [f3 _ a] at l2; exact absurd l2 l1
    · exact ⟨go _ _ a b2 (by rw [f3 _ a]), by rw [x1, y1]⟩
end PT7x6
section PT7x7
/-! ===== what is kept, what comes back ===== -/
theorem ck_ne {I : Im} {a0 a1 p q m c k : Nat} (h : ¬ c = a1) : cI I a0 a1 p q m c k = I c k := congrFun (cI_ne h) k
theorem px_cpB {d : Nat} {Q : Qt} {o s : Nat} {I : Im} {J : Jm} {R : Rm} (hO : isO 112 o 0 = true) (hS : isO 112 s 0 = true) (hne : s + 5 < o ∨ o + 5 < s)
    (hQ : ∀ I2 J2, (∀ c, ¬ (o ≤ c ∧ c ≤ o + 5) → I2 c = I c) → (∀ c, ¬ c = o + 2 → J2 c = J c) → I2 o 4 = I s 4 → I2 o 2 = I s 2 → I2 o 1 = I s 1 → I2 o 3 = I s 3 → (∀ k, k < 31 → I2 (o + 1) k = I (s + 1) k) → (∀ k, k < 6 → J2 (o + 2) k = J (s + 2) k ∧ I2 (o + 3) k = I (s + 3) k ∧ I2 (o + 4) k = I (s + 4) k ∧ I2 (o + 5) k = I (s + 5) k) → Q 0 0 I2 J2 R) : AM (d + 1) 2 112 [.ref o, .ref s] I J R Q := by
  obtain ⟨a1, l1, -⟩ := fa_0_0 hO
  obtain ⟨a2, l2, -⟩ := fa_0_5 hO
  obtain ⟨a3, l3, -⟩ := fa_0_6 hO
  obtain ⟨a4, l4, -⟩ := fa_0_7 hO
  obtain ⟨a5, l5, -⟩ := fa_0_8 hO
  obtain ⟨b1, k1, -⟩ := fa_0_0 hS
  obtain ⟨b2, k2, -⟩ := fa_0_5 hS
  obtain ⟨b3, k3, -⟩ := fa_0_6 hS
  obtain ⟨b4, k4, -⟩ := fa_0_7 hS
  obtain ⟨b5, k5, -⟩ := fa_0_8 hS
  have t0 : Int32.toNatClampNeg 0 = 0 := rfl
  have t6 : Int32.toNatClampNeg 6 = 6 := rfl
  have t31 : Int32.toNatClampNeg (Int32.ofNat 31) = 31 := rfl
  have n0 : ¬ (0 : Int32) < 0 := by decide
  have n6 : ¬ (6 : Int32) < 0 := by decide
  have n31 : ¬ (Int32.ofNat 31 : Int32) < 0 := by decide
  refine w_X0_copyFrom ?_
  simp only [hO, hS, a1, a2, a3, a4, a5, b1, b2, b3, b4, b5, l1, l2, l3, l4, l5, k1, k2, k3, k4, k5, t0, t6, t31, Bool.and_self, cond_true]
  refine ⟨⟨n0, n0, n31, by decide, by decide⟩, ⟨n0, n0, n6, by decide, by decide⟩, ⟨n0, n0, n6, by decide, by decide⟩, ⟨n0, n0, n6, by decide, by decide⟩, ⟨n0, n0, n6, by decide, by decide⟩, ?_⟩
  refine hQ _ _ (fun c hc => ?_) (fun c hc => cJ_ne hc) ?_ ?_ ?_ ?_ (fun k hk => ?_) (fun k hk => ⟨cJ_at hk, ?_, ?_, ?_⟩)
  · rw [cI_ne (by omega), cI_ne (by omega), cI_ne (by omega), uI_ne (by first | decide | omega), uI_ne (by first | decide | omega), uI_ne (by first | decide | omega), uI_ne (by first | decide | omega), cI_ne (by omega)]
  · rw [ck_ne (by omega), ck_ne (by omega), ck_ne (by omega), rd_eq, rd_ne (by first | decide | omega), rd_ne (by first | decide | omega), rd_ne (by first | decide | omega), ck_ne (by omega)]
  · rw [ck_ne (by omega), ck_ne (by omega), ck_ne (by omega), rd_k (by decide), rd_k (by decide), rd_eq, rd_ne (by first | decide | omega), ck_ne (by omega)]
  · rw [ck_ne (by omega), ck_ne (by omega), ck_ne (by omega), rd_k (by decide), rd_k (by decide), rd_k (by decide), rd_eq, ck_ne (by omega)]
  · rw [ck_ne (by omega), ck_ne (by omega), ck_ne (by omega), rd_k (by decide), rd_eq, rd_ne (by first | decide | omega), rd_ne (by first | decide | omega), ck_ne (by omega)]
  · rw [ck_ne (by omega), ck_ne (by omega), ck_ne (by omega), rd_ne (by first | decide | omega), rd_ne (by first | decide | omega), rd_ne (by first | decide | omega), rd_ne (by first | decide | omega), cI_at hk]
  · rw [ck_ne (by omega), ck_ne (by omega), cI_at hk, rd_ne (by first | decide | omega), rd_ne (by first | decide | omega), rd_ne (by first | decide | omega), rd_ne (by first | decide | omega), ck_ne (by omega)]
  · rw [ck_ne (by omega), cI_at hk, ck_ne (by omega), rd_ne (by first | decide | omega), rd_ne (by first | decide | omega), rd_ne (by first | decide | omega), rd_ne (by first | decide | omega), ck_ne (by omega)]
  · rw [cI_at hk, ck_ne (by omega), ck_ne (by omega), rd_ne (by first | decide | omega), rd_ne (by first | decide | omega), rd_ne (by first | decide | omega), rd_ne (by first | decide | omega), ck_ne (by omega)]
theorem px_cpD {d : Nat} {Q : Qt} {o s : Nat} {I : Im} {J : Jm} {R : Rm} (hO : isO 112 o 2 = true) (hS : isO 112 s 2 = true) (hne : s + 5 < o ∨ o + 5 < s) (hb : I s 0 = 0 ∨ I s 0 = 1)
    (hQ : ∀ I2, (∀ c, ¬ (o ≤ c ∧ c ≤ o + 5) → I2 c = I c) → I2 o 0 = I s 0 → I2 o 1 = I s 1 → I2 o 2 = I s 2 → (∀ k, k < 60 → I2 (o + 1) k = I (s + 1) k ∧ I2 (o + 2) k = I (s + 2) k ∧ I2 (o + 3) k = I (s + 3) k ∧ I2 (o + 4) k = I (s + 4) k ∧ I2 (o + 5) k = I (s + 5) k) → Q 0 0 I2 J R) : AM (d + 1) 29 112 [.ref o, .ref s] I J R Q := by
  obtain ⟨a1, l1, -⟩ := fa_2_3 hO
  obtain ⟨a2, l2, -⟩ := fa_2_4 hO
  obtain ⟨a3, l3, -⟩ := fa_2_5 hO
  obtain ⟨a4, l4, -⟩ := fa_2_6 hO
  obtain ⟨a5, l5, -⟩ := fa_2_7 hO
  obtain ⟨b1, k1, -⟩ := fa_2_3 hS
  obtain ⟨b2, k2, -⟩ := fa_2_4 hS
  obtain ⟨b3, k3, -⟩ := fa_2_5 hS
  obtain ⟨b4, k4, -⟩ := fa_2_6 hS
  obtain ⟨b5, k5, -⟩ := fa_2_7 hS
  have t0 : Int32.toNatClampNeg 0 = 0 := rfl
  have t6 : Int32.toNatClampNeg 60 = 60 := rfl
  have n0 : ¬ (0 : Int32) < 0 := by decide
  have n6 : ¬ (60 : Int32) < 0 := by decide
  refine w_X2_copyFrom ?_
  simp only [hO, hS, a1, a2, a3, a4, a5, b1, b2, b3, b4, b5, l1, l2, l3, l4, l5, k1, k2, k3, k4, k5, t0, t6, Bool.and_self, cond_true]
  refine ⟨hb, ⟨n0, n0, n6, by decide, by decide⟩, ⟨n0, n0, n6, by decide, by decide⟩, ⟨n0, n0, n6, by decide, by decide⟩, ⟨n0, n0, n6, by decide, by decide⟩, ⟨n0, n0, n6, by decide, by decide⟩, ?_⟩
  refine hQ _ (fun c hc => ?_) ?_ ?_ ?_ (fun k hk => ⟨?_, ?_, ?_, ?_, ?_⟩)
  · rw [cI_ne (by omega), cI_ne (by omega), cI_ne (by omega), cI_ne (by omega), cI_ne (by omega), uI_ne (by first | decide | omega), uI_ne (by first | decide | omega), uI_ne (by first | decide | omega)]
  · rw [ck_ne (by omega), ck_ne (by omega), ck_ne (by omega), ck_ne (by omega), ck_ne (by omega), rd_k (by decide), rd_k (by decide), rd_eq]
  · rw [ck_ne (by omega), ck_ne (by omega), ck_ne (by omega), ck_ne (by omega), ck_ne (by omega), rd_k (by decide), rd_eq, rd_ne (by first | decide | omega)]
  · rw [ck_ne (by omega), ck_ne (by omega), ck_ne (by omega), ck_ne (by omega), ck_ne (by omega), rd_eq, rd_ne (by first | decide | omega), rd_ne (by first | decide | omega)]
  · rw [ck_ne (by omega), ck_ne (by omega), ck_ne (by omega), ck_ne (by omega), cI_at hk, rd_ne (by first | decide | omega), rd_ne (by first | decide | omega), rd_ne (by first | decide | omega)]
  · rw [ck_ne (by omega), ck_ne (by omega), ck_ne (by omega), cI_at hk, ck_ne (by omega), rd_ne (by first | decide | omega), rd_ne (by first | decide | omega), rd_ne (by first | decide | omega)]
  · rw [ck_ne (by omega), ck_ne (by omega), cI_at hk, ck_ne (by omega), ck_ne (by omega), rd_ne (by first | decide | omega), rd_ne (by first | decide | omega), rd_ne (by first | decide | omega)]
  · rw [ck_ne (by omega), cI_at hk, ck_ne (by omega), ck_ne (by omega), ck_ne (by omega), rd_ne (by first | decide | omega), rd_ne (by first | decide | omega), rd_ne (by first | decide | omega)]
  · rw [cI_at hk, ck_ne (by omega), ck_ne (by omega), ck_ne (by omega), ck_ne (by omega), rd_ne (by first | decide | omega), rd_ne (by first | decide | omega), rd_ne (by first | decide | omega)]
theorem RI.kb_e {R : Rm} (h : RI R) {j : Nat} (hj : j < 3) : R 33 j = 61 + 12 * j := h.rp.2.2.1 j hj
theorem RI.kd_e {R : Rm} (h : RI R) {j : Nat} (hj : j < 3) : R 34 j = 67 + 12 * j := h.rp.2.2.2 j hj
noncomputable def HMk (o : Nat) (I : Im) (J : Jm) (x : Int32) (I1 : Im) (J1 : Jm) : Prop := (¬ I 1 13 < 3 ∧ x = -1 ∧ HN o 0 (I o 4) (I o 2) (J (o + 2)) I J I1 J1) ∨ ∃ m : Nat, m < 3 ∧ I 1 13 = nI m ∧ x = nI (m + 1) ∧ (I1 (61 + 12 * m) 4 = I o 4 ∧ I1 (61 + 12 * m) 2 = I o 2 ∧ ∀ k, k < 6 → J1 (61 + 12 * m + 2) k = J (o + 2) k) ∧ (∀ c, c ∈ BKL → ¬ c = 61 + 12 * m → I1 c 4 = I c 4 ∧ I1 c 2 = I c 2) ∧ (∀ c, c ∈ BKL → ¬ c = 61 + 12 * m → J1 (c + 2) = J (c + 2)) ∧ J1 104 = J 104 ∧ I1 102 = I 102 ∧ I1 97 23 = I 97 23
theorem bd13 {I : Im} (hB : Bd I) : 0 ≤ (I 1 13).toInt ∧ (I 1 13).toInt ≤ 3 := Bd.o hB io9_112_1_11 bd9_11_13
theorem bd23 {I : Im} (hB : Bd I) : 0 ≤ (I 97 23).toInt ∧ (I 97 23).toInt ≤ 3 := Bd.o hB io9_112_97_12 bd9_12_23
theorem plan_b {I : Im} {p : Nat} (hB : Bd I) (hp : isO 112 p 2 = true) : I p 0 = 0 ∨ I p 0 = 1 := bl_of (Bd.o hB hp bd9_2_0)
theorem cx_mark {d : Nat} {I : Im} {J : Jm} {R : Rm} (hB : Bd I) (hR : RI R) : AM (d + 3) 147 112 [.ref 1] I J R (fun x _ I2 J2 _ => HMk (R 1 7) I J x I2 J2) := by
  have hO := hR.now.1
  have h9 := o_ge hO
  have n9 := now_9 hR
  obtain ⟨b0, b3⟩ := bd13 hB
  obtain ⟨m, em, tm, tn⟩ := nI_o8 (a := 0) b0
  refine w_X11_mark ⟨fun c3 => ?_, fun c3 => w_X11_refuse (Or.inl ⟨c3, rfl, HN.same (fun c hc => uI_ne hc) h9⟩)⟩
  have m3 : m < 3 := by
    rw [Int32.lt_iff_toInt_lt, show (3 : Int32).toInt = 3 from rfl] at c3; omega
  have hk := hR.kb m (by omega)
  have hkd := hR.kd m (by omega)
  have ek := hR.kb_e m3
  have ed := hR.kd_e m3
  have p9 : R 1 9 = 21 ∨ R 1 9 = 27 := hR.rp.2.1.elim (fun q => Or.inl q.1) (fun q => Or.inr q.1)
  rw [tn]
  refine ⟨vp_of (a := (I 1 13).toInt) rfl b0 (by omega), hk.1, hR.now.2, bif_t hk.2 (px_cpB hk.2 hO (by omega) (fun I1 J1 f1 g1 e4 e2 _ _ _ en => ?_))⟩
  have i13 : I1 1 13 = I 1 13 := by rw [f1 1 (by omega)]
  rw [i13, tn]
  refine ⟨vp_of (a := (I 1 13).toInt) rfl b0 (by omega), hkd.1, hR.plan.2, bif_t hkd.2 (px_cpD hkd.2 hR.plan.1 (by omega) ?_ (fun I2 f2 _ _ _ _ => w_X11_answer (Or.inr ⟨m, m3, em, ?_, ⟨?_, ?_, fun k hk6 => ?_⟩, fun c hc hne => ?_, fun c hc hne => ?_, ?_, ?_, ?_⟩)))⟩
  · rw [f1 (R 1 9) (by omega)]; exact plan_b hB hR.plan.1
  · rw [rd_eq, f2 1 (by omega), i13, em, nI_k1]
  · rw [rd_ne (by first | decide | omega), rd_ne (by first | decide | omega), f2 _ (by omega), ← ek]; exact e4
  · rw [rd_ne (by first | decide | omega), rd_ne (by first | decide | omega), f2 _ (by omega), ← ek]; exact e2
  · rw [← ek]; exact (en k hk6).1
  · have h6 := bk_six hc
    rw [uI_ne (by first | decide | omega), uI_ne (by first | decide | omega), f2 c (by omega), f1 c (by omega)]; exact ⟨rfl, rfl⟩
  · have h6 := bk_six hc
    exact g1 _ (by omega)
  · exact g1 _ (by omega)
  · rw [uI_ne (by decide), uI_ne (by decide), f2 _ (by omega), f1 _ (by omega)]
  · rw [uI_ne (by decide), uI_ne (by decide), f2 _ (by omega), f1 _ (by omega)]
noncomputable def MMk (I : Im) (J : Jm) (x : Int32) (I2 : Im) (J2 : Jm) : Prop := (I 97 23 = 3 ∧ x = -1 ∧ MN (I 102 0) (I 102 3) (J 104) I J I2 J2) ∨ ∃ m : Nat, m < 3 ∧ I 97 23 = nI m ∧ x = nI (m + 1) ∧ I2 97 23 = nI (m + 1) ∧ (∀ k, k < 324 → I2 102 (324 * (m + 1) + k) = I 102 k) ∧ (∀ k, (k < 324 * (m + 1) ∨ 324 * (m + 1) + 324 ≤ k) → I2 102 k = I 102 k) ∧ (∀ k, k < 6 → J2 104 (6 * (m + 1) + k) = J 104 k) ∧ (∀ k, (k < 6 * (m + 1) ∨ 6 * (m + 1) + 6 ≤ k) → J2 104 k = J 104 k) ∧ (∀ c, c ∈ BKL → I2 c = I c) ∧ ∀ c, c ∈ BKL → J2 (c + 2) = J (c + 2)
theorem nI_mul {a b : Nat} (h : a * b < 2 ^ 31) (ha : a < 2 ^ 31) (hb : b < 2 ^ 31) : nI a * nI b = nI (a * b) := by
  apply Int32.toInt_inj.mp
  rw [ti_mul (nI_toInt ha) (nI_toInt hb) (by have := Int.natCast_mul a b; omega), nI_toInt h, Int.natCast_mul]
theorem mx_mark {d : Nat} {I : Im} {J : Jm} {R : Rm} (hB : Bd I) : AM (d + 2) 317 112 [.ref 97] I J R (fun x _ I2 J2 _ => MMk I J x I2 J2) := by
  obtain ⟨b0, b3⟩ := bd23 hB
  obtain ⟨m, em, tm, tn⟩ := nI_o8 (a := 0) b0
  have f1 : ∀ c, ¬ c = 97 → uI (uI I 97 1 0) 97 0 0 c = I c := fun c h => (uI_ne h).trans (uI_ne h)
  have g1 : uI (uI I 97 1 0) 97 0 0 97 23 = I 97 23 := (rd_k (by decide)).trans (rd_k (by decide))
  refine w_X12_mark ?_
  rw [g1]
  refine ⟨fun c3 => ?_, fun c3 => w_X12_refuse (Or.inl ⟨c3, rfl, MN.same (fun c hc => (uI_ne hc).trans (f1 c hc)) ((rd_k (by decide)).trans g1)⟩)⟩
  have m3 : m < 3 := by
    rcases Nat.lt_or_ge m 3 with h | h
    · exact h
    · exact absurd (em.trans (by rw [show m = 3 by omega]; rfl)) c3
  rw [em, nI_k1, rd_eq]
  have k1 : (324 : Int32) * 0 = nI (324 * 0) := rfl
  have k2 : (324 : Int32) * nI (m + 1) = nI (324 * (m + 1)) := by rw [show (324 : Int32) = nI 324 from rfl]; exact nI_mul (by omega) (by omega) (by omega)
  have k3 : (6 : Int32) * 0 = nI (6 * 0) := rfl
  have k4 : (6 : Int32) * nI (m + 1) = nI (6 * (m + 1)) := by rw [show (6 : Int32) = nI 6 from rfl]; exact nI_mul (by omega) (by omega) (by omega)
  refine px_copy (f := 0) (t := m + 1) k1 k2 k3 k4 (by omega) (by omega) (by omega) (fun I2 J2 h1 h2 h3 h4 h5 h6 => ?_)
  have e23 : I2 97 23 = nI (m + 1) := by rw [h1 97 (by decide), rd_eq]
  have e102 : uI (uI (uI I 97 1 0) 97 0 0) 97 23 (nI (m + 1)) 102 = I 102 := (uI_ne (by decide)).trans (f1 102 (by decide))
  rw [e23]
  rw [e102] at h2 h3
  refine Or.inr ⟨m, m3, em, rfl, e23, fun k hk => (h3 k hk).trans (by rw [Nat.mul_zero, Nat.zero_add]), h2, fun k hk => (h6 k hk).trans (by rw [Nat.mul_zero, Nat.zero_add]), h5, fun c hc => ?_, fun c hc => ?_⟩
  · have q6 := bk_six hc
    rw [h1 c (by omega), uI_ne (by first | decide | omega)]; exact f1 c (by omega)
  · have q6 := bk_six hc
    exact h4 _ (by omega)
theorem RM.mark {x x2 : Int32} {I I1 I2 : Im} {J J1 J2 : Jm} {R : Rm} (hB : Bd I) (hR : RI R) (hL : (I 1 13).toInt = (I 97 23).toInt) (h : RM I J R) (h1 : HMk (R 1 7) I J x I1 J1) (h2 : MMk I1 J1 x2 I2 J2) : RM I2 J2 R := by
  have b := bd13 hB
  have n9 := now_9 hR
  rcases h1 with ⟨n1, x1, a⟩ | ⟨m, m3, em, x1, ⟨k4, k2, kn⟩, a4, a5, a6, a7, a8⟩
  · rcases h2 with ⟨n2, y1, b2⟩ | ⟨m, m3, em, _⟩
    · have f0 : I1 102 0 = I (R 1 7) 4 := by rw [a.2.2.2.2.2.2.1]; exact h.1.1.symm
      have f3 : I1 102 3 = I (R 1 7) 2 := by rw [a.2.2.2.2.2.2.1]; have := h.1.2.1; rw [Nat.zero_add] at this; exact this.symm
      rw [f0, f3] at b2
      exact RM.now n9 (by decide) rfl h a b2 (h.eqN a.2.2.2.2.2.1)
    · rw [a.2.2.2.2.2.2.2] at em
      rw [em, nI_toInt (by omega)] at hL
      exact absurd (show I 1 13 < 3 by rw [Int32.lt_iff_toInt_lt, show (3 : Int32).toInt = 3 from rfl]; omega) n1
  · rcases h2 with ⟨n2, y1, b2⟩ | ⟨m2, m32, em2, y1, e23, c1, c2, c3, c4, c5, c6⟩
    · rw [a8] at n2
      rw [n2, em, nI_toInt (by omega), show (3 : Int32).toInt = 3 from rfl] at hL
      omega
    · have em' : m2 = m := by
        rw [a8] at em2
        rw [em, em2, nI_toInt (by omega), nI_toInt (by omega)] at hL
        omega
      subst em'
      rw [a7] at c1 c2
      rw [a6] at c3 c4
      have n7 := now_bk hR
      refine ⟨⟨?_, ?_, fun i h6 hi => ?_⟩, fun j hj hm => ?_⟩
      · rw [c5 _ n7, (a4 _ n7 (by omega)).1, c2 0 (by omega)]; exact h.1.1
      · rw [c5 _ n7, (a4 _ n7 (by omega)).2, Nat.zero_add, c2 3 (by omega)]; have := h.1.2.1; rw [Nat.zero_add] at this; exact this
      · rw [c2 0 (by omega)] at hi
        rw [c6 _ n7, a5 _ n7 (by omega), c4 _ (by omega)]
        exact h.1.2.2 i h6 hi
      · rw [e23, nI_toInt (by omega)] at hm
        have hk := kb_bk hj
        by_cases q : j = m2
        · subst q
          refine ⟨?_, ?_, fun i h6 hi => ?_⟩
          · rw [c5 _ hk, k4, show 324 * (j + 1) = 324 * (j + 1) + 0 from rfl, c1 0 (by omega)]; exact h.1.1
          · rw [c5 _ hk, k2, c1 3 (by omega)]; have := h.1.2.1; rw [Nat.zero_add] at this; exact this
          · rw [show 324 * (j + 1) = 324 * (j + 1) + 0 from rfl, c1 0 (by omega)] at hi
            rw [c6 _ hk, kn i h6, c3 i h6]
            exact (h.1.2.2 i h6 hi).trans (by rw [Nat.zero_add])
        · have hm3 : (j : Int) < (I 97 23).toInt := by rw [← hL, em, nI_toInt (by omega)]; omega
          obtain ⟨d1, d2, d3⟩ := h.2 j hj hm3
          refine ⟨?_, ?_, fun i h6 hi => ?_⟩
          · rw [c5 _ hk, (a4 _ hk (by omega)).1, c2 _ (by omega)]; exact d1
          · rw [c5 _ hk, (a4 _ hk (by omega)).2, c2 _ (by omega)]; exact d2
          · rw [c2 _ (by omega)] at hi
            rw [c6 _ hk, a5 _ hk (by omega), c4 _ (by omega)]
            exact d3 i h6 hi
noncomputable def HBk (o : Nat) (I : Im) (J : Jm) (x : Int32) (I1 : Im) (J1 : Jm) : Prop := (¬ (1 : Int32) ≤ I 1 13 ∧ x = -1 ∧ HN o 0 (I o 4) (I o 2) (J (o + 2)) I J I1 J1) ∨ ∃ m : Nat, m < 3 ∧ I 1 13 = nI (m + 1) ∧ x = nI m ∧ ∃ N, HN o 0 (I (61 + 12 * m) 4) (I (61 + 12 * m) 2) N I J I1 J1 ∧ ∀ i, i < 6 → N i = J (61 + 12 * m + 2) i
theorem cx_back {d : Nat} {I : Im} {J : Jm} {R : Rm} (hB : Bd I) (hR : RI R) : AM (d + 3) 148 112 [.ref 1] I J R (fun x _ I2 J2 _ => HBk (R 1 7) I J x I2 J2) := by
  have hO := hR.now.1
  have h9 := o_ge hO
  have n9 := now_9 hR
  obtain ⟨b0, b3⟩ := bd13 hB
  refine w_X11_back ⟨fun c3 => ?_, fun c3 => w_X11_refuse (Or.inl ⟨c3, rfl, HN.same (fun c hc => uI_ne hc) h9⟩)⟩
  have c3' := c3
  rw [Int32.le_iff_toInt_le, show (1 : Int32).toInt = 1 from rfl] at c3'
  obtain ⟨m, m3, em⟩ : ∃ m : Nat, m < 3 ∧ I 1 13 = nI (m + 1) := by
    refine ⟨(I 1 13).toInt.toNat - 1, by omega, Int32.toInt_inj.mp ?_⟩
    rw [nI_toInt (by omega)]; omega
  have e1 : I 1 13 - 1 = nI m := by rw [em]; exact nI_pred m
  have ek := hR.kb_e m3
  have ed := hR.kd_e m3
  have hk := hR.kb m (by omega)
  have hkd := hR.kd m (by omega)
  have p9 : R 1 9 = 21 ∨ R 1 9 = 27 := hR.rp.2.1.elim (fun q => Or.inl q.1) (fun q => Or.inr q.1)
  rw [rd_eq, e1, tn_nI (by omega)]
  refine ⟨hR.now.2, vp_nI (by omega) (by omega), hk.1, bif_t hO (px_cpB hO hk.2 (by omega) (fun I1 J1 f1 g1 e4 e2 _ _ _ en => ?_))⟩
  have i13 : I1 1 13 = nI m := by rw [f1 1 (by omega), rd_eq]
  rw [i13, tn_nI (by omega)]
  refine ⟨hR.plan.2, vp_nI (by omega) (by omega), hkd.1, bif_t hR.plan.1 (px_cpD hR.plan.1 hkd.2 (by omega) ?_ (fun I2 f2 _ _ _ _ => ?_))⟩
  · rw [f1 _ (by omega), rd_ne (by first | decide | omega)]; exact plan_b hB hkd.2
  · rw [f2 1 (by omega), i13]
    refine w_X11_answer (Or.inr ⟨m, m3, em, rfl, J1 (R 1 7 + 2), ⟨?_, ?_, rfl, fun c hc hne _ => ?_, fun c hc hne _ => ?_, ?_, ?_, ?_⟩, fun i hi => ?_⟩)
    · rw [rd_ne (by first | decide | omega), f2 _ (by omega), e4, rd_ne (by first | decide | omega), ek]
    · rw [rd_ne (by first | decide | omega), f2 _ (by omega), e2, rd_ne (by first | decide | omega), ek]
    · have h6 := bk_six hc
      rw [uI_ne (by first | decide | omega), f2 c (by omega), f1 c (by omega), uI_ne (by first | decide | omega)]; exact ⟨rfl, rfl⟩
    · have h6 := bk_six hc
      exact g1 _ (by omega)
    · exact g1 _ (by omega)
    · rw [uI_ne (by decide), f2 _ (by omega), f1 _ (by omega), uI_ne (by decide)]
    · rw [uI_ne (by decide), f2 _ (by omega), f1 _ (by omega), uI_ne (by decide)]
    · rw [(en i hi).1, ek]
noncomputable def MBk (I : Im) (J : Jm) (x : Int32) (I2 : Im) (J2 : Jm) : Prop := (I 97 23 = 0 ∧ x = -1 ∧ MN (I 102 0) (I 102 3) (J 104) I J I2 J2) ∨ ∃ m : Nat, m < 3 ∧ I 97 23 = nI (m + 1) ∧ x = nI m ∧ MN (I 102 (324 * (m + 1))) (I 102 (324 * (m + 1) + 3)) (fun i => J 104 (6 * (m + 1) + i)) I J I2 J2
theorem mx_back {d : Nat} {I : Im} {J : Jm} {R : Rm} (hB : Bd I) : AM (d + 2) 318 112 [.ref 97] I J R (fun x _ I2 J2 _ => MBk I J x I2 J2) := by
  obtain ⟨b0, b3⟩ := bd23 hB
  have f1 : ∀ c, ¬ c = 97 → uI (uI I 97 1 0) 97 0 0 c = I c := fun c h => (uI_ne h).trans (uI_ne h)
  have g1 : uI (uI I 97 1 0) 97 0 0 97 23 = I 97 23 := (rd_k (by decide)).trans (rd_k (by decide))
  refine w_X12_back ?_
  rw [g1]
  refine ⟨fun c3 => ?_, fun c3 => w_X12_refuse (Or.inl ⟨c3, rfl, MN.same (fun c hc => (uI_ne hc).trans (f1 c hc)) ((rd_k (by decide)).trans g1)⟩)⟩
  obtain ⟨m, m3, em⟩ : ∃ m : Nat, m < 3 ∧ I 97 23 = nI (m + 1) := by
    have n0 : ¬ (I 97 23).toInt = 0 := fun q => c3 (Int32.toInt_inj.mp q)
    refine ⟨(I 97 23).toInt.toNat - 1, by omega, Int32.toInt_inj.mp ?_⟩
    rw [nI_toInt (by omega)]; omega
  rw [em]
  have k1 : (324 : Int32) * 0 = nI (324 * 0) := rfl
  have k2 : (324 : Int32) * nI (m + 1) = nI (324 * (m + 1)) := by rw [show (324 : Int32) = nI 324 from rfl]; exact nI_mul (by omega) (by omega) (by omega)
  have k3 : (6 : Int32) * 0 = nI (6 * 0) := rfl
  have k4 : (6 : Int32) * nI (m + 1) = nI (6 * (m + 1)) := by rw [show (6 : Int32) = nI 6 from rfl]; exact nI_mul (by omega) (by omega) (by omega)
  refine px_copy (f := m + 1) (t := 0) k2 k1 k4 k3 (by omega) (by omega) (by omega) (fun I2 J2 h1 h2 h3 h4 h5 h6 => ?_)
  have e23 : I2 97 23 = nI (m + 1) := by rw [h1 97 (by decide), g1, em]
  have e102 : uI (uI I 97 1 0) 97 0 0 102 = I 102 := f1 102 (by decide)
  rw [e102] at h2 h3
  rw [rd_eq, e23, nI_pred]
  refine Or.inr ⟨m, m3, em, rfl, ?_, ?_, fun i hi => ?_, fun j hj h6j => ?_, fun i hi _ => ?_, fun c hc => ?_, fun c hc => ?_, ?_⟩
  · rw [rd_ne (by decide)]; exact (show I2 102 0 = I2 102 (324 * 0 + 0) from rfl).trans (h3 0 (by omega))
  · rw [rd_ne (by decide)]; exact (show I2 102 3 = I2 102 (324 * 0 + 3) from rfl).trans (h3 3 (by omega))
  · exact (show J2 104 i = J2 104 (6 * 0 + i) by rw [Nat.mul_zero, Nat.zero_add]).trans (h6 i hi)
  · unfold pK at hj
    rw [rd_ne (by decide)]; exact h2 j (by omega)
  · exact h5 i (by omega)
  · have q6 := bk_six hc
    rw [uI_ne (by first | decide | omega), h1 c (by omega), f1 c (by omega)]; exact ⟨rfl, rfl⟩
  · have q6 := bk_six hc
    exact h4 _ (by omega)
  · rw [rd_eq, em, nI_toInt (by omega), nI_toInt (by omega)]; omega
theorem RM.back {x x2 : Int32} {I I1 I2 : Im} {J J1 J2 : Jm} {R : Rm} (hB : Bd I) (hR : RI R) (hL : (I 1 13).toInt = (I 97 23).toInt) (h : RM I J R) (h1 : HBk (R 1 7) I J x I1 J1) (h2 : MBk I1 J1 x2 I2 J2) : RM I2 J2 R := by
  have n9 := now_9 hR
  rcases h1 with ⟨n1, x1, a⟩ | ⟨m, m3, em, x1, N, a, eN⟩
  · rcases h2 with ⟨n2, y1, b2⟩ | ⟨m, m3, em, _⟩
    · have f0 : I1 102 0 = I (R 1 7) 4 := by rw [a.2.2.2.2.2.2.1]; exact h.1.1.symm
      have f3 : I1 102 3 = I (R 1 7) 2 := by rw [a.2.2.2.2.2.2.1]; have := h.1.2.1; rw [Nat.zero_add] at this; exact this.symm
      rw [f0, f3] at b2
      exact RM.now n9 (by decide) rfl h a b2 (h.eqN a.2.2.2.2.2.1)
    · rw [a.2.2.2.2.2.2.2] at em
      rw [em, nI_toInt (by omega)] at hL
      exact absurd (show (1 : Int32) ≤ I 1 13 by rw [Int32.le_iff_toInt_le, show (1 : Int32).toInt = 1 from rfl]; omega) n1
  · rcases h2 with ⟨n2, y1, b2⟩ | ⟨m2, m32, em2, y1, b2⟩
    · rw [a.2.2.2.2.2.2.2] at n2
      rw [n2, em, nI_toInt (by omega), show (0 : Int32).toInt = 0 from rfl] at hL
      omega
    · have em' : m2 = m := by
        rw [a.2.2.2.2.2.2.2] at em2
        rw [em, em2, nI_toInt (by omega), nI_toInt (by omega)] at hL
        omega
      subst em'
      obtain ⟨d1, d2, d3⟩ := h.2 m2 m3 (by rw [← hL, em, nI_toInt (by omega)]; omega)
      rw [a.2.2.2.2.2.2.1, ← d1, ← d2] at b2
      refine RM.now n9 (by decide) rfl h a b2 (fun i h6 hi => ?_)
      rw [eN i h6, a.2.2.2.2.2.1]
      rw [d1] at hi
      exact d3 i h6 hi
end PT7x7
section PT7x8
/-! ===== the mean leaves the bakery that is now ===== -/
noncomputable def HW (e : Nat) (I : Im) (J : Jm) (I2 : Im) (J2 : Jm) : Prop := (∀ c, c ∈ BKL → ¬ c = e → I2 c 4 = I c 4 ∧ I2 c 2 = I c 2) ∧ (∀ c, c ∈ BKL → ¬ c = e → J2 (c + 2) = J (c + 2)) ∧ J2 104 = J 104 ∧ I2 102 = I 102 ∧ I2 97 23 = I 97 23
theorem HW.rf {e : Nat} {I : Im} {J : Jm} : HW e I J I J := ⟨fun _ _ _ => ⟨rfl, rfl⟩, fun _ _ _ => rfl, rfl, rfl, rfl⟩
theorem HW.kp {e : Nat} {I I1 I2 : Im} {J J1 J2 : Jm} (h : HW e I J I1 J1) (k1 : KA I1 I2) (k2 : Knm I1 J1 I2 J2) (k3 : I2 102 = I1 102) : HW e I J I2 J2 := by
  obtain ⟨a1, a2, a3, a4, a5⟩ := h
  refine ⟨fun c hc he => ?_, fun c hc he => (bk_nm k2 c hc).trans (a2 c hc he), k2.2.2.2.2.2.trans a3, k3.trans a4, k1.2.trans a5⟩
  exact ⟨(k1.1 c hc).1.trans (a1 c hc he).1, (k1.1 c hc).2.trans (a1 c hc he).2⟩
theorem HW.u {e z : Nat} {v : Int32} {I I1 : Im} {J J1 : Jm} (h : HW e I J I1 J1) : HW e I J (uI I1 1 z v) J1 := by
  obtain ⟨a1, a2, a3, a4, a5⟩ := h
  refine ⟨fun c hc he => ?_, a2, a3, (uI_ne (by decide)).trans a4, (rd_ne (by decide)).trans a5⟩
  rw [uI_ne (fun q => by subst q; exact absurd hc (by decide))]
  exact a1 c hc he
theorem HW.hn {o e : Nat} {I I2 : Im} {J J2 : Jm} (h : HW e I J I2 J2) (ho : o ∈ BKL) (hne : ¬ o = e) : HN o e (I o 4) (I o 2) (J (o + 2)) I J I2 J2 :=
  ⟨(h.1 o ho hne).1, (h.1 o ho hne).2, h.2.1 o ho hne, fun c hc _ he => h.1 c hc he, fun c hc _ he => h.2.1 c hc he, h.2.2.1, h.2.2.2.1, h.2.2.2.2⟩
theorem k3w {d mi n : Nat} {as : List Value} {I : Im} {J : Jm} {R : Rm} {Q : Qt} (h1 : dtyA.elem mi = false) (h2 : dtynm.elem mi = false) (h3 : dty102.elem mi = false) (hR : RI R) (o1 : okasnm as = true) (o2 : okas102 as = true) (h : AM d mi n as I J R (fun x y I' J' R' => K102 I J I' J' → Knm I J I' J' → KA I I' → Q x y I' J' R')) : AM d mi n as I J R Q :=
  kpA h1 (kpnm h2 hR o1 (kp102 h3 hR o2 h))
set_option maxHeartbeats 1000000 in
theorem cx_mean {d : Nat} {v1 v2 : Int32} {I : Im} {J : Jm} {R : Rm} (hB0 : Bd I) (hR0 : RI R) : AM (d + 7) 146 112 [.ref 1, .int v1, .int v2] I J R (fun x _ I2 J2 _ => HN (R 1 7) (R 1 8) (I (R 1 7) 4) (I (R 1 7) 2) (J (R 1 7 + 2)) I J I2 J2) := by
  have hO := hR0.now.1
  have hS := hR0.spare.1
  have n7 := now_bk hR0
  have n8 := bk_in hS
  have hp := hR0.rp.1
  have hpd := hR0.rp.2.1
  have hne : ¬ R 1 7 = R 1 8 := by omega
  have okn : ∀ x : Int32, okasnm [.ref 51, .ref (R 1 8), .ref (R 1 9), .int x] = true ∧ okas102 [.ref 51, .ref (R 1 8), .ref (R 1 9), .int x] = true := fun x => by
    rcases hp with ⟨_, q⟩ | ⟨_, q⟩ <;> rcases hpd with ⟨q2, _⟩ | ⟨q2, _⟩ <;> rw [q, q2] <;> exact ⟨rfl, rfl⟩
  have okh : okasnm [.ref (R 1 8)] = true ∧ okas102 [.ref (R 1 8)] = true := by
    rcases hp with ⟨_, q⟩ | ⟨_, q⟩ <;> rw [q] <;> exact ⟨rfl, rfl⟩
  refine am_X11_mean (fun P hc => ?_)
  have L : ∀ n : Nat, (∀ (v3 : Int64) (v5 : Int32) (M : Im) (JM : Jm), Bd M → HW (R 1 8) I J M JM → (0 ≤ v2.toInt ∧ v2.toInt ≤ 20 ∧ 0 ≤ v5.toInt ∧ v5.toInt ≤ 20) → 30 - v5.toInt < (n : Int) → P 61 112 [(0, .ref 1), (1, .int v1), (2, .int v2), (3, .long v3), (5, .int v5)] [] M JM R) := by
    intro n
    induction n with
    | zero => exact fun v3 v5 M J _ _ hi hm => absurd hm (by omega)
    | succ n ih =>
      intro v3 v5 M JM hB hW hi hm
      refine sg_X11_mean_61 hc _ _ _ _ _ _ _ ⟨fun c1 => ?_, fun c1 => ?_⟩
      · refine k3w rfl rfl rfl hR0 rfl rfl (sp_X11_tell hB hR0 (fun x3 y8 I4 J5 hB6 p7 kc kn ka o9 => ⟨o9, ?_⟩))
        exact (hW.kp ka kn kc.1).hn n7 hne
      · have d11 : (v5.toInt : Int) < v2.toInt := ci_nle rfl rfl c1
        refine ⟨hR0.spare.2, hR0.now.2, bif_t hS (kx (px_cpB (Q := fun _ _ I2 J2 _ => (∀ c, ¬ (R 1 8 ≤ c ∧ c ≤ R 1 8 + 5) → I2 c = M c) ∧ ∀ c, ¬ c = R 1 8 + 2 → J2 c = JM c) hS hO (by omega) (fun I2 J2 f1 g1 _ _ _ _ _ _ => ⟨f1, g1⟩)) (sp_X0_copyFrom hB hR0 hS hO (fun x12 y17 I13 J14 hB15 p16 fg => ?_)))⟩
        obtain ⟨f1, g1⟩ := fg
        have hW1 : HW (R 1 8) I J I13 J14 := by
          obtain ⟨a1, a2, a3, a4, a5⟩ := hW
          refine ⟨fun c hcc he => ?_, fun c hcc he => ?_, (g1 _ (by omega)).trans a3, (f1 102 (by omega)).trans a4, (congrFun (f1 97 (by omega)) 23).trans a5⟩
          · have h6 := bk_six hcc
            rw [f1 c (by omega)]; exact a1 c hcc he
          · have h6 := bk_six hcc
            rw [g1 _ (by omega)]; exact a2 c hcc he
        refine ⟨hR0.spare.2, hR0.plan.2, ?_⟩
        refine k3w rfl rfl rfl hR0 (okn _).1 (okn _).2 (sp_X4_run hB15 hR0 io9_112_51_4 hS hR0.plan.1 (fun x18 y23 I19 J20 hB21 p22 kc kn ka => ?_))
        refine ⟨hR0.spare.2, bif_t hS ?_⟩
        refine k3w rfl rfl rfl hR0 okh.1 okh.2 (sp_X0_allHoldings hB21 hR0 hS (fun x24 y29 I25 J26 hB27 p28 kc2 kn2 ka2 => ?_))
        have e30 : (v5 + 1 : Int32).toInt = v5.toInt + 1 := ti_add rfl rfl (by omega)
        exact ih _ _ _ _ hB27 ((hW1.kp ka kn kc.1).kp ka2 kn2 kc2.1) (by omega) (by omega)
  have no : ∀ z : Int32, HN (R 1 7) (R 1 8) (I (R 1 7) 4) (I (R 1 7) 2) (J (R 1 7 + 2)) I J (uI I 1 0 z) J := fun z => HW.hn (HW.rf.u) n7 hne
  refine sg_X11_mean_0 hc _ _ _ _ _ ⟨fun c => w_X11_deny ⟨Or.inl rfl, fun _ => ⟨Or.inl rfl, no _⟩⟩, fun _ => ⟨fun c => w_X11_deny ⟨Or.inl rfl, fun _ => ⟨Or.inl rfl, no _⟩⟩, fun _ => ⟨fun c => w_X11_deny ⟨Or.inl rfl, fun _ => ⟨Or.inl rfl, no _⟩⟩, fun c1 => ⟨fun c => w_X11_deny ⟨Or.inl rfl, fun _ => ⟨Or.inl rfl, no _⟩⟩, fun c2 => ⟨fun _ => ⟨hR0.plan.2, bif_t hR0.plan.1 ⟨fun _ => L 40 0 0 I J hB0 HW.rf ⟨?_, ?_, by decide, by decide⟩ (by decide), fun c => w_X11_deny ⟨Or.inl rfl, fun _ => ⟨Or.inl rfl, no _⟩⟩⟩⟩, fun c => w_X11_deny ⟨Or.inl rfl, fun _ => ⟨Or.inl rfl, no _⟩⟩⟩⟩⟩⟩⟩
  · have := ci_nlt rfl (show (1 : Int32).toInt = 1 from rfl) c1; omega
  · have := ci_nlt (show (20 : Int32).toInt = 20 from rfl) rfl c2; omega
theorem RM.mean {I I1 I2 : Im} {J J1 J2 : Jm} {R : Rm} (hR : RI R) (h : RM I J R) (a : HN (R 1 7) (R 1 8) (I (R 1 7) 4) (I (R 1 7) 2) (J (R 1 7 + 2)) I J I1 J1) (k : K8 I1 J1 I2 J2) : RM I2 J2 R := by
  have b2 := k.mn
  have f0 : I1 102 0 = I (R 1 7) 4 := by rw [a.2.2.2.2.2.2.1]; exact h.1.1.symm
  have f3 : I1 102 3 = I (R 1 7) 2 := by rw [a.2.2.2.2.2.2.1]; have := h.1.2.1; rw [Nat.zero_add] at this; exact this.symm
  rw [f0, f3] at b2
  exact RM.now (now_9 hR) (by have := hR.rp.1; omega) rfl h a b2 (h.eqN a.2.2.2.2.2.1)
end PT7x8
