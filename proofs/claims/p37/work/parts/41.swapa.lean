section PT7x0
/-! the two methods that change which bakery, which days are at hand -/
theorem am2_of {d mi rk : Nat} {as : List Value} {I : Im} {J : Jm} {R : Rm} {Q : Qt} {k : List En} (h1 : Nat.beq mi mReader = false) (hc : (mQ mi).1 = k) (hrk : qRk (mQ mi) = rk) (hal : qAl (mQ mi) = 0) (hph : qPh (mQ mi) = 1) (hkr : qKr (mQ mi) = 0) (hlen : (lg_sl as).length ≤ qL (mQ mi)) (h : ∀ P : Kt, Cl (AM d) true false 0 (fun _ => 0) rk 112 k (fun n x y I' J' R' => n = 112 ∧ Q x y I' J' R') P → P 0 112 (lv_args 0 as) [] I J R) : AM (d + 1) mi 112 as I J R Q := by
  unfold AM
  rw [h1]
  refine ⟨hlen, ?_⟩
  rw [hc, hrk, hal, hph]
  refine AW_m (AM_m d) ?_ h
  intro n x y I' J' R' q
  exact ⟨q.1, fun z => absurd z (by rw [hkr]; decide), q.2⟩
theorem Fl.u {R : Rm} (h : Fl R) {i0 j v : Nat} (ha : Nat.beq (fkd (shl.getD i0 (999, 0)).1 j) 4 = false) : Fl (uR R (i0 + 1) j v) := by
  intro i k hk
  show ¬ (if i + 1 = i0 + 1 then va_up (R (i0 + 1)) j v else R (i + 1)) k = 0
  by_cases q : i + 1 = i0 + 1
  · rw [if_pos q]
    have qi : i = i0 := by omega
    subst qi
    have h2 : ¬ k = j := fun z => by subst z; rw [hk] at ha; cases ha
    show ¬ (if k = j then v else R (i + 1) k) = 0
    rw [if_neg h2]; exact h i k hk
  · rw [if_neg q]; exact h i k hk
theorem RI.swB {R : Rm} (h : RI R) : RI (uR (uR R 1 7 (R 1 8)) 1 8 (R 1 7)) := ⟨h.2.1, h.1, h.2.2.1, h.2.2.2.1, h.2.2.2.2.1, h.2.2.2.2.2.1, h.2.2.2.2.2.2.1, h.2.2.2.2.2.2.2.1, h.rp.1.elim (fun q => Or.inr ⟨q.2, q.1⟩) (fun q => Or.inl ⟨q.2, q.1⟩), h.rp.2⟩
theorem RI.swD {R : Rm} (h : RI R) : RI (uR (uR R 1 9 (R 1 10)) 1 10 (R 1 9)) := ⟨h.1, h.2.1, h.2.2.2.1, h.2.2.1, h.2.2.2.2.1, h.2.2.2.2.2.1, h.2.2.2.2.2.2.1, h.2.2.2.2.2.2.2.1, h.rp.1, h.rp.2.1.elim (fun q => Or.inr ⟨q.2, q.1⟩) (fun q => Or.inl ⟨q.2, q.1⟩), h.rp.2.2⟩
set_option maxHeartbeats 2000000 in
theorem sp_X11_bakery {d : Nat} {Q : Qt} {v1 : Int32} {I : Im} {J : Jm} {R : Rm} (hB0 : Bd I) (hR0 : RI R) (hQ : ∀ (x : Int32) (y : Int64) (I2 : Im) (J2 : Jm) (R2 : Rm), Bd I2 → RI R2 → (Fl R → Fl R2) → (((v1.toInt < 0 ∨ (I 3 1).toInt < v1.toInt) ∧ (I2 3 1).toInt = (I 3 1).toInt) ∨ (0 ≤ v1.toInt ∧ v1.toInt ≤ (I 3 1).toInt ∧ (I2 3 1).toInt = 0)) → Q x y I2 J2 R2) : AM (d + 9) 108 112 [.ref 1, .int v1] I J R Q := by
  have o0 : ∀ (I : Im) (v : Int32), Bd I → Bd (uI I 1 0 v) := fun I v h => Bd.o0 h io9_112_1_11 (by omega) bd9_11_0
  refine am2_of (k := kX11_bakery) rfl rfl rfl rfl rfl rfl (Nat.le_of_ble_eq_true rfl) (fun P hc => ?_)
  refine sg_X11_bakery_0 hc _ _ _ _ ?_
  refine ⟨fun c1 => ?_, fun c1 => ⟨fun c2 => ?_, fun c2 => ?_⟩⟩
  · exact w_X11_refuse ⟨rfl, hQ _ _ _ _ _ (o0 _ _ hB0) hR0 (fun z => z) (Or.inl ⟨Or.inl (ci_lt rfl rfl c1), rfl⟩)⟩
  · refine sp_X6_open hB0 hR0 (fun x2 y2 I2 J2 hB2 h8 => ⟨(RI.spare hR0).2, ?_⟩)
    refine kp0 rfl (sp_X1_readInto hB2 hR0 (RI.spare hR0).1 (fun x3 y3 I3 J3 hB3 _ k3 => ?_))
    intro _
    refine ⟨fun c3 => ⟨(RI.now hR0).2, (RI.spare hR0).2, (RI.spare hR0).2, (RI.now hR0).2, (RI.plan (RI.swB hR0)).2, ?_⟩, fun c3 => ?_⟩
    · refine bif_t (RI.plan (RI.swB hR0)).1 ?_
      refine kp0 rfl (sp_X2_forget hB3 (RI.swB hR0) (RI.plan (RI.swB hR0)).1 (fun x4 y4 I4 J4 hB4 _ k4 => ⟨(RI.now (RI.swB hR0)).2, ?_⟩))
      refine bif_t (RI.now (RI.swB hR0)).1 ?_
      exact w_X11_answer ⟨rfl, hQ _ _ _ _ _ (o0 _ _ hB4) (RI.swB hR0) (fun z => (z.u (i0 := 0) rfl).u (i0 := 0) rfl) (Or.inr ⟨ci_nlt rfl rfl c1, ci_le rfl rfl c2, ((congrArg Int32.toInt (k4.trans k3)).trans h8)⟩)⟩
    · exact w_X11_refuse ⟨rfl, hQ _ _ _ _ _ (o0 _ _ hB3) hR0 (fun z => z) (Or.inr ⟨ci_nlt rfl rfl c1, ci_le rfl rfl c2, ((congrArg Int32.toInt k3).trans h8)⟩)⟩
  · exact w_X11_refuse ⟨rfl, hQ _ _ _ _ _ (o0 _ _ hB0) hR0 (fun z => z) (Or.inl ⟨Or.inr (ci_nle rfl rfl c2), rfl⟩)⟩
set_option maxHeartbeats 2000000 in
theorem sp_X11_days {d : Nat} {Q : Qt} {v1 : Int32} {I : Im} {J : Jm} {R : Rm} (hB0 : Bd I) (hR0 : RI R) (hQ : ∀ (x : Int32) (y : Int64) (I2 : Im) (J2 : Jm) (R2 : Rm), Bd I2 → RI R2 → (Fl R → Fl R2) → (((v1.toInt < 0 ∨ (I 3 1).toInt < v1.toInt ∨ 300 < v1.toInt) ∧ (I2 3 1).toInt = (I 3 1).toInt) ∨ (0 ≤ v1.toInt ∧ v1.toInt ≤ (I 3 1).toInt ∧ v1.toInt ≤ 300 ∧ (I2 3 1).toInt = 0)) → (R2 1 7 = R 1 7 ∧ ∀ c, ¬ c = 1 → R2 c = R c) → Q x y I2 J2 R2) : AM (d + 9) 109 112 [.ref 1, .int v1] I J R Q := by
  have o0 : ∀ (I : Im) (v : Int32), Bd I → Bd (uI I 1 0 v) := fun I v h => Bd.o0 h io9_112_1_11 (by omega) bd9_11_0
  refine am2_of (k := kX11_days) rfl rfl rfl rfl rfl rfl (Nat.le_of_ble_eq_true rfl) (fun P hc => ?_)
  refine sg_X11_days_0 hc _ _ _ _ ?_
  refine ⟨fun c1 => ?_, fun c1 => ⟨fun c2 => ?_, fun c2 => ⟨fun c4 => ?_, fun c3 => ?_⟩⟩⟩
  · exact w_X11_refuse ⟨rfl, hQ _ _ _ _ _ (o0 _ _ hB0) hR0 (fun z => z) (Or.inl ⟨Or.inl (ci_lt rfl rfl c1), rfl⟩) ⟨rfl, fun _ _ => rfl⟩⟩
  · exact w_X11_refuse ⟨rfl, hQ _ _ _ _ _ (o0 _ _ hB0) hR0 (fun z => z) (Or.inl ⟨Or.inr (Or.inl (ci_lt rfl rfl c2)), rfl⟩) ⟨rfl, fun _ _ => rfl⟩⟩
  · refine sp_X6_open hB0 hR0 (fun x2 y2 I2 J2 hB2 h8 => ⟨(RI.splan hR0).2, (RI.now hR0).2, ?_⟩)
    refine kp0 rfl (sp_X3_readInto hB2 hR0 (RI.splan hR0).1 (RI.now hR0).1 (fun x3 y3 I3 J3 hB3 _ k3 => ?_))
    intro _
    refine ⟨fun c3 => ⟨(RI.plan hR0).2, (RI.splan hR0).2, (RI.splan hR0).2, (RI.plan hR0).2, (RI.plan (RI.swD hR0)).2, ?_⟩, fun c3 => ?_⟩
    · refine bif_t (RI.plan (RI.swD hR0)).1 ?_
      exact w_X11_answer ⟨rfl, hQ _ _ _ _ _ (o0 _ _ hB3) (RI.swD hR0) (fun z => (z.u (i0 := 0) rfl).u (i0 := 0) rfl) (Or.inr ⟨ci_nlt rfl rfl c1, ci_nlt rfl rfl c2, ci_le rfl (show (300 : Int32).toInt = 300 from rfl) c4, ((congrArg Int32.toInt k3).trans h8)⟩) ⟨rfl, fun _ q => (uR_ne q).trans (uR_ne q)⟩⟩
    · exact w_X11_refuse ⟨rfl, hQ _ _ _ _ _ (o0 _ _ hB3) hR0 (fun z => z) (Or.inr ⟨ci_nlt rfl rfl c1, ci_nlt rfl rfl c2, ci_le rfl (show (300 : Int32).toInt = 300 from rfl) c4, ((congrArg Int32.toInt k3).trans h8)⟩) ⟨rfl, fun _ _ => rfl⟩⟩
  · exact w_X11_refuse ⟨rfl, hQ _ _ _ _ _ (o0 _ _ hB0) hR0 (fun z => z) (Or.inl ⟨Or.inr (Or.inr (ci_nle rfl (show (300 : Int32).toInt = 300 from rfl) c3)), rfl⟩) ⟨rfl, fun _ _ => rfl⟩⟩
end PT7x0
section PT7x1
/-! ===== what of the reference's blocks stays; small lemmas ===== -/
noncomputable def Fr (P : Nat → Prop) (I I2 : Im) : Prop := (∀ j, P j → I2 102 j = I 102 j) ∧ I2 103 = I 103
theorem Fr.refl (P : Nat → Prop) (I : Im) : Fr P I I := ⟨fun _ _ => rfl, rfl⟩
theorem Fr.o {P : Nat → Prop} {I M : Im} {o k : Nat} {v : Int32} (h : Fr P I M) (ho : ¬ (102 : Nat) = o) (ho2 : ¬ (103 : Nat) = o) : Fr P I (uI M o k v) := by
  refine ⟨fun j hj => ?_, ?_⟩
  · rw [uI_ne ho]; exact h.1 j hj
  · rw [uI_ne ho2]; exact h.2
theorem Fr.w {P : Nat → Prop} {I M : Im} {i v : Int32} {z : Int} (h : Fr P I M) (hi : i.toInt = z) (h0 : 0 ≤ z) (hp : ∀ j : Nat, (j : Int) = z → P j → False) : Fr P I (uI M 102 (Int32.toNatClampNeg i) v) := by
  refine ⟨fun j hj => ?_, ?_⟩
  · have hz := tn_of hi h0
    rw [rd_k (fun q => hp j (by omega) hj)]
    exact h.1 j hj
  · rw [uI_ne (by decide)]; exact h.2
theorem Fr.tr {P Q : Nat → Prop} {I M N : Im} (h1 : Fr P I M) (h2 : Fr Q M N) (hq : ∀ j, P j → Q j) : Fr P I N := ⟨fun j hj => by rw [h2.1 j (hq j hj), h1.1 j hj], h2.2.trans h1.2⟩
noncomputable def pT : Nat → Prop := fun _ => True
theorem Fr.eq {I M : Im} (h : Fr pT I M) : M 102 = I 102 := funext fun j => h.1 j trivial
/-- the days, who are there, by what their dues are divided -/
noncomputable def pD (j : Nat) : Prop := j = 0 ∨ (40 ≤ j ∧ j ≤ 45) ∨ 52 ≤ j ∨ j = 3
/-- how many men, what is known, now and kept -/
noncomputable def pK (j : Nat) : Prop := j = 0 ∨ j = 3 ∨ j = 324 ∨ j = 327 ∨ j = 648 ∨ j = 651 ∨ j = 972 ∨ j = 975
theorem pK_D : ∀ j, pK j → pD j := fun j h => by unfold pK at h; unfold pD; omega
noncomputable def KC (I I2 : Im) : Prop := ∀ j, pK j → I2 102 j = I 102 j
/-- all but a record's fields -/
noncomputable def pW (w : Int) (j : Nat) : Prop := (j : Int) ≤ w ∨ w + 8 ≤ (j : Int)
/-- all below a place -/
noncomputable def pB (w : Int) (j : Nat) : Prop := (j : Int) < w
theorem CK.men {f : Nat → Int32} (h : CK f) {v : Int32} {b : Nat} (hb : b < 5) (hv : v.toInt = (f (324 * b)).toInt + 1) (h6 : v.toInt ≤ 6) (hk : 1 ≤ (f (324 * b + 40 + (f (324 * b)).toInt.toNat)).toInt) : CK (upd f (324 * b) v) := by
  have h0 := (h.1 (324 * b)).1 (by omega)
  have hs : ∀ k : Nat, ¬ k = 324 * b → upd f (324 * b) v k = f k := fun k hk => upd_i hk
  refine ⟨fun k => ?_, fun c k hc hk2 => ?_, fun c s hc hd hs2 => ?_⟩
  · by_cases hk : k = 324 * b
    · subst hk
      rw [upd_s]
      unfold CB
      omega
    · rw [upd_i hk]; exact h.1 k
  · by_cases q : c = b
    · subst q
      rw [upd_s, hv] at hk2
      rw [hs _ (by omega)]
      by_cases r : (k : Int) < (f (324 * c)).toInt
      · exact h.2.1 c k hc r
      · rw [show k = (f (324 * c)).toInt.toNat by omega]; exact hk
    · rw [hs _ (by omega)] at hk2
      have h6 := (h.1 (324 * c)).1 (by omega)
      rw [hs _ (by omega)]
      exact h.2.1 c k hc hk2
  · rw [hs _ (by omega)] at hd hs2
    have h6 := (h.1 (324 * c + 53)).2.2.1 (by omega)
    have q := h.2.2 c s hc hd hs2
    unfold RecOk at q ⊢
    simp only [hs (324 * c + 54 + 9 * s + 8) (by omega), hs (324 * c + 53) (by omega), hs (324 * c + 54 + 9 * s) (by omega), hs (324 * c + 54 + 9 * s + 1) (by omega), hs (324 * c + 54 + 9 * s + 2) (by omega), hs (324 * c + 54 + 9 * s + 3) (by omega), hs (324 * c + 54 + 9 * s + 5) (by omega)]
    by_cases r : c = b
    · subst r
      rw [upd_s, hv]
      unfold Rec at q ⊢
      omega
    · rw [hs (324 * c) (by omega)]; exact q
end PT7x1
