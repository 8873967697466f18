section PT14x3
section RNE
variable {I I1 : Im} {J : Jm} {R : Rm} {Q : Qt} {M n : Nat} {r : Rn9} {m od : Int32} {s : DS} {du : Du9}
theorem tn_w {w : Nat} (h : w + 8 < 1620) : Int32.toNatClampNeg (nI w) = w ∧ Int32.toNatClampNeg (nI w + 1) = w + 1 ∧ Int32.toNatClampNeg (nI w + 2) = w + 2 ∧ Int32.toNatClampNeg (nI w + 3) = w + 3 ∧ Int32.toNatClampNeg (nI w + 5) = w + 5 ∧ Int32.toNatClampNeg (nI w + 6) = w + 6 ∧ Int32.toNatClampNeg (nI w + 7) = w + 7 ∧ Int32.toNatClampNeg (nI w + 8) = w + 8 := by
  refine ⟨tn_nI (by omega), ?_, ?_, ?_, ?_, ?_, ?_, ?_⟩
  · rw [show (1 : Int32) = nI 1 from rfl, wk_k (by omega), tn_nI (by omega)]
  · rw [show (2 : Int32) = nI 2 from rfl, wk_k (by omega), tn_nI (by omega)]
  · rw [show (3 : Int32) = nI 3 from rfl, wk_k (by omega), tn_nI (by omega)]
  · rw [show (5 : Int32) = nI 5 from rfl, wk_k (by omega), tn_nI (by omega)]
  · rw [show (6 : Int32) = nI 6 from rfl, wk_k (by omega), tn_nI (by omega)]
  · rw [show (7 : Int32) = nI 7 from rfl, wk_k (by omega), tn_nI (by omega)]
  · rw [show (8 : Int32) = nI 8 from rfl, wk_k (by omega), tn_nI (by omega)]
theorem vp_w {w : Nat} (h : w + 8 < 1620) : vp_in (nI w) 1620 ∧ vp_in (nI w + 1) 1620 ∧ vp_in (nI w + 2) 1620 ∧ vp_in (nI w + 3) 1620 ∧ vp_in (nI w + 5) 1620 ∧ vp_in (nI w + 6) 1620 ∧ vp_in (nI w + 7) 1620 ∧ vp_in (nI w + 8) 1620 := by
  refine ⟨vp_of (a := ((w : Nat) : Int)) (nI_toInt (by omega)) (by omega) (by omega), ?_, ?_, ?_, ?_, ?_, ?_, ?_⟩
  · rw [show (1 : Int32) = nI 1 from rfl, wk_k (by omega)]; exact vp_of (a := ((w + 1 : Nat) : Int)) (nI_toInt (by omega)) (by omega) (by omega)
  · rw [show (2 : Int32) = nI 2 from rfl, wk_k (by omega)]; exact vp_of (a := ((w + 2 : Nat) : Int)) (nI_toInt (by omega)) (by omega) (by omega)
  · rw [show (3 : Int32) = nI 3 from rfl, wk_k (by omega)]; exact vp_of (a := ((w + 3 : Nat) : Int)) (nI_toInt (by omega)) (by omega) (by omega)
  · rw [show (5 : Int32) = nI 5 from rfl, wk_k (by omega)]; exact vp_of (a := ((w + 5 : Nat) : Int)) (nI_toInt (by omega)) (by omega) (by omega)
  · rw [show (6 : Int32) = nI 6 from rfl, wk_k (by omega)]; exact vp_of (a := ((w + 6 : Nat) : Int)) (nI_toInt (by omega)) (by omega) (by omega)
  · rw [show (7 : Int32) = nI 7 from rfl, wk_k (by omega)]; exact vp_of (a := ((w + 7 : Nat) : Int)) (nI_toInt (by omega)) (by omega) (by omega)
  · rw [show (8 : Int32) = nI 8 from rfl, wk_k (by omega)]; exact vp_of (a := ((w + 8 : Nat) : Int)) (nI_toInt (by omega)) (by omega) (by omega)
theorem px_mDoes {e w : Nat} {c : CD} (hw : w + 8 < 1620) (hc : c.1 = 9 ∨ c.1 = 10 ∨ c.1 = 11 ∨ c.1 = 12 ∨ c.1 = 13 ∨ c.1 = 14) (hk : I 102 w = stW c.1) (hr : RcO c (I 102) w) (hV : VA9 m c) (em : I 102 0 = m) (hm : m.toInt = (M : Int) ∧ M ≤ 6) (eo : I 102 1 = od) (hb : RB9 M r) (h : RfM M n r I) (hQ : ∀ I2, RfM M n (ac9 m od c r).2 I2 → FrRg9 I J I2 J → Q (ac9 m od c r).1 0 I2 J R) : AM (e + 5) 308 112 [.ref 97, .int (nI w)] I J R Q := by
  obtain ⟨t0, t1, t2, t3, -, -, -, -⟩ := tn_w hw
  obtain ⟨v0, v1, v2, v3, -, -, -, -⟩ := vp_w hw
  obtain ⟨s0, s1, s2, s3, s4, s5⟩ := stW_k hc
  obtain ⟨r9, r2, r1, -, -⟩ := hr
  obtain ⟨a9, a10, a11, a13⟩ := hV
  refine w_X12_does ⟨v0, v1, ?_⟩
  rw [t0, t1, t2, t3, hk]
  refine ⟨fun n0 => ⟨fun n1 => ⟨fun n2 => ⟨fun n3 => ⟨fun n4 => ?_, fun k4 => ?_⟩, fun k3 => ⟨v2, ?_⟩⟩, fun k2 => ⟨v2, ?_⟩⟩, fun k1 => ⟨v2, ?_⟩⟩, fun k0 => ⟨v2, v3, ?_⟩⟩
  · have q := s5 n0 n1 n2 n3 n4
    have ea : ac9 m od c r = an9 m od r := (if_neg (by rw [q]; decide)).trans ((if_neg (by rw [q]; decide)).trans ((if_neg (by rw [q]; decide)).trans ((if_neg (by rw [q]; decide)).trans (if_pos q))))
    rw [ea] at hQ
    exact px_mAny em hm eo hb h (fun I2 h2 hF hb => ⟨hb, hQ I2 h2 hF⟩)
  · have q := s4 k4
    have ea : ac9 m od c r = bv9 c.2.1 r := (if_neg (by rw [q]; decide)).trans ((if_neg (by rw [q]; decide)).trans ((if_neg (by rw [q]; decide)).trans ((if_neg (by rw [q]; decide)).trans (if_neg (by rw [q]; decide)))))
    rw [ea] at hQ
    rw [r1 (Or.inl q)]
    exact px_mBaked (a13 q) h (fun I2 h2 hF hb => ⟨hb, hQ I2 h2 hF⟩)
  · have q := s3 k3
    have ea : ac9 m od c r = sv9 r (opTake m c.2.1 c.2.2.1 r.1) := (if_neg (by rw [q]; decide)).trans ((if_neg (by rw [q]; decide)).trans ((if_neg (by rw [q]; decide)).trans (if_pos q)))
    rw [ea] at hQ
    obtain ⟨f1, f2⟩ := r2 (Or.inr (Or.inr q))
    obtain ⟨g1, g2⟩ := a11 (Or.inr q)
    have nd := (sq_nn g2).2
    have nk := (mn_nn g1 hm).1
    rw [f1, f2]
    exact px_takes g1 hm g2 h.1 (hb.1.hi _ nd.1 nd.2) (hb.1.hv0 _ nk) (fun I2 h2 hF hb => ⟨hb, hQ I2 (h.st h2 hF) hF.rg⟩)
  · have q := s2 k2
    have ea : ac9 m od c r = gv9 m c.2.1 c.2.2.1 r := (if_neg (by rw [q]; decide)).trans ((if_neg (by rw [q]; decide)).trans (if_pos q))
    rw [ea] at hQ
    obtain ⟨f1, f2⟩ := r2 (Or.inr (Or.inl q))
    obtain ⟨g1, g2⟩ := a11 (Or.inl q)
    rw [f1, f2]
    exact px_mGiven g1 hm g2 hb.1 h (fun I2 h2 hF hb => ⟨hb, hQ I2 h2 hF⟩)
  · have q := s1 k1
    have ea : ac9 m od c r = sv9 r (opSplit c.2.1 c.2.2.1 r.1) := (if_neg (by rw [q]; decide)).trans (if_pos q)
    rw [ea] at hQ
    obtain ⟨f1, f2⟩ := r2 (Or.inl q)
    obtain ⟨g1, g2⟩ := a10 q
    rw [f1, f2]
    exact px_mSplits g1 g2 hb.1 h (fun I2 h2 hF hb => ⟨hb, hQ I2 h2 hF⟩)
  · have q := s0 k0
    have ea : ac9 m od c r = sv9 r (opCut c.2.1 c.2.2.1 c.2.2.2 r.1) := if_pos q
    rw [ea] at hQ
    obtain ⟨f1, f2, f3⟩ := r9 q
    obtain ⟨g1, g2, g3⟩ := a9 q
    have nd := (sq_nn g1).2
    rw [f1, f2, f3]
    exact px_cuts g1 g2 g3 h.1 (hb.1.lo _ nd.1 nd.2) (fun I2 h2 hF hb => ⟨hb, hQ I2 (h.st h2 hF) hF.rg⟩)
theorem leafC9 {a b : Int64} {g : Int32} {V : Prop} (hV : V) (hQ : Q (bo9 (cp9 a g b)) 0 I J R) : ((¬ g = 60 → (V ∧ ((¬ g = 62 → ((¬ (lg_cmp a b) = (0 : Int32) → (((0 : Int32) = 0 ∨ (0 : Int32) = 1) ∧ Q 0 0 I J R)) ∧ ((lg_cmp a b) = (0 : Int32) → (((1 : Int32) = 0 ∨ (1 : Int32) = 1) ∧ Q 1 0 I J R)))) ∧ (g = 62 → (((lg_cmp a b) ≤ (0 : Int32) → (((0 : Int32) = 0 ∨ (0 : Int32) = 1) ∧ Q 0 0 I J R)) ∧ (¬ (lg_cmp a b) ≤ (0 : Int32) → (((1 : Int32) = 0 ∨ (1 : Int32) = 1) ∧ Q 1 0 I J R))))))) ∧ (g = 60 → (((0 : Int32) ≤ (lg_cmp a b) → (((0 : Int32) = 0 ∨ (0 : Int32) = 1) ∧ Q 0 0 I J R)) ∧ (¬ (0 : Int32) ≤ (lg_cmp a b) → (((1 : Int32) = 0 ∨ (1 : Int32) = 1) ∧ Q 1 0 I J R))))) := by
  refine ⟨fun n60 => ⟨hV, fun n62 => ?_, fun c62 => ?_⟩, fun c60 => ?_⟩
  · have ec : cp9 a g b = decide (lg_cmp a b = (0 : Int32)) := (if_neg n60).trans (if_neg n62)
    rw [ec] at hQ
    refine ⟨fun c => ⟨Or.inl rfl, ?_⟩, fun c => ⟨Or.inr rfl, ?_⟩⟩
    · rw [bo9_f c] at hQ; exact hQ
    · rw [bo9_t c] at hQ; exact hQ
  · have ec : cp9 a g b = decide (¬ lg_cmp a b ≤ (0 : Int32)) := (if_neg n60).trans (if_pos c62)
    rw [ec] at hQ
    refine ⟨fun c => ⟨Or.inl rfl, ?_⟩, fun c => ⟨Or.inr rfl, ?_⟩⟩
    · rw [bo9_f (fun z => z c)] at hQ; exact hQ
    · rw [bo9_t c] at hQ; exact hQ
  · have ec : cp9 a g b = decide (¬ (0 : Int32) ≤ lg_cmp a b) := if_pos c60
    rw [ec] at hQ
    refine ⟨fun c => ⟨Or.inl rfl, ?_⟩, fun c => ⟨Or.inr rfl, ?_⟩⟩
    · rw [bo9_f (fun z => z c)] at hQ; exact hQ
    · rw [bo9_t c] at hQ; exact hQ
theorem teW_k {i : Int32} (h : i = 16 ∨ i = 17 ∨ i = 18) : (teW i = 0 → i = 16) ∧ (teW i = 1 → i = 17) ∧ (¬ teW i = 0 → ¬ teW i = 1 → i = 18) := by
  rcases h with rfl | rfl | rfl
  · exact ⟨fun _ => rfl, fun z => absurd z (show ¬ teW 16 = 1 by decide), fun z _ => absurd (show teW 16 = 0 from rfl) z⟩
  · exact ⟨fun z => absurd z (show ¬ teW 17 = 0 by decide), fun _ => rfl, fun _ z => absurd (show teW 17 = 1 from rfl) z⟩
  · exact ⟨fun z => absurd z (show ¬ teW 18 = 0 by decide), fun z => absurd z (show ¬ teW 18 = 1 by decide), fun _ _ => rfl⟩
theorem px_mHold {e w : Nat} {c : CD} (hw : w + 8 < 1620) (hT : isTs c.1 = true) (hr : RcO c (I 102) w) (hV : VC9 m c) (em : I 102 0 = m) (hm : m.toInt = (M : Int) ∧ M ≤ 6) (hd : DuR M du I) (hs : ∀ k, k < M → sh (du k).1 (du k).2) (hb : StB M r.1) (h : BkR M r.1 I) (hQ : Q (bo9 (ho9 du c r.1)) 0 I J R) : AM (e + 4) 309 112 [.ref 97, .int (nI w)] I J R Q := by
  obtain ⟨t0, t1, t2, t3, t5, t6, t7, -⟩ := tn_w hw
  obtain ⟨v0, v1, v2, v3, v5, v6, v7, -⟩ := vp_w hw
  obtain ⟨s0, s1, s2⟩ := teW_k (isTs_c hT)
  obtain ⟨-, -, -, rT, r7⟩ := hr
  obtain ⟨f5, f1⟩ := rT hT
  refine w_X12_holds ⟨v5, v1, ?_⟩
  rw [t5, t1, t6, t7, f5, f1]
  refine ⟨fun n0 => ⟨fun n1 => ?_, fun k1 => ?_⟩, fun k0 => ?_⟩
  · have c18 := s2 n0 n1
    have hk := hV.1 (Or.inr c18)
    have nk := (mn_nn hk hm).1
    obtain ⟨f7, f6⟩ := r7 (Or.inr c18)
    have eh : ho9 du c r.1 = cp9 (Int64.ofInt (lk9 du r.1.2.1 (nn9 c.2.1))) c.2.2.1 ((Int32.toInt64 c.2.2.2) * 2329089562800) := (if_neg (by rw [c18]; decide)).trans (if_neg (by rw [c18]; decide))
    rw [eh] at hQ
    refine px_lackOf hk hm h (hb.hv0 _ nk) hd (hs _ nk) (fun y hy => ⟨fun _ => ⟨v6, v7, ?_⟩, fun z => absurd z n1⟩)
    rw [← of9 hy] at hQ
    rw [f7, f6]
    exact leafC9 v7 hQ
  · have c17 := s1 k1
    have hq := hV.2 c17
    obtain ⟨-, q1, q2⟩ := sq_nn hq
    obtain ⟨ix, vx⟩ := ix_st hq
    obtain ⟨f7, f6⟩ := r7 (Or.inl c17)
    have eh : ho9 du c r.1 = cp9 (Int32.toInt64 (r.1.1 (nn9 c.2.1))) c.2.2.1 (Int32.toInt64 c.2.2.2) := (if_neg (by rw [c17]; decide)).trans (if_pos c17)
    rw [eh] at hQ
    rw [ix, h.1 _ q1 q2, f7, f6]
    exact ⟨vx, fun z => absurd k1 z, fun _ => ⟨v6, v7, leafC9 v7 hQ⟩⟩
  · have c16 := s0 k0
    have hk := hV.1 (Or.inl c16)
    have nk := (mn_nn hk hm).1
    have eh : ho9 du c r.1 = decide (lg_cmp (Int64.ofInt (lk9 du r.1.2.1 (nn9 c.2.1))) 0 = (0 : Int32)) := if_pos c16
    rw [eh] at hQ
    refine px_lackOf hk hm h (hb.hv0 _ nk) hd (hs _ nk) (fun y hy => ?_)
    rw [← of9 hy] at hQ
    refine ⟨fun z => ⟨Or.inl rfl, ?_⟩, fun z => ⟨Or.inr rfl, ?_⟩⟩
    · rw [bo9_f z] at hQ; exact hQ
    · rw [bo9_t z] at hQ; exact hQ
end RNE
end PT14x3
section PT14x4
/-! ===== the reference lives its days: its steps, block in block ===== -/
noncomputable def Ev9 (s : DS) (M : Nat) (m od : Int32) (du : Du9) (I0 : Im) : Prop :=
  (I0 102 0 = m ∧ I0 102 1 = od ∧ DuR M du I0) ∧ (m.toInt = (M : Int) ∧ M ≤ 6) ∧ (∀ k, k < M → sh (du k).1 (du k).2) ∧ dN s ≤ 30 ∧
  ∀ t, t < dN s → (I0 102 (54 + 9 * t) = kcR (dC s (dSp s t)).1 ∧ RcO (dC s (dSp s t)) (I0 102) (54 + 9 * t) ∧ I0 102 (54 + 9 * t + 8) = nI (dNx s t)) ∧ VA9 m (dC s (dSp s t)) ∧ VC9 m (dC s (dSp s t))
/-- in the midst of a run -/
noncomputable def In9 (M : Nat) (I0 : Im) (J : Jm) (n : Nat) (r : Rn9) (I : Im) : Prop := FrRz9 I0 J I J ∧ RfM M n r I ∧ n ≤ 300 ∧ RB9 M r
section RNF
variable {I0 I : Im} {J : Jm} {R : Rm} {Q : Qt} {M n : Nat} {r : Rn9} {m od : Int32} {s : DS} {du : Du9}
theorem In9.i {j : Nat} (h : In9 M I0 J n r I) (hj : j = 0 ∨ j = 1 ∨ (34 ≤ j ∧ j ≤ 45) ∨ 52 ≤ j) : I 102 j = I0 102 j := h.1.i (fun q => by rcases q with ⟨-, q⟩ | q <;> omega)
theorem In9.dus (h : In9 M I0 J n r I) (hM : M ≤ 6) (hd : DuR M du I0) : DuR M du I := fun k hk => by
  rw [h.i (j := 34 + k) (by omega), h.i (j := 40 + k) (by omega)]; exact hd k hk
theorem In9.rc {c : CD} {w : Nat} (h : In9 M I0 J n r I) (hw : 52 ≤ w) (hr : RcO c (I0 102) w) : RcO c (I 102) w := hr.cp (fun k k1 _ => h.i (by omega))
theorem ew9 {t : Nat} (ht : t < 30) : (54 : Int32) + 9 * nI t = nI (54 + 9 * t) := by
  have e9 : (9 : Int32) * nI t = nI (9 * t) := by rw [show (9 : Int32) = nI 9 from rfl]; exact nI_mul (by omega) (by omega) (by omega)
  rw [e9, show (54 : Int32) = nI 54 from rfl]
  exact nI_add 54 (9 * t)
end RNF
end PT14x4
