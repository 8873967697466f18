section PT15x6
section W9E
variable {I I1 I2 : Im} {J J1 J2 : Jm} {R R1 R2 : Rm} {v w x : Int32}
theorem mx_learn9 {d : Nat} (hB : Bd I) : AM (d + 3) 269 112 [.ref 97, .int v, .int w] I J R (fun _ _ I2 J2 _ => FrLm9 I J I2 J2) := by
  have k0 := Bd.known0 hB
  have e1 : uI (uI I 97 1 0) 97 0 0 102 = I 102 := (uI_ne (by decide)).trans (uI_ne (by decide))
  have t3 : Int32.toNatClampNeg 3 = 3 := rfl
  have f0 : FrLm9 I J (uI (uI I 97 1 0) 97 0 0) J := (FrW.rf.u (Or.inr ⟨rfl, Or.inr rfl⟩)).u (Or.inr ⟨rfl, Or.inl rfl⟩)
  have f1 : ∀ z : Int32, FrLm9 I J (uI (uI (uI I 97 1 0) 97 0 0) 97 0 z) J := fun z => f0.u (Or.inr ⟨rfl, Or.inl rfl⟩)
  have f2 : ∀ z : Int32, FrLm9 I J (uI (uI (uI I 97 1 0) 97 0 0) 102 3 z) J := fun z => f0.u (Or.inl ⟨rfl, rfl⟩)
  have v3 : vp_in 3 1620 := vp_of (a := 3) rfl (by decide) (by decide)
  refine w_X12_learn (px_mSlice (fun l1 l2 _ => ⟨fun _ => ⟨v3, ?_⟩, fun c => absurd c (by decide)⟩) (fun hn _ => ⟨fun c => absurd rfl c, fun _ => w_X12_no ⟨Or.inl rfl, fun _ => ⟨Or.inl rfl, f1 _⟩⟩⟩))
  rw [t3, e1]
  exact px_isOf k0 l1 l2 (fun hi _ => ⟨fun c => ⟨v3, v3, Or.inr rfl, f2 _⟩, fun c => w_X12_no ⟨Or.inl rfl, fun _ => ⟨Or.inl rfl, f1 _⟩⟩⟩) (fun hi _ => ⟨fun c => ⟨v3, v3, Or.inr rfl, f2 _⟩, fun c => w_X12_no ⟨Or.inl rfl, fun _ => ⟨Or.inl rfl, f1 _⟩⟩⟩)
theorem W9.learn (hR : RI R) (h : W9 I R) (hC : FrLc9 (R 1 7) I J I1 J1) (hM : FrLm9 I1 J1 I2 J2) : W9 I2 R := by
  have n7 := now_9 hR
  have n9 := n9_p hR
  have cc : ∀ c, ¬ c = 1 → ¬ c = R 1 7 → ¬ c = 97 → ¬ c = 102 → I2 c = I c := fun c a1 a2 a3 a4 => (hM.c (fun k q => by rcases q with q | q <;> omega)).trans (hC.c (fun k q => by rcases q with q | q <;> omega))
  have ek : ∀ j, ¬ j = 3 → I2 102 j = I 102 j := fun j hj => (hM.i (fun q => by rcases q with q | q <;> omega)).trans (hC.i (fun q => by rcases q with q | q <;> omega))
  have eo : ∀ k, ¬ k = 2 → I2 (R 1 7) k = I (R 1 7) k := fun k hk => (hM.i (fun q => by rcases q with q | q <;> omega)).trans (hC.i (fun q => by rcases q with q | q <;> omega))
  have e23 : I2 97 23 = I 97 23 := (hM.i (fun q => by rcases q with q | q <;> omega)).trans (hC.i (fun q => by rcases q with q | q <;> omega))
  obtain ⟨q1, q2, q3⟩ := h.1
  have mm : mnN (I2 102) = mnN (I 102) := congrArg Int32.toNatClampNeg (ek 0 (by omega))
  obtain ⟨m6, mt, mi⟩ := q1.m
  obtain ⟨b1, b2, b3, b4⟩ := q2
  refine h.nw ⟨⟨⟨mnN (I 102), m6, (ek 0 (by omega)).trans mt⟩, fun d a1 a2 => ?_, fun j hj => ?_⟩, ⟨?_, ?_, fun d a1 a2 => ?_, fun j hj => ?_⟩, ?_, fun h0 => ?_⟩ e23 (fun j a1 a2 => ek j (by omega)) (fun c a1 a2 => cc c (by omega) (by omega) (by omega) (by omega))
  · rw [ek (3 + d) (by omega)]; exact q1.2.1 d a1 a2
  · rw [mm] at hj
    rw [ek (34 + j) (by omega), ek (40 + j) (by omega), ek (46 + j) (by omega)]; exact q1.2.2 j hj
  · rw [eo 1 (by omega), ek 1 (by omega)]; exact b1
  · rw [eo 3 (by omega), ek 2 (by omega)]; exact b2
  · rw [cc _ (by omega) (by omega) (by omega) (by omega), ek (3 + d) (by omega)]; exact b3 d a1 a2
  · rw [mm] at hj
    rw [cc (R 1 7 + 3) (by omega) (by omega) (by omega) (by omega), cc (R 1 7 + 4) (by omega) (by omega) (by omega) (by omega), cc (R 1 7 + 5) (by omega) (by omega) (by omega) (by omega), ek (34 + j) (by omega), ek (40 + j) (by omega), ek (46 + j) (by omega)]; exact b4 j hj
  · rw [cc _ (by omega) (by omega) (by omega) (by omega), ek 52 (by omega)]; exact q3.1
  · rw [ek 52 (by omega)] at h0
    obtain ⟨s, y1, y2, y3, y4, y5, y6, y7⟩ := q3.2 h0
    refine ⟨s, y1, y2, y3, y4, y5.cp (fun c a1 a2 => cc c (by omega) (by omega) (by omega) (by omega)), (ek 53 (by omega)).trans y6, fun t ht => ?_⟩
    obtain ⟨w1, w2, w3⟩ := y7 t ht
    exact ⟨(ek _ (by omega)).trans w1, w2.cp (fun k a1 a2 => ek k (by omega)), (ek _ (by omega)).trans w3⟩
/-! bakery() -/
theorem prP_hi {T : Nat → Int32} {e a b : Nat} {B B2 : BS} (h : BOk B) (hz : ∀ j, 52 ≤ j → B.1 j = 0) (hp : prP T e B a = .ok (B2, b)) : ∀ j, 52 ≤ j → B2.1 j = 0 := by
  unfold prP at hp
  split at hp
  · unfold prO at hp
    split at hp
    · obtain ⟨v, b1, h1, h2⟩ := rb_ok hp
      obtain ⟨u, b2, h3, h4⟩ := rb_ok h2
      cases h4
      intro j hj
      show upd B.1 1 v j = 0
      rw [upd_i (by omega)]; exact hz j hj
    · cases hp
  · split at hp
    · unfold prS at hp
      obtain ⟨v, b1, h1, h2⟩ := rb_ok hp
      have hv := tkN_in h1
      have hs := (tn_sl hv.1 hv.2).2.1
      split at h2
      · cases h2
      · obtain ⟨n, b3, h3, h4⟩ := rb_ok h2
        obtain ⟨u, b4, h5, h6⟩ := rb_ok h4
        cases h6
        intro j hj
        show upd B.1 (3 + Int32.toNatClampNeg v) n j = 0
        rw [upd_i (by omega)]; exact hz j hj
    · split at hp
      · unfold prM at hp
        split at hp
        · cases hp
        · rename_i q6
          obtain ⟨w, b1, h1, h2⟩ := rb_ok hp
          split at h2
          · obtain ⟨_, b2, _, h3⟩ := rb_ok h2
            obtain ⟨p, b3, hp3, h4⟩ := rb_ok h3
            obtain ⟨_, b4, _, h5⟩ := rb_ok h4
            obtain ⟨q, b5, hq5, h6⟩ := rb_ok h5
            obtain ⟨s, b6, hs6, h7⟩ := rb_ok h6
            obtain ⟨_, b7, _, h8⟩ := rb_ok h7
            cases h8
            have hm := h.1.m
            have hm5 : mnN B.1 ≤ 5 := by
              rcases Nat.lt_or_ge (mnN B.1) 6 with z | z
              · omega
              · exact absurd (by rw [hm.2, show mnN B.1 = 6 by omega]; rfl) q6
            intro j hj
            show upd (upd (upd (upd B.1 (34 + mnN B.1) p) (40 + mnN B.1) q) (46 + mnN B.1) s) 0 (B.1 0 + 1) j = 0
            rw [upd_i (by omega), upd_i (by omega), upd_i (by omega), upd_i (by omega)]; exact hz j hj
          · cases h2
      · split at hp
        · unfold prK at hp
          split at hp
          · obtain ⟨v, b1, h1, h2⟩ := rb_ok hp
            obtain ⟨u, b2, h3, h4⟩ := rb_ok h2
            cases h4
            intro j hj
            show upd B.1 3 v j = 0
            rw [upd_i (by omega)]; exact hz j hj
          · cases hp
        · cases hp
theorem prB_hi {T : Nat → Int32} {e : Nat} : ∀ (f : Nat) (B B2 : BS) (a b : Nat), BOk B → (∀ j, 52 ≤ j → B.1 j = 0) → prB T e f B a = .ok (B2, b) → ∀ j, 52 ≤ j → B2.1 j = 0 := by
  intro f
  induction f with
  | zero => intro B B2 a b _ hz h; cases h; exact hz
  | succ f ih =>
    intro B B2 a b hB hz h
    have e1 : prB T e (f + 1) B a = if tK (tok T e a) = 0 then .ok (B, a) else rb (prP T e B a) fun B b => prB T e f B b := rfl
    rw [e1] at h
    split at h
    · cases h; exact hz
    · obtain ⟨B3, b3, h1, h2⟩ := rb_ok h
      exact ih B3 B2 b3 b (bok_prP hB h1) (prP_hi hB hz h1) h2
theorem em_hi : ∀ j, 52 ≤ j → em0.1 j = 0 := fun j hj => by
  show (if j = 1 then (4 : Int32) else if j = 3 then 1073741823 else 0) = 0
  rw [if_neg (by omega), if_neg (by omega)]
theorem COk.w9 {C : Nat → Int32} (h : COk C) : CW9 C := by
  obtain ⟨⟨m, hm, e⟩, -, -, h4, h5⟩ := h
  refine ⟨⟨m, hm, e⟩, h4, fun k hk => ?_⟩
  obtain ⟨⟨a1, a2⟩, ⟨a3, a4⟩, a5, a6⟩ := h5 k hk
  have z1 : (1 : Int32).toInt = 1 := rfl
  have z30 : (30 : Int32).toInt = 30 := rfl
  have z99 : (99 : Int32).toInt = 99 := rfl
  refine ⟨⟨⟨?_, ?_⟩, ⟨?_, ?_⟩⟩, a5, by omega⟩ <;> rw [le_i] <;> omega
noncomputable abbrev WCe9 (o : Nat) : Nat → Nat → Prop := fun c k => (c = 1 ∧ k = 0) ∨ c = 3 ∨ c = 6 ∨ (o ≤ c ∧ c ≤ o + 5)
theorem px_cbZ9 {d n f : Nat} {Q : Qt} (hf : f ≤ 900) (hn : n ≤ f) (h1 : I 3 1 = nI f) (hJ : ∀ k, k < 22 → J 5 k = rsv.getD k 0) (hR : RI R)
    (hE : ∀ p I2 J2, prB (I 4) n (n + 1) em0 0 = .error p → FrW (WCe9 (R 1 8)) (VB (R 1 8)) I J I2 J2 → Q (-1) 0 I2 J2 R)
    (hK : ∀ B2 b I2 J2, prB (I 4) n (n + 1) em0 0 = .ok (B2, b) → BOk B2 → FrW (WC (R 1 8) (R 1 9)) (VB (R 1 8)) I J I2 J2 → BkC B2.1 B2.2.1 (R 1 8) I2 J2 → I2 (R 1 9) 0 = 0 → Q (B2.1 0) 0 I2 J2 (uR (uR R 1 7 (R 1 8)) 1 8 (R 1 7))) : AM (d + 8) 108 112 [.ref 1, .int (nI n)] I J R Q := by
  have hO := hR.spare.1
  have ho := o_ge hO
  have hP := hR.plan.1
  have hp := p_ge hP
  have hop := op_ne hO hP
  refine am2_of (k := kX11_bakery) rfl rfl rfl rfl rfl rfl (Nat.le_of_ble_eq_true rfl) (fun P hc => sg_X11_bakery_0 hc _ _ _ _ ⟨fun c => absurd c (nI_pos (by omega)), fun _ => ⟨fun _ => ?_, fun c => absurd ?_ c⟩⟩)
  · refine px_open hf hn h1 hJ (fun I2 J2 hF2 h2 h31 h33 => ⟨hR.spare.2, px_intoB ho hO h2 (fun p I3 J3 he hF3 hf3 _ => ?_) (fun B2 b I3 J3 he hF3 h3 hB3 hO3 _ => ?_)⟩)
    · refine ⟨fun q => absurd rfl q, fun _ => w_X11_refuse ⟨rfl, ?_⟩⟩
      exact hE p _ J3 he (((hF2.up (fun c k q => Or.inr (Or.inl q)) (fun _ _ q => Or.inl q)).tr (hF3.up (fun c k q => q.elim (fun z => Or.inr (Or.inl z.1)) (fun z => z.elim (fun y => Or.inr (Or.inr (Or.inl y))) (fun y => Or.inr (Or.inr (Or.inr y))))) (fun _ _ q => q))).u (Or.inl ⟨rfl, rfl⟩))
    · refine ⟨fun _ => ⟨hR.now.2, hR.spare.2, hR.spare.2, hR.now.2, ?_⟩, fun q => absurd q (by decide)⟩
      have e9 : uR (uR R 1 7 (R 1 8)) 1 8 (R 1 7) 1 9 = R 1 9 := by rw [uR_k (by decide), uR_k (by decide)]
      have e7 : uR (uR R 1 7 (R 1 8)) 1 8 (R 1 7) 1 7 = R 1 8 := by rw [uR_k (by decide), uR_s]
      rw [e9, e7]
      refine ⟨hR.plan.2, bif_t hP (px_forgetD hP ⟨hR.spare.2, bif_t hO (w_X11_answer ⟨rfl, ?_⟩)⟩)⟩
      have hFa : FrW (WC (R 1 8) (R 1 9)) (VB (R 1 8)) I J (uI (uI (uI (uI I3 (R 1 9) 0 0) (R 1 9) 1 0) (R 1 9) 2 0) 1 0 0) J3 := (((((hF2.up (fun c k q => Or.inr (Or.inl q)) (fun _ _ q => Or.inl q)).tr (hF3.up (fun c k q => q.elim (fun z => Or.inr (Or.inl z.1)) (fun z => z.elim (fun y => Or.inr (Or.inr (Or.inl y))) (fun y => Or.inr (Or.inr (Or.inr (Or.inl y)))))) (fun _ _ q => q))).u (Or.inr (Or.inr (Or.inr (Or.inr ⟨rfl, by omega⟩))))).u (Or.inr (Or.inr (Or.inr (Or.inr ⟨rfl, by omega⟩))))).u (Or.inr (Or.inr (Or.inr (Or.inr ⟨rfl, by omega⟩))))).u (Or.inl ⟨rfl, rfl⟩)
      have es : ∀ c, ¬ c = R 1 9 → ¬ c = 1 → uI (uI (uI (uI I3 (R 1 9) 0 0) (R 1 9) 1 0) (R 1 9) 2 0) 1 0 0 c = I3 c := fun c z1 z2 => (uI_ne z2).trans ((uI_ne z1).trans ((uI_ne z1).trans (uI_ne z1)))
      have e4 : uI (uI (uI I3 (R 1 9) 0 0) (R 1 9) 1 0) (R 1 9) 2 0 (R 1 8) 4 = B2.1 0 := by
        rw [rd_ne (by first | decide | omega), rd_ne (by first | decide | omega), rd_ne (by first | decide | omega)]; exact hB3.1.1
      rw [e4]
      refine hK B2 b _ J3 he hO3 hFa (hB3.1.cp (fun c z1 z2 => es c (by omega) (by omega)) rfl) ?_
      rw [rd_ne (by first | decide | omega), rd_k (by decide), rd_k (by decide), rd_eq]
  · rw [h1]; exact (nle_nI (by omega) (by omega)).mpr hn
noncomputable def bkF9 (f : Nat) (T : Nat → Int32) (v : Int32) : Prop := (v < 0 ∨ nI f < v) ∨ ∃ n p, n ≤ f ∧ v = nI n ∧ prB T n (n + 1) em0 0 = .error p
noncomputable def HBa9 (f : Nat) (T : Nat → Int32) (v : Int32) (I : Im) (J : Jm) (R : Rm) (I1 : Im) (J1 : Jm) (R1 : Rm) : Prop :=
  (bkF9 f T v ∧ FrW (WCe9 (R 1 8)) (VB (R 1 8)) I J I1 J1 ∧ R1 1 7 = R 1 7 ∧ R1 1 9 = R 1 9) ∨ ∃ n B b, n ≤ f ∧ v = nI n ∧ prB T n (n + 1) em0 0 = .ok (B, b) ∧ BOk B ∧ FrW (WC (R 1 8) (R 1 9)) (VB (R 1 8)) I J I1 J1 ∧ BkC B.1 B.2.1 (R 1 8) I1 J1 ∧ I1 (R 1 9) 0 = 0 ∧ R1 1 7 = R 1 8 ∧ R1 1 9 = R 1 9
theorem cx_bak9 {d : Nat} (hB : Bd I) (hR : RI R) (h3 : R3 I J) : AM (d + 8) 108 112 [.ref 1, .int v] I J R (fun _ _ I2 J2 R2 => HBa9 (fl I) (I 4) v I J R I2 J2 R2) := by
  obtain ⟨h1, h2⟩ := fl_bd hB
  rcases sp_v (v := v) h2 with q | ⟨n, hn, rfl⟩
  · exact px_cbN h2 h1 q (Or.inl ⟨Or.inl q, FrW.rf.u (Or.inl ⟨rfl, rfl⟩), rfl, rfl⟩)
  · exact px_cbZ9 h2 hn h1 h3.2.2 hR (fun p I2 J2 he hF => Or.inl ⟨Or.inr ⟨n, p, hn, rfl, he⟩, hF, rfl, rfl⟩) (fun B2 b I2 J2 he hO hF hC h0 => Or.inr ⟨n, B2, b, hn, rfl, he, hO, hF, hC, h0, by rw [uR_k (by decide), uR_s], by rw [uR_k (by decide), uR_k (by decide)]⟩)
theorem mx_bak9 {d f : Nat} {T : Nat → Int32} (hR : RI R) (h : W9 I R) (h1 : I1 97 8 = nI f) (h2 : f ≤ 900) (hT : Byt T) (hI : ∀ i, i < f → I1 101 i = T i) (H1 : HBa9 f T v I J R I1 J1 R1) : AM (d + 8) 233 112 [.ref 97, .int v] I1 J1 R1 (fun _ _ I2 _ R2 => R2 = R1 → W9 I2 R1) := by
  have hp := hR.rp.1
  have n9 := n9_p hR
  have clsF : FrW (WCe9 (R 1 8)) (VB (R 1 8)) I J I1 J1 → (∀ c, (R 1 7 ≤ c ∧ c ≤ R 1 7 + 5) ∨ (R 1 9 ≤ c ∧ c ≤ R 1 9 + 5) ∨ (61 ≤ c ∧ c ≤ 96) → I1 c = I c) ∧ I1 102 = I 102 ∧ I1 97 23 = I 97 23 := fun hF =>
    ⟨fun c hc => hF.c (fun k q => by rcases q with q | q | q | q <;> omega), hF.c (fun k q => by rcases q with q | q | q | q <;> omega), hF.i (fun q => by rcases q with q | q | q | q <;> omega)⟩
  have refF : ∀ {I2 : Im} {J2 : Jm}, FrQ I1 J1 I2 J2 → (∀ c, c ≤ 96 → I2 c = I1 c) ∧ (∀ j, 324 ≤ j → j < 1296 → I2 102 j = I1 102 j) ∧ I2 97 23 = I1 97 23 := fun hF =>
    ⟨fun c hc => hF.c (fun k q => by rcases q with q | q <;> omega), fun j a b => hF.i (fun q => by rcases q with q | q <;> omega), hF.i (fun q => by rcases q with q | q; exact absurd q.2 (by decide); omega)⟩
  have bad : ∀ n : Nat, n ≤ f → ¬ (nI n < 0 ∨ nI f < nI n) := fun n hn z => by
    rcases z with q | q
    · exact absurd q (nI_pos (by omega))
    · have := (nlt_nI (by omega) (by omega)).mp q; omega
  have fail : bkF9 f T v → FrW (WCe9 (R 1 8)) (VB (R 1 8)) I J I1 J1 → R1 1 7 = R 1 7 → R1 1 9 = R 1 9 → ∀ I2 J2, FrQ I1 J1 I2 J2 → (∀ k, k < 1296 → I2 102 k = I1 102 k) → W9 I2 R1 := fun _ hF e7 e9 I2 J2 hF2 ek => by
    obtain ⟨c1, c2, c3⟩ := clsF hF
    obtain ⟨r1, r2, r3⟩ := refF hF2
    exact h.old hR e7 e9 (fun c hc => (r1 c (by omega)).trans (c1 c hc)) (fun j hj => (ek j hj).trans (congrFun c2 j)) (r3.trans c3)
  rcases sp_v (v := v) h2 with q | ⟨n, hn, rfl⟩
  · refine px_mbN h2 h1 q (fun I2 hF _ _ _ e102 _ => ?_)
    rcases H1 with ⟨z, hF1, e7, e9⟩ | ⟨n, B, b, hn, rfl, -⟩
    · exact fail z hF1 e7 e9 I2 J1 hF (fun k _ => congrFun e102 k)
    · exact absurd q (bad n hn)
  · refine px_mbY h2 hn h1 hT hI (fun p I2 J2 he hF _ _ l1 _ _ => ?_) (fun B2 b I2 J2 he hO hF _ _ _ g1 g2 _ => ?_)
    · rcases H1 with ⟨z, hF1, e7, e9⟩ | ⟨n2, B, b, hn2, en, hp2, -⟩
      · exact fail z hF1 e7 e9 I2 J2 hF l1
      · have := (nK (a := n) (b := n2) (by omega) (by omega)).mp en
        subst this
        rw [he] at hp2; cases hp2
    · rcases H1 with ⟨z, hF1, e7, e9⟩ | ⟨n2, B, b3, hn2, en, hp2, hO1, hF1, hC, h0, e7, e9⟩
      · exfalso
        rcases z with z | ⟨n2, p, hn2, en, hp2⟩
        · exact bad n hn z
        · have := (nK (a := n) (b := n2) (by omega) (by omega)).mp en
          subst this
          rw [he] at hp2; cases hp2
      · have := (nK (a := n) (b := n2) (by omega) (by omega)).mp en
        subst this
        rw [he] at hp2
        injection hp2 with hp2
        injection hp2 with eB eb
        subst eB
        have hz := prB_hi (n + 1) em0 B2 0 b BOk.em em_hi he
        obtain ⟨r1, r2, r3⟩ := refF hF
        obtain ⟨k4, k1, k3, k2, ks, kk⟩ := hC
        have c102 : I1 102 = I 102 := hF1.c (fun k q => by rcases q with q | q | q | q | q <;> omega)
        have kc : ∀ c, 61 ≤ c → c ≤ 96 → I1 c = I c := fun c a a2 => hF1.c (fun k q => by rcases q with q | q | q | q | q <;> omega)
        refine h.nw (R2 := R1) ?_ (r3.trans (hF1.i (fun q => by rcases q with q | q | q | q | q <;> omega))) (fun j a a2 => (r2 j a a2).trans (congrFun c102 j)) (fun c a a2 => (r1 c (by omega)).trans (kc c a a2))
        rw [e7, e9]
        refine ⟨hO.1.w9.cg (fun i hi => g1 i (by omega)), ?_, ?_, fun z => absurd ?_ z⟩
        · have hA : BA99 (R 1 8) B2.1 I2 := by
            refine ⟨?_, ?_, fun d a a2 => ?_, fun k hk => ?_⟩
            · rw [r1 _ (by omega)]; exact k1
            · rw [r1 _ (by omega)]; exact k3
            · rw [r1 _ (by omega)]; exact ks d a a2
            · rw [r1 _ (by omega), r1 _ (by omega), r1 _ (by omega)]; exact (kk k hk).2
          exact hA.cg hO.1.m.1 (fun i hi => g1 i (by omega))
        · rw [r1 _ (by omega), g1 52 (by omega), hz 52 (by omega)]; exact h0
        · rw [g1 52 (by omega)]; exact hz 52 (by omega)
end W9E
end PT15x6
