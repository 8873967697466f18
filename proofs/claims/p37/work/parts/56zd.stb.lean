section PT15x1
noncomputable def okasL9 : List Value → Bool
  | [] => true
  | .ref a :: r => !badL9 a && okasL9 r
  | _ :: r => okasL9 r
theorem okasL9_kv : ∀ as : List Value, okasL9 as = true → kvS badL9 as := by
  intro as
  induction as with
  | nil => intro _; exact kvS.n
  | cons v r ih =>
    intro h
    cases v with
    | ref a =>
      unfold okasL9 at h
      rw [Bool.and_eq_true, Bool.not_eq_true'] at h
      exact kvS.c (kvO.rf h.1) (ih h.2)
    | _ => exact kvS.c (fun _ q => by cases q) (ih h)
/-- all that comes to those and is not pure: X11_live, X11_mean, X12_live, X12_lived, X4_act, X4_addLoaves, X4_behindStep, X4_cutUp, X4_doAny, X4_draw, X4_handOver, X4_run, X4_splitUp -/
noncomputable def dtyL9 : List Nat := [0, 27, 32, 40, 41, 43, 46, 47, 48, 49, 50, 51, 52, 53, 58, 74, 85, 88, 94, 99, 144, 146, 172, 313, 314]
set_option maxRecDepth 100000 in
theorem clL9 : ClT pul dtyL9 okgL9 okpL9 := ClT.ef (by decide +kernel)
theorem kpL9 {d mi n : Nat} {as : List Value} {I : Im} {J : Jm} {R : Rm} {Q : Qt} (hd : dtyL9.elem mi = false) (hR : RI R) (ha : okasL9 as = true) (h : AM d mi n as I J R (fun x y I' J' R' => KL9 I I' → Q x y I' J' R')) : AM d mi n as I J R Q :=
  AM_w (F := fun I' _ _ => KL9 I I') pul_kk clL9 gf_L9 stg_L9 hd (okasL9_kv as ha) (HRf_L9 hR) KL9.rf h
end PT15x1
section PT15x2
/-! ===== the stores, the dues, the days: both sides alike ===== -/
/-- a bakery's block: as the document's numbers go -/
noncomputable def CW9 (C : Nat → Int32) : Prop := (∃ m, m ≤ 6 ∧ C 0 = nI m) ∧ (∀ d, 1 ≤ d → d ≤ 30 → 0 ≤ (C (3 + d)).toInt ∧ (C (3 + d)).toInt ≤ 99) ∧ ∀ k, k < mnN C → sh (C (34 + k)) (C (40 + k)) ∧ 0 ≤ (C (46 + k)).toInt ∧ (C (46 + k)).toInt ≤ 1073741823
/-- the class's bakery at o holds the block -/
noncomputable def BA99 (o : Nat) (C : Nat → Int32) (I : Im) : Prop := I o 1 = C 1 ∧ I o 3 = C 2 ∧ (∀ d, 1 ≤ d → d ≤ 30 → I (o + 1) d = C (3 + d)) ∧ ∀ k, k < mnN C → I (o + 3) k = C (34 + k) ∧ I (o + 4) k = C (40 + k) ∧ I (o + 5) k = C (46 + k)
/-- the class's days at p are the block's -/
noncomputable def DG9 (p : Nat) (C : Nat → Int32) (I : Im) (s : DS) : Prop := DOk s ∧ Wf9 s ∧ dD s = 0 ∧ DSp s ∧ SDc s p I ∧ C 53 = nI (dN s) ∧ ∀ t, t < dN s → C (54 + 9 * t) = kcR (dC s (dSp s t)).1 ∧ RcO (dC s (dSp s t)) C (54 + 9 * t) ∧ C (54 + 9 * t + 8) = nI (dNx s t)
noncomputable def DH9 (p : Nat) (C : Nat → Int32) (I : Im) : Prop := I p 0 = C 52 ∧ (¬ C 52 = 0 → ∃ s, DG9 p C I s)
noncomputable def KW9 (C : Nat → Int32) (o p : Nat) (I : Im) : Prop := CW9 C ∧ BA99 o C I ∧ DH9 p C I
noncomputable def blk9 (c : Nat) (I : Im) : Nat → Int32 := fun j => I 102 (c + j)
noncomputable def W9 (I : Im) (R : Rm) : Prop := KW9 (I 102) (R 1 7) (R 1 9) I ∧ ∀ j : Nat, j < 3 → (j : Int) < (I 97 23).toInt → KW9 (blk9 (324 * (j + 1)) I) (61 + 12 * j) (67 + 12 * j) I
noncomputable def s9 (I : Im) : StS9 := (fun d => I 102 (3 + d), fun k => I 102 (46 + k), I 102 2)
noncomputable def du9 (I : Im) : Du9 := fun k => (I 102 (34 + k), I 102 (40 + k))
section W9S
variable {I I1 I2 : Im} {J J1 J2 : Jm} {R : Rm} {C : Nat → Int32} {o p : Nat} {s : DS}
theorem CW9.m (h : CW9 C) : mnN C ≤ 6 ∧ C 0 = nI (mnN C) ∧ (C 0).toInt = (mnN C : Int) := by
  obtain ⟨⟨m, hm, e⟩, _⟩ := h
  rw [mnN_of hm e]
  exact ⟨hm, e, by rw [e]; exact nI_toInt (by omega)⟩
theorem SDc.cp (h : SDc s p I) (e : ∀ c, p ≤ c → c ≤ p + 5 → I2 c = I c) : SDc s p I2 := by
  refine ⟨by rw [e p (by omega) (by omega)]; exact h.1, fun k hk => ?_⟩
  rw [e (p + 1) (by omega) (by omega), e (p + 2) (by omega) (by omega), e (p + 3) (by omega) (by omega), e (p + 4) (by omega) (by omega), e (p + 5) (by omega) (by omega)]
  exact h.2 k hk
theorem DH9.cp (h : DH9 p C I) (e : ∀ c, p ≤ c → c ≤ p + 5 → I2 c = I c) : DH9 p C I2 := by
  refine ⟨by rw [e p (by omega) (by omega)]; exact h.1, fun h0 => ?_⟩
  obtain ⟨s, h1, h2, h3, h4, h5, h6⟩ := h.2 h0
  exact ⟨s, h1, h2, h3, h4, h5.cp e, h6⟩
theorem BA99.cp (h : BA99 o C I) (e1 : I2 o 1 = I o 1) (e3 : I2 o 3 = I o 3) (e : ∀ c, (c = o + 1 ∨ c = o + 3 ∨ c = o + 4 ∨ c = o + 5) → I2 c = I c) : BA99 o C I2 := by
  obtain ⟨h1, h2, h3, h4⟩ := h
  refine ⟨e1.trans h1, e3.trans h2, fun d a b => ?_, fun k hk => ?_⟩
  · rw [e (o + 1) (Or.inl rfl)]; exact h3 d a b
  · rw [e (o + 3) (by omega), e (o + 4) (by omega), e (o + 5) (by omega)]; exact h4 k hk
theorem pl_bp {R : Rm} (hR : RI R) : R 1 9 ∈ BP9 := by
  rcases hR.rp.2.1 with q | q <;> rw [q.1] <;> decide
theorem kd_bp {j : Nat} (hj : j < 3) : 67 + 12 * j ∈ BP9 := by
  rcases (show j = 0 ∨ j = 1 ∨ j = 2 by omega) with q | q | q <;> subst q <;> decide
theorem bp_five {c : Nat} (h : c ∈ BP9) : c = 21 ∨ c = 27 ∨ c = 67 ∨ c = 79 ∨ c = 91 := by simpa [BP9] using h
theorem KW99.bh (k : KW99 I I2) (ho : o ∈ BKL) (h : BA99 o C I) : BA99 o C I2 := by
  have e := k.2.1 o ho
  refine h.cp e.1 e.2 (fun c hc => k.1 c ?_)
  have h6 := bk_six ho
  rcases h6 with q | q | q | q | q <;> subst q <;> rcases hc with y | y | y | y <;> subst y <;> decide
theorem KW99.dh (k : KW99 I I2) (hp : p ∈ BP9) (h : DH9 p C I) : DH9 p C I2 := by
  refine h.cp (fun c h1 h2 => ?_)
  have h5 := bp_five hp
  by_cases q : c = p
  · subst q; exact k.2.2 c hp
  · refine k.1 c ?_
    rcases h5 with y | y | y | y | y <;> subst y
    · rcases (show c = 22 ∨ c = 23 ∨ c = 24 ∨ c = 25 ∨ c = 26 by omega) with y | y | y | y | y <;> subst y <;> decide
    · rcases (show c = 28 ∨ c = 29 ∨ c = 30 ∨ c = 31 ∨ c = 32 by omega) with y | y | y | y | y <;> subst y <;> decide
    · rcases (show c = 68 ∨ c = 69 ∨ c = 70 ∨ c = 71 ∨ c = 72 by omega) with y | y | y | y | y <;> subst y <;> decide
    · rcases (show c = 80 ∨ c = 81 ∨ c = 82 ∨ c = 83 ∨ c = 84 by omega) with y | y | y | y | y <;> subst y <;> decide
    · rcases (show c = 92 ∨ c = 93 ∨ c = 94 ∨ c = 95 ∨ c = 96 by omega) with y | y | y | y | y <;> subst y <;> decide
theorem W9.kp (hR : RI R) (h : W9 I R) (k : KW99 I I2) (e : I2 102 = I 102) (e23 : I2 97 23 = I 97 23) : W9 I2 R := by
  refine ⟨?_, fun j hj hm => ?_⟩
  · obtain ⟨h1, h2, h3⟩ := h.1
    rw [e]
    exact ⟨h1, k.bh (now_bk hR) h2, k.dh (pl_bp hR) h3⟩
  · rw [e23] at hm
    have eb : blk9 (324 * (j + 1)) I2 = blk9 (324 * (j + 1)) I := funext fun i => congrFun e _
    obtain ⟨h1, h2, h3⟩ := h.2 j hj hm
    rw [eb]
    exact ⟨h1, k.bh (kb_bk hj) h2, k.dh (kd_bp hj) h3⟩
theorem W9.r {R2 : Rm} (h : W9 I R) (e7 : R2 1 7 = R 1 7) (e9 : R2 1 9 = R 1 9) : W9 I R2 := by
  unfold W9 at h ⊢
  rw [e7, e9]; exact h
/-- what both sides' calls ask -/
theorem W9.hs (h : W9 I R) : HS9 (R 1 7) (mnN (I 102)) (s9 I) (s9 I) (du9 I) I := by
  obtain ⟨⟨h1, h2, -⟩, -⟩ := h
  have h6 := h1.m.1
  obtain ⟨c1, c2, c3⟩ := h1
  obtain ⟨b1, b2, b3, b4⟩ := h2
  have hb : StB (mnN (I 102)) (s9 I) := ⟨c2, fun i hi => (c3 i hi).2⟩
  exact ⟨⟨b3, fun k hk => (b4 k hk).2.2, b2⟩, ⟨fun _ _ _ => rfl, fun _ _ => rfl, rfl⟩, hb, hb, fun k hk => ⟨(b4 k hk).1, (b4 k hk).2.1⟩, fun _ _ => ⟨rfl, rfl⟩, h6⟩
/-- what the calls that change the store may write beside it -/
noncomputable abbrev WU9 (o : Nat) : Nat → Nat → Prop := fun c k => WBk o c k ∨ WRs c k ∨ c = 1 ∨ c = 49 ∨ c = 50 ∨ (c = 97 ∧ ¬ k = 23) ∨ c = 112
noncomputable abbrev FrU9 (o : Nat) (I : Im) (J : Jm) (I2 : Im) (J2 : Jm) : Prop := FrW (WU9 o) nV I J I2 J2
theorem FrCk.u9 (h : FrCk o I J I2 J2) : FrU9 o I J I2 J2 := FrW.up h (fun _ _ q => q.elim Or.inl (fun z => Or.inr (Or.inr (Or.inl z.1)))) (fun _ _ q => q)
theorem FrMk.u9 (h : FrMk I J I2 J2) : FrU9 o I J I2 J2 := FrW.up h (fun _ _ q => q.elim (fun z => Or.inr (Or.inl z)) (fun z => Or.inr (Or.inr (Or.inr (Or.inr (Or.inr (Or.inl ⟨z.1, by have := z.2; omega⟩))))))) (fun _ _ q => q)
theorem W9.op {s' : StS9} (hR : RI R) (h : W9 I R) (hF : FrU9 (R 1 7) I J I2 J2) (h9 : HS9 (R 1 7) (mnN (I 102)) s' s' (du9 I) I2) : W9 I2 R := by
  obtain ⟨hA, hB, hS, -, hdA, hdR, -⟩ := h9
  obtain ⟨⟨c0, b0, d0⟩, hk⟩ := h
  have h7 := bk_six (now_bk hR)
  have h9 := bp_five (pl_bp hR)
  have n7 := now_9 hR
  have n9 : R 1 9 = 21 ∨ R 1 9 = 27 := hR.rp.2.1.elim (fun q => Or.inl q.1) (fun q => Or.inr q.1)
  have keep : ∀ j, ¬ j = 2 → ¬ (4 ≤ j ∧ j ≤ 33) → ¬ (46 ≤ j ∧ j ≤ 51) → I2 102 j = I 102 j := fun j a b c => hF.i (fun q => by rcases q with (q | q | q) | q | q | q | q | q | q <;> omega)
  have em : mnN (I2 102) = mnN (I 102) := congrArg Int32.toNatClampNeg (keep 0 (by omega) (by omega) (by omega))
  have cell : ∀ c, 21 ≤ c → ¬ c = 49 → ¬ c = 50 → ¬ c = 97 → ¬ c = 102 → ¬ c = 112 → I2 c = I c := fun c a1 a2 a3 a4 a5 a6 => hF.c (fun k q => by rcases q with (q | q | q) | q | q | q | q | q | q <;> omega)
  have e23 : I2 97 23 = I 97 23 := hF.i (fun q => by rcases q with (q | q | q) | q | q | q | q | q | q <;> omega)
  have o1 : I2 (R 1 7) 1 = I (R 1 7) 1 := hF.i (fun q => by rcases q with (q | q | q) | q | q | q | q | q | q <;> omega)
  refine ⟨⟨?_, ?_, ?_⟩, fun j hj hm => ?_⟩
  · obtain ⟨⟨m, hm, e0⟩, c2, c3⟩ := c0
    refine ⟨⟨m, hm, (keep 0 (by omega) (by omega) (by omega)).trans e0⟩, fun d a b => ?_, fun k hk => ?_⟩
    · rw [hB.1 d a b]; exact hS.1 d a b
    · rw [em] at hk
      have := mnN_of hm e0
      rw [keep (34 + k) (by omega) (by omega) (by omega), keep (40 + k) (by omega) (by omega) (by omega), hB.2.1 k hk]
      exact ⟨(c3 k hk).1, hS.2 k hk⟩
  · obtain ⟨b1, b2, b3, b4⟩ := b0
    obtain ⟨⟨m, hm, e0⟩, -⟩ := c0
    have mm := mnN_of hm e0
    refine ⟨?_, ?_, fun d a b => ?_, fun k hk => ?_⟩
    · rw [o1, b1, keep 1 (by omega) (by omega) (by omega)]
    · rw [hA.2.2, hB.2.2]
    · rw [hA.1 d a b, hB.1 d a b]
    · rw [em] at hk
      refine ⟨?_, ?_, ?_⟩
      · rw [(hdA k hk).1, (hdR k hk).1]
      · rw [(hdA k hk).2, (hdR k hk).2]
      · rw [hA.2.1 k hk, hB.2.1 k hk]
  · have d1 := d0.cp (I2 := I2) (fun c a b => cell c (by omega) (by omega) (by omega) (by omega) (by omega) (by omega))
    refine ⟨by rw [d1.1, keep 52 (by omega) (by omega) (by omega)], fun h0 => ?_⟩
    rw [keep 52 (by omega) (by omega) (by omega)] at h0
    obtain ⟨s, g1, g2, g3, g4, g5, g6, g7⟩ := d1.2 h0
    refine ⟨s, g1, g2, g3, g4, g5, (keep 53 (by omega) (by omega) (by omega)).trans g6, fun t ht => ?_⟩
    obtain ⟨k1, k2, k3⟩ := g7 t ht
    exact ⟨(keep _ (by omega) (by omega) (by omega)).trans k1, k2.cp (fun k a b => keep k (by omega) (by omega) (by omega)), (keep _ (by omega) (by omega) (by omega)).trans k3⟩
  · rw [e23] at hm
    have eb : blk9 (324 * (j + 1)) I2 = blk9 (324 * (j + 1)) I := funext fun i => keep _ (by omega) (by omega) (by omega)
    obtain ⟨h1, h2, h3⟩ := hk j hj hm
    rw [eb]
    refine ⟨h1, h2.cp (congrFun (cell _ (by omega) (by omega) (by omega) (by omega) (by omega) (by omega)) 1) (congrFun (cell _ (by omega) (by omega) (by omega) (by omega) (by omega) (by omega)) 3) (fun c hc => cell c (by omega) (by omega) (by omega) (by omega) (by omega) (by omega)), h3.cp (fun c a b => cell c (by omega) (by omega) (by omega) (by omega) (by omega) (by omega))⟩
/-- bake, cut, split, give, take: both calls -/
theorem W9.two {s' : StS9} (hR : RI R) (h : W9 I R) (hC : FrCk (R 1 7) I J I1 J1) (hM : FrMk I1 J1 I2 J2) (h9 : HS9 (R 1 7) (mnN (I 102)) s' s' (du9 I) I2) : W9 I2 R := h.op hR (hC.u9.tr hM.u9) h9
end W9S
end PT15x2
section PT15x3
/-! ===== live(): both sides ===== -/
theorem va_of {c : CD} {f : Nat → Int32} {w : Nat} {m : Int32} {s lim : Int} (hk : f w = kcR c.1) (hr : RcO c f w) (h : Rec (f w).toInt (f (w + 1)).toInt (f (w + 2)).toInt (f (w + 3)).toInt (f (w + 5)).toInt (f (w + 8)).toInt s lim m.toInt) : VA9 m c ∧ VC9 m c := by
  obtain ⟨-, -, q0, q1, q2, q4, q6⟩ := h
  obtain ⟨r9, r2, r1, rT, -⟩ := hr
  rw [hk] at q0 q1 q2 q4 q6
  have z0 : (0 : Int32).toInt = 0 := rfl
  have z1 : (1 : Int32).toInt = 1 := rfl
  have z2 : (2 : Int32).toInt = 2 := rfl
  have z30 : (30 : Int32).toInt = 30 := rfl
  have z99 : (99 : Int32).toInt = 99 := rfl
  refine ⟨⟨fun e => ?_, fun e => ?_, fun e => ?_, fun e => ?_⟩, fun e => ?_, fun e => ?_⟩
  · obtain ⟨f1, f2, f3⟩ := r9 e
    have q := q0 (by rw [e]; rfl)
    rw [f1, f2, f3] at q
    refine ⟨⟨?_, ?_⟩, ⟨?_, ?_⟩, ⟨?_, ?_⟩⟩ <;> rw [le_i] <;> omega
  · obtain ⟨f1, f2⟩ := r2 (Or.inl e)
    have q := q1 (by rw [e]; rfl)
    rw [f1, f2] at q
    refine ⟨⟨?_, ?_⟩, ?_, ?_⟩ <;> rw [le_i] <;> omega
  · obtain ⟨f1, f2⟩ := r2 (Or.inr e)
    have q := q2 (e.elim (fun y => Or.inl (by rw [y]; rfl)) (fun y => Or.inr (by rw [y]; rfl)))
    rw [f1, f2] at q
    refine ⟨⟨?_, ?_⟩, ⟨?_, ?_⟩⟩
    · rw [le_i]; omega
    · rw [Int32.lt_iff_toInt_lt]; omega
    · rw [le_i]; omega
    · rw [le_i]; omega
  · have f1 := r1 (Or.inl e)
    have q := q4 (by rw [e]; rfl)
    rw [f1] at q
    refine ⟨?_, ?_⟩ <;> rw [le_i] <;> omega
  · have hT : isTs c.1 = true := by rcases e with e | e <;> rw [e] <;> rfl
    obtain ⟨f5, f1⟩ := rT hT
    have k6 : (kcR c.1).toInt = 6 := by rcases e with e | e <;> rw [e] <;> rfl
    have n5 : ¬ (teW c.1).toInt = 1 := by rcases e with e | e <;> rw [e] <;> decide
    have q := (q6 k6).2 (by rw [f5]; exact n5)
    rw [f1] at q
    refine ⟨?_, ?_⟩
    · rw [le_i]; omega
    · rw [Int32.lt_iff_toInt_lt]; omega
  · have hT : isTs c.1 = true := by rw [e]; rfl
    obtain ⟨f5, f1⟩ := rT hT
    have q := (q6 (by rw [e]; rfl)).1 (by rw [f5, e]; rfl)
    rw [f1] at q
    refine ⟨?_, ?_⟩ <;> rw [le_i] <;> omega
section LIV
variable {I I1 I2 : Im} {J J1 J2 : Jm} {R : Rm} {Q : Qt} {v x : Int32} {s : DS}
/-- what a run asks of the reference's block -/
theorem W9.ev (hB : Bd I) (h : W9 I R) (hd : ¬ I 102 52 = 0) (hg : DG9 (R 1 9) (I 102) I s) : Ev9 s (mnN (I 102)) (I 102 0) (I 102 1) (du9 I) I := by
  obtain ⟨⟨h1, -, -⟩, -⟩ := h
  obtain ⟨g1, g2, g3, g4, g5, g6, g7⟩ := hg
  have hm := h1.m
  refine ⟨⟨rfl, rfl, fun _ _ => ⟨rfl, rfl⟩⟩, ⟨hm.2.2, hm.1⟩, fun k hk => (h1.2.2 k hk).1, g1.1, fun t ht => ?_⟩
  obtain ⟨k1, k2, k3⟩ := g7 t ht
  have h52 : ¬ (I 102 52).toInt = 0 := fun z => hd (Int32.toInt_inj.mp z)
  have h53 : (I 102 53).toInt = (dN s : Int) := by rw [g6]; exact nI_toInt (by have := g1.1; omega)
  have hrec : Rec (I 102 (54 + 9 * t)).toInt (I 102 (54 + 9 * t + 1)).toInt (I 102 (54 + 9 * t + 2)).toInt (I 102 (54 + 9 * t + 3)).toInt (I 102 (54 + 9 * t + 5)).toInt (I 102 (54 + 9 * t + 8)).toInt (t : Int) (I 102 53).toInt (I 102 0).toInt := by
    have q := hB.ck.2.2 0 t (by decide) h52 (show (t : Int) < (I 102 53).toInt by omega)
    unfold RecOk at q
    rw [Nat.mul_zero, Nat.zero_add, Nat.zero_add] at q
    exact q
  have va := va_of k1 k2 hrec
  exact ⟨⟨k1, k2, k3⟩, va.1, va.2⟩
end LIV
end PT15x3
