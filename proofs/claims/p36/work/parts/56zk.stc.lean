section PT16x6
section TRC
variable {I : Im} {J : Jm} {R : Rm} {Q : Qt}
/-- the tray's object -/
theorem tr9_o (hR : RI R) {a : Int32} (h : tr9 a) : vp_in a 4 ∧ (¬ R 2 (Int32.toNatClampNeg a) = 0 ∧ isO 112 (R 2 (Int32.toNatClampNeg a)) 10 = true) ∧ R 2 (Int32.toNatClampNeg a) = 53 + 2 * nn9 a := by
  obtain ⟨n4, v4⟩ := tr9_n h
  have n4' : Int32.toNatClampNeg a < 4 := n4
  exact ⟨v4, hR.tray _ (by omega), hR.tr _ n4'⟩
theorem px_tst9 {d : Nat} {v : Int32} (hR : RI R) (hY : tr9 v → 0 ≤ (trL9 I (nn9 v)).toInt → Q 0 0 I J R) (hN : ¬ (tr9 v ∧ 0 ≤ (trL9 I (nn9 v)).toInt) → ∀ x : Int32, ¬ x = 0 → Q x 0 I J R) : AM (d + 2) 156 112 [.ref 1, .int v] I J R Q := by
  have z0 : (0 : Int32).toInt = 0 := rfl
  refine w_X11_trayStatus (px_tr9 (fun h _ => ⟨fun _ => ?_, fun z => absurd z (by decide)⟩) (fun h _ => ⟨fun z => absurd rfl z, fun _ => hN (fun z => h z.1) 1 (by decide)⟩))
  obtain ⟨v4, ⟨r0, rO⟩, rt⟩ := tr9_o hR h
  refine ⟨v4, r0, bif_t rO (w_X10_isMissing (bif_t rO ⟨fun c => ⟨Or.inl rfl, fun _ => ⟨fun _ => hY h ?_, fun z => absurd rfl z⟩⟩, fun c => ⟨Or.inr rfl, fun _ => ⟨fun z => absurd z (by decide), fun _ => hN (fun z => c ?_) 3 (by decide)⟩⟩⟩))⟩
  · rw [rt, le_i, z0] at c; exact c
  · rw [rt, le_i, z0]; exact z.2
theorem px_hp9 {d o : Nat} {a b : Int32} (hO : isO 112 o 10 = true) (hY : 0 ≤ a.toInt ∧ 0 ≤ b.toInt ∧ a.toInt + b.toInt ≤ (I o 1).toInt → Q 1 0 I J R) (hN : ¬ (0 ≤ a.toInt ∧ 0 ≤ b.toInt ∧ a.toInt + b.toInt ≤ (I o 1).toInt) → Q 0 0 I J R) : AM (d + 1) 97 112 [.ref o, .int a, .int b] I J R Q := by
  have z0 : (0 : Int32).toInt = 0 := rfl
  have ia := i32 a
  have ib := i32 b
  have ea : (Int32.toInt64 a).toInt = a.toInt := tl_i2l rfl
  have eb : (Int32.toInt64 b).toInt = b.toInt := tl_i2l rfl
  have el : (Int32.toInt64 (I o 1)).toInt = (I o 1).toInt := tl_i2l rfl
  have es : (Int32.toInt64 a + Int32.toInt64 b).toInt = a.toInt + b.toInt := tl_add ea eb (by omega)
  refine w_X10_hasPlaces ⟨fun c => ⟨Or.inl rfl, hN (fun z => ?_)⟩, fun c1 => ⟨fun c => ⟨Or.inl rfl, hN (fun z => ?_)⟩, fun c2 => bif_t hO ⟨fun c => ⟨Or.inl rfl, hN (fun z => ?_)⟩, fun c => ⟨Or.inr rfl, hY ?_⟩⟩⟩⟩
  · rw [Int32.lt_iff_toInt_lt, z0] at c; have := z.1; omega
  · rw [Int32.lt_iff_toInt_lt, z0] at c; have := z.2.1; omega
  · rw [lg_cmp_gt] at c
    have := cl_lt el es c
    have := z.2.2
    omega
  · rw [lg_cmp_gt] at c
    have := cl_nlt el es c
    rw [Int32.lt_iff_toInt_lt, z0] at c1 c2
    exact ⟨by omega, by omega, by omega⟩
theorem px_pl9 {d : Nat} {a b : Int32} (hR : RI R) (hY : okP9 (trL9 I) a b → Q 0 0 I J R) (hN : ¬ okP9 (trL9 I) a b → ∀ x : Int32, ¬ x = 0 → Q x 0 I J R) : AM (d + 3) 157 112 [.ref 1, .int a, .int b] I J R Q := by
  have z1 : (1 : Int32).toInt = 1 := rfl
  refine w_X11_placeStatus (px_tst9 hR (fun h hl => ⟨fun _ => ?_, fun z => absurd rfl z⟩) (fun h x hx => ⟨fun z => absurd z hx, fun _ => hN (fun y => h ⟨y.1, by have := y.2.1; have := y.2.2; omega⟩) x hx⟩))
  obtain ⟨v4, ⟨r0, rO⟩, rt⟩ := tr9_o hR h
  have eL : (I (R 2 (Int32.toNatClampNeg a)) 1).toInt = (trL9 I (nn9 a)).toInt := by rw [rt]; rfl
  refine ⟨v4, r0, bif_t rO (px_hp9 rO (fun q _ => ⟨fun z => absurd z (by decide), fun _ => hY ⟨h, ?_⟩⟩) (fun q _ => ⟨fun _ => hN (fun y => q ?_) 4 (by decide), fun z => absurd rfl z⟩))⟩
  · rw [eL, z1] at q
    exact ⟨q.1, by omega⟩
  · rw [eL, z1]
    have := y.2.1
    have := y.2.2
    exact ⟨by omega, by omega, by omega⟩
theorem px_put9 {d o : Nat} {p : Int32} {v : Int64} (hB : Bd I) (hO : isO 112 o 10 = true) (hY : 0 ≤ p.toInt ∧ p.toInt < (I o 1).toInt → Q 0 0 I (uJ J (o + 1) (nn9 p) (trm9 (I o 0) v)) R) (hN : ¬ (0 ≤ p.toInt ∧ p.toInt < (I o 1).toInt) → Q 0 0 I J R) : AM (d + 2) 98 112 [.ref o, .int p, .long v] I J R Q := by
  obtain ⟨a1, l1, -⟩ := fa_10_2 hO
  have z1 : (1 : Int32).toInt = 1 := rfl
  have hb := Bd.o hB hO bd9_10_1
  refine w_X10_put (bif_t hO (px_hp9 hO (fun h _ => ⟨fun z => absurd z (by decide), fun _ => ?_⟩) (fun h _ => ⟨fun _ => hN (fun z => h (by rw [z1]; exact ⟨z.1, by decide, by omega⟩)), fun z => absurd rfl z⟩)))
  rw [z1] at h
  have key := hY ⟨h.1, by omega⟩
  have vp : vp_in p (aL (o + 1)) := by rw [l1]; exact vp_of (a := p.toInt) rfl h.1 (by omega)
  unfold trm9 at key
  refine bif_t hO (bif_t hO ⟨fun s0 => bif_t hO ⟨fun s1 => bif_t hO ⟨fun s2 => bif_t a1 ⟨vp, ?_⟩, fun s2 => bif_t a1 ⟨vp, ?_⟩⟩, fun s1 => bif_t a1 ⟨vp, ?_⟩⟩, fun s0 => bif_t a1 ⟨vp, ?_⟩⟩)
  · rw [if_neg s0, if_neg s1, if_neg s2] at key; exact key
  · rw [if_neg s0, if_neg s1, if_pos s2] at key; exact key
  · rw [if_neg s0, if_pos s1] at key; exact key
  · rw [if_pos s0] at key; exact key
/-- write(): the tray's number -/
noncomputable def HWr9 (I : Im) (J : Jm) (a b : Int32) (v : Int64) (J1 : Jm) : Prop := (okP9 (trL9 I) a b → J1 = uJ J (53 + 2 * nn9 a + 1) (nn9 b) (trm9 (trS9 I (nn9 a)) v)) ∧ (¬ okP9 (trL9 I) a b → J1 = J)
theorem cx_write9 {d : Nat} {a b : Int32} {v : Int64} (hB : Bd I) (hR : RI R) : AM (d + 4) 104 112 [.ref 1, .int a, .int b, .long v] I J R (fun _ _ _ J1 _ => HWr9 I J a b v J1) := by
  refine w_X11_write (px_pl9 hR (fun hk => ⟨fun _ => ?_, fun z => absurd rfl z⟩) (fun hk x hx => ⟨fun z => absurd z hx, fun _ => w_X11_deny ⟨Or.inl rfl, fun _ => ⟨Or.inl rfl, ⟨fun z => absurd z hk, fun _ => rfl⟩⟩⟩⟩))
  obtain ⟨v4, ⟨r0, rO⟩, rt⟩ := tr9_o hR hk.1
  have eL : (I (R 2 (Int32.toNatClampNeg a)) 1).toInt = (trL9 I (nn9 a)).toInt := by rw [rt]; rfl
  refine ⟨v4, r0, bif_t rO (px_put9 hB rO (fun h => w_X11_allow ⟨Or.inr rfl, fun _ => ⟨Or.inr rfl, ⟨fun _ => ?_, fun z => absurd hk z⟩⟩⟩) (fun h => absurd ?_ h))⟩
  · rw [rt]; rfl
  · rw [eL]; exact hk.2
/-- read() -/
noncomputable def HRd9 (L : Nat → Int32) (X : Nat → Nat → Int64) (a b : Int32) (y : Int64) : Prop := (okP9 L a b → y = X (nn9 a) (nn9 b)) ∧ (¬ okP9 L a b → y = -1)
/-- a row of longs filled -/
theorem px_fillL9 {d o : Nat} {v : Int64} (a1 : isA 112 o 1 = true) (l1 : aL o = 60) (hQ : ∀ J2 : Jm, (∀ k, k < 60 → J2 o k = v) → (∀ c, ¬ c = o → J2 c = J c) → Q 0 0 I J2 R) : AM (d + 1) 320 112 [.ref o, .long v] I J R Q := by
  refine am_J7_fill_d0a16 (fun P hc => ?_)
  have e60 : Int32.ofNat (aL o) = nI 60 := by rw [l1]; rfl
  have L : ∀ (f : Nat) (M : Jm), f ≤ 60 → (∀ k, k < 60 - f → M o k = v) → (∀ c, ¬ c = o → M c = J c) → P 6 112 [(0, .ref o), (1, .long v), (3, .int (nI (60 - f))), (4, .int (Int32.ofNat (aL o)))] [] I M R := by
    intro f
    induction f with
    | zero =>
      intro M _ h1 h2
      refine sg_J7_fill_d0a16_6 hc _ _ _ _ _ _ _ ⟨fun _ => hQ M h1 h2, fun c => ?_⟩
      rw [e60] at c
      exact absurd ((nle_nI (a := 60) (b := 60 - 0) (by omega) (by omega)).mpr (by omega)) c
    | succ f ih =>
      intro M hf h1 h2
      refine sg_J7_fill_d0a16_6 hc _ _ _ _ _ _ _ ⟨fun c => ?_, fun _ => bif_t a1 ⟨by rw [l1]; exact vp_nI (by omega) (by omega), ?_⟩⟩
      · rw [e60] at c
        exact absurd ((nle_nI (a := 60) (b := 60 - (f + 1)) (by omega) (by omega)).mp c) (by omega)
      · rw [tn_nI (by omega), show nI (60 - (f + 1)) + 1 = nI (60 - f) from by rw [nI_k1]; exact congrArg nI (by omega)]
        refine ih _ (by omega) (fun k hk => ?_) (fun c hc => (uJ_ne hc).trans (h2 c hc))
        by_cases q : k = 60 - (f + 1)
        · subst q; exact rj_eq
        · rw [rj_k q]; exact h1 k (by omega)
  have go : P 6 112 [(0, .ref o), (1, .long v), (3, .int 0), (4, .int (Int32.ofNat (aL o)))] [] I J R := L 60 J (by decide) (fun k hk => absurd hk (by omega)) (fun _ _ => rfl)
  refine sg_J7_fill_d0a16_0 hc _ _ _ _ _ ?_
  cases q : isA 112 o 0 with
  | true => exact go
  | false => exact bif_t a1 go
/-- tray() -/
noncomputable def HTr9 (J : Jm) (a b c : Int32) (J1 : Jm) : Prop := (okT9 a b c → (∀ k, k < 60 → J1 (53 + 2 * nn9 a + 1) k = 0) ∧ ∀ o, ¬ o = 53 + 2 * nn9 a + 1 → J1 o = J o) ∧ (¬ okT9 a b c → J1 = J)
theorem cx_tray9 {d : Nat} {a b c : Int32} (hR : RI R) : AM (d + 3) 103 112 [.ref 1, .int a, .int b, .int c] I J R (fun _ _ _ J1 _ => HTr9 J a b c J1) := by
  have z0 : (0 : Int32).toInt = 0 := rfl
  have z3 : (3 : Int32).toInt = 3 := rfl
  have z60 : (60 : Int32).toInt = 60 := rfl
  have no : ¬ okT9 a b c → ∀ s : Int32, AM (d + 2) 150 112 [.ref 1, .int s] I J R (fun x _ _ J1 _ => (x = 0 ∨ x = 1) → (((x : Int32) = 0 ∨ (x : Int32) = 1) ∧ HTr9 J a b c J1)) := fun hn s => w_X11_deny ⟨Or.inl rfl, fun _ => ⟨Or.inl rfl, fun z => absurd z hn, fun _ => rfl⟩⟩
  refine w_X11_tray (px_tr9 (fun h _ => ⟨fun z => absurd z (by decide), fun _ => ⟨fun q => no (fun z => ?_) 1, fun q1 => ⟨fun q2 => ⟨fun q3 => ⟨fun q4 => ?_, fun q4 => no (fun z => ?_) 6⟩, fun q3 => no (fun z => ?_) 5⟩, fun q2 => no (fun z => ?_) 1⟩⟩⟩) (fun h _ => ⟨fun _ => no (fun z => h z.1) 1, fun z => absurd rfl z⟩))
  · rw [Int32.lt_iff_toInt_lt, z0] at q; have := z.2.1.1; omega
  · rw [Int32.lt_iff_toInt_lt, z0] at q1
    rw [le_i, z3] at q2
    rw [le_i, z60] at q3
    rw [le_i, z0] at q4
    have hk : okT9 a b c := ⟨h, ⟨by omega, q2⟩, q4, q3⟩
    obtain ⟨v4, ⟨r0, rO⟩, rt⟩ := tr9_o hR h
    obtain ⟨a1, l1, -⟩ := fa_10_2 rO
    refine ⟨v4, r0, bif_t rO (w_X10_lay (bif_t rO (bif_t rO (bif_t rO (px_fillL9 a1 l1 (fun J2 h1 h2 => w_X11_allow ⟨Or.inr rfl, fun _ => ⟨Or.inr rfl, fun _ => ?_, fun z => absurd hk z⟩⟩))))))⟩
    rw [rt] at h1 h2
    exact ⟨h1, h2⟩
  · rw [le_i, z0] at q4; exact q4 z.2.2.1
  · rw [le_i, z60] at q3; exact q3 z.2.2.2
  · rw [le_i, z3] at q2; exact q2 z.2.1.2
end TRC
end PT16x6
section PT16x7
/-! ===== the trays' numbers: copyStore(), pour(), the scribe's ===== -/
noncomputable def okCs9 (L : Nat → Int32) (a b : Int32) : Prop := tr9 a ∧ (0 ≤ b.toInt ∧ b.toInt ≤ 30) ∧ b.toInt ≤ (L (nn9 a)).toInt
noncomputable def okU9 (L S : Nat → Int32) (a p b q n : Int32) : Prop := (tr9 a ∧ tr9 b) ∧ S (nn9 a) = S (nn9 b) ∧ (0 ≤ p.toInt ∧ 0 ≤ q.toInt ∧ 0 ≤ n.toInt) ∧ p.toInt + n.toInt ≤ (L (nn9 a)).toInt ∧ q.toInt + n.toInt ≤ (L (nn9 b)).toInt
/-- copyStore(): the tray's numbers -/
noncomputable def HCs9 (L S : Nat → Int32) (ST : Nat → Int32) (J : Jm) (a b : Int32) (J1 : Jm) : Prop := (okCs9 L a b → (∀ k, J1 (53 + 2 * nn9 a + 1) k = if k < nn9 b then trm9 (S (nn9 a)) (Int32.toInt64 (ST (k + 1))) else J (53 + 2 * nn9 a + 1) k) ∧ ∀ o, ¬ o = 53 + 2 * nn9 a + 1 → J1 o = J o) ∧ (¬ okCs9 L a b → J1 = J)
noncomputable def HPo9 (L S : Nat → Int32) (J : Jm) (a p b q n : Int32) (J1 : Jm) : Prop := (okU9 L S a p b q n → (∀ k, J1 (53 + 2 * nn9 b + 1) k = if nn9 q ≤ k ∧ k < nn9 q + nn9 n then J (53 + 2 * nn9 a + 1) (nn9 p + (k - nn9 q)) else J (53 + 2 * nn9 b + 1) k) ∧ ∀ o, ¬ o = 53 + 2 * nn9 b + 1 → J1 o = J o) ∧ (¬ okU9 L S a p b q n → J1 = J)
theorem cJ_v9 {J : Jm} {a0 a1 sp dp n k : Nat} : cJ J a0 a1 sp dp n a1 k = if dp ≤ k ∧ k < dp + n then J a0 (sp + (k - dp)) else J a1 k := by
  unfold cJ va_cpy
  rw [if_pos rfl]
section TRU
variable {I : Im} {J : Jm} {R : Rm} {Q : Qt}
theorem cx_copy9 {d : Nat} {a b : Int32} (hB : Bd I) (hR : RI R) : AM (d + 4) 117 112 [.ref 1, .int a, .int b] I J R (fun _ _ _ J1 _ => HCs9 (trL9 I) (trS9 I) (I (R 1 7 + 1)) J a b J1) := by
  have hO := hR.now.1
  obtain ⟨s1, sl, -⟩ := fa_0_0 hO
  have z0 : (0 : Int32).toInt = 0 := rfl
  have z30 : (30 : Int32).toInt = 30 := rfl
  refine am_X11_copyStore (fun P hc => ?_)
  have no : ¬ okCs9 (trL9 I) a b → ∀ s : Int32, AM (d + 3) 149 112 [.ref 1, .int s] I J R (fun x y I1 J1 R1 => HCs9 (trL9 I) (trS9 I) (I (R 1 7 + 1)) J a b J1) := fun hn s => w_X11_refuse ⟨fun z => absurd z hn, fun _ => rfl⟩
  refine sg_X11_copyStore_0 hc _ _ _ _ _ (w_X11_placesStatus (px_tst9 hR (fun h hl => ⟨fun _ => ?_, fun z => absurd rfl z⟩) (fun h x hx => ⟨fun z => absurd z hx, fun _ => ⟨fun z => absurd z hx, fun _ => no (fun y => h ⟨y.1, by have := y.2.1.1; have := y.2.2; omega⟩) x⟩⟩)))
  obtain ⟨v4, ⟨r0, rO⟩, rt⟩ := tr9_o hR h
  obtain ⟨a1, l1, -⟩ := fa_10_2 rO
  have hb := Bd.o hB rO bd9_10_1
  have eL : (I (R 2 (Int32.toNatClampNeg a)) 1).toInt = (trL9 I (nn9 a)).toInt := by rw [rt]; rfl
  refine ⟨v4, r0, bif_t rO ⟨fun c1 => ⟨fun _ => ⟨fun c => no (fun z => ?_) 5, fun c2 => ⟨fun c3 => ?_, fun c3 => no (fun z => ?_) 5⟩⟩, fun z => absurd rfl z⟩, fun c1 => ⟨fun z => absurd z (by decide), fun _ => no (fun z => ?_) 4⟩⟩⟩
  · rw [Int32.lt_iff_toInt_lt, z0] at c; have := z.2.1.1; omega
  · rw [le_i, eL] at c1
    rw [Int32.lt_iff_toInt_lt, z0] at c2
    rw [le_i, z30] at c3
    have hk : okCs9 (trL9 I) a b := ⟨h, ⟨by omega, c3⟩, c1⟩
    have nb : (nn9 b : Int) = b.toInt := by show (b.toInt.toNat : Int) = b.toInt; omega
    have eb : b = nI (nn9 b) := Int32.toInt_inj.mp (by rw [nI_toInt (by omega)]; omega)
    generalize nn9 b = n at nb eb
    have L : ∀ (f : Nat) (M : Jm), f ≤ n → (∀ k, M (53 + 2 * nn9 a + 1) k = if k < n - f then trm9 (trS9 I (nn9 a)) (Int32.toInt64 (I (R 1 7 + 1) (k + 1))) else J (53 + 2 * nn9 a + 1) k) → (∀ o, ¬ o = 53 + 2 * nn9 a + 1 → M o = J o) → P 36 112 [(0, .ref 1), (1, .int a), (2, .int b), (4, .int (nI (n + 1 - f)))] [] I M R := by
      intro f
      induction f with
      | zero =>
        intro M _ h1 h2
        refine sg_X11_copyStore_36 hc _ _ _ _ _ _ ⟨fun _ => w_X11_answer ⟨fun _ => ⟨?_, h2⟩, fun z => absurd hk z⟩, fun c => ?_⟩
        · have en : nn9 b = n := by rw [eb]; exact tn_nI (by omega)
          rw [en]; exact h1
        · rw [eb] at c
          exact absurd ((nlt_nI (b := n + 1 - 0) (by omega) (by omega)).mpr (by omega)) c
      | succ f ih =>
        intro M hf h1 h2
        have ed : n + 1 - (f + 1) = n - f := by omega
        rw [ed]
        have e1 : nI (n - f) - 1 = nI (n - f - 1) := nI_sub (b := 1) (by omega) (by omega)
        have en : nI (n - f) + 1 = nI (n + 1 - f) := by rw [nI_k1]; exact congrArg nI (by omega)
        refine sg_X11_copyStore_36 hc _ _ _ _ _ _ ⟨fun c => ?_, fun _ => ⟨v4, r0, hR.now.2, bif_t hO (bif_t s1 ⟨by rw [sl]; exact vp_nI (by omega) (by omega), bif_t rO ?_⟩)⟩⟩
        · rw [eb] at c
          exact absurd ((nlt_nI (by omega) (by omega)).mp c) (by omega)
        · rw [e1, en, tn_nI (by omega)]
          refine px_put9 hB rO (fun _ => ?_) (fun z => absurd (show 0 ≤ (nI (n - f - 1)).toInt ∧ (nI (n - f - 1)).toInt < (I (R 2 (Int32.toNatClampNeg a)) 1).toInt from by
            rw [eL, nI_toInt (by omega)]
            exact ⟨by omega, by omega⟩) z)
          have e3 : nn9 (nI (n - f - 1)) = n - f - 1 := tn_nI (by omega)
          rw [e3, rt]
          refine ih _ (by omega) (fun k => ?_) (fun o ho => (uJ_ne ho).trans (h2 o ho))
          by_cases q : k = n - f - 1
          · subst q
            rw [rj_eq, if_pos (by omega), show n - f - 1 + 1 = n - f by omega]
            rfl
          · rw [rj_k q, h1 k]
            by_cases y : k < n - (f + 1)
            · rw [if_pos y, if_pos (by omega)]
            · rw [if_neg y, if_neg (by omega)]
    have k := L n J (Nat.le_refl _) (fun k => by rw [Nat.sub_self, if_neg (by omega)]) (fun _ _ => rfl)
    rw [show n + 1 - n = 1 by omega] at k
    exact k
  · rw [le_i, z30] at c3; exact c3 z.2.1.2
  · rw [le_i, eL] at c1; exact c1 z.2.2
end TRU
end PT16x7
