/-! ===== has(), lacks(), worth(), oddsThat(): what they tell, both sides ===== -/
noncomputable def wvR (S : Nat → Int32) : Nat → Int → Int
  | 0, x => x
  | f + 1, x => wvR S f (x + (S (30 - f)).toInt * pt (30 - f))
theorem ix_w9 : ∀ n, n < 31 → 1 ≤ n → ((4 : Int32) + nI n) - 1 = nI (3 + n) := by decide +kernel
theorem lf_p : (0 : Int) < (2329089562800 : Int64).toInt := by decide
theorem lf_t : (2329089562800 : Int64).toInt = 2329089562800 := by decide
section FRW
variable {I I1 : Im} {J J1 : Jm} {R : Rm} {Q : Qt} {M : Nat}
theorem px_cr9 {d n : Nat} {p : Int32} (h1 : 1 ≤ n) (h2 : n ≤ 30) (hp : 0 ≤ p.toInt ∧ p.toInt ≤ 99) (hQ : ∀ y : Int64, y.toInt = p.toInt * pt n → Q 0 y I J R) : AM (d + 1) 167 112 [.int p, .int (nI n)] I J R Q := by
  obtain ⟨-, e2, e3⟩ := ptL n (by omega) h1
  obtain ⟨p1, p2, -⟩ := pt_b h1 h2
  have b0 : 0 ≤ p.toInt * pt n := Int.mul_nonneg hp.1 (Int.le_of_lt p1)
  have b1 : p.toInt * pt n ≤ 99 * 2329089562800 := Int.mul_le_mul hp.2 p2 (Int.le_of_lt p1) (by decide)
  refine w_X11_crumbs ⟨fun _ => ⟨e3, hQ _ (tl_mul9 (tl_i2l rfl) e2 ⟨by omega, by omega⟩)⟩, fun c => absurd ((nle_nI (a := 1) (by omega) (by omega)).mpr h1) c⟩
theorem wv_b {S : Nat → Int32} (hS : ∀ k, 1 ≤ k → k ≤ 30 → 0 ≤ (S k).toInt ∧ (S k).toInt ≤ 99) {f : Nat} (hf : f + 1 ≤ 30) : 0 ≤ (S (30 - f)).toInt * pt (30 - f) ∧ (S (30 - f)).toInt * pt (30 - f) ≤ 230579866717200 := by
  obtain ⟨p1, p2, -⟩ := pt_b (d := 30 - f) (by omega) (by omega)
  have hp := hS (30 - f) (by omega) (by omega)
  have b0 : 0 ≤ (S (30 - f)).toInt * pt (30 - f) := Int.mul_nonneg hp.1 (Int.le_of_lt p1)
  have b1 : (S (30 - f)).toInt * pt (30 - f) ≤ 99 * 2329089562800 := Int.mul_le_mul hp.2 p2 (Int.le_of_lt p1) (by decide)
  exact ⟨b0, by omega⟩
theorem wvR_0 {S : Nat → Int32} (hS : ∀ k, 1 ≤ k → k ≤ 30 → 0 ≤ (S k).toInt ∧ (S k).toInt ≤ 99) : ∀ (f : Nat) (a : Int), f ≤ 30 → 0 ≤ a → 0 ≤ wvR S f a := by
  intro f
  induction f with
  | zero => intro a _ h; exact h
  | succ f ih => intro a hf h; have := wv_b hS hf; exact ih _ (by omega) (by omega)
theorem px_stockCrumbs {e o : Nat} {s : StS9} (hO : isO 112 o 0 = true) (h : BkA o M s I) (hS : ∀ k, 1 ≤ k → k ≤ 30 → 0 ≤ (s.1 k).toInt ∧ (s.1 k).toInt ≤ 99) (hQ : ∀ y : Int64, y.toInt = wvR s.1 30 0 → Q 0 y I J R) : AM (e + 2) 8 112 [.ref o] I J R Q := by
  obtain ⟨a0, l0, -⟩ := fa_0_0 hO
  refine am_X0_stockCrumbs (fun P hc => sg_X0_stockCrumbs_0 hc _ _ _ _ ?_)
  have L : ∀ (f : Nat) (x : Int64) (a : Int), f ≤ 30 → x.toInt = a → 0 ≤ a ∧ a ≤ ((30 - f : Nat) : Int) * 230579866717200 → (∀ y : Int64, y.toInt = wvR s.1 f a → Q 0 y I J R) → P 4 112 [(0, .ref o), (1, .long x), (3, .int (nI (31 - f)))] [] I J R := by
    intro f
    induction f with
    | zero => intro x a _ hx _ hQ; exact sg_X0_stockCrumbs_4 hc _ _ _ _ _ _ ⟨fun _ => hQ x hx, fun c => absurd ((nlt_nI (a := 30) (b := 31 - 0) (by omega) (by omega)).mpr (by omega)) c⟩
    | succ f ih =>
      intro x a hf hx ha hQ
      have ed : 31 - (f + 1) = 30 - f := by omega
      have hb := wv_b hS hf
      have e1 : ((30 - (f + 1) : Nat) : Int) = ((30 - f : Nat) : Int) - 1 := by omega
      rw [e1] at ha
      rw [ed]
      refine sg_X0_stockCrumbs_4 hc _ _ _ _ _ _ ⟨fun c => absurd ((nlt_nI (a := 30) (by omega) (by omega)).mp c) (by omega), fun _ => bif_t hO (bif_t a0 ⟨by rw [l0]; exact vp_nI (by omega) (by omega), ?_⟩)⟩
      rw [tn_nI (by omega), h.1 (30 - f) (by omega) (by omega), nx30 hf]
      exact px_cr9 (by omega) (by omega) (hS _ (by omega) (by omega)) (fun y hy => ih _ _ (by omega) (tl_add hx hy (by omega)) (by omega) hQ)
  exact L 30 0 0 (by decide) rfl (by decide) hQ
theorem cf_worth {d : Nat} (hR : RI R) (h : W9 I R) : AM (d + 4) 116 112 [.ref 1] I J R (fun x _ _ J2 _ => FrX 1 1 2 True (wvR (s9 I).1 30 0) 2329089562800 J J2 x) := by
  have hO := hR.now.1
  have hs := h.hs
  refine w_X11_worth ⟨hR.now.2, bif_t hO (px_stockCrumbs hO hs.1 hs.2.2.1.1 (fun y hy => px_tell ?_ lf_p (fun _ => ⟨Or.inr rfl, FrX.yc hy lf_t trivial⟩)))⟩
  have := wvR_0 hs.2.2.1.1 30 0 (by decide) (by decide)
  omega
theorem mf_worth {d : Nat} (e102 : I1 102 = I 102) (h : W9 I R) : AM (d + 3) 253 112 [.ref 97] I1 J1 R (fun x _ _ J2 _ => FrX 97 2 3 True (wvR (s9 I).1 30 0) 2329089562800 J1 J2 x) := by
  have hs := h.hs
  have hS := hs.2.2.1.1
  have e : uI (uI I1 97 1 0) 97 0 0 102 = I 102 := ((uI_ne (by decide)).trans (uI_ne (by decide))).trans e102
  refine am_X12_worth (fun P hc => sg_X12_worth_0 hc _ _ _ ?_)
  have L : ∀ (f : Nat) (x : Int64) (a : Int), f ≤ 30 → x.toInt = a → 0 ≤ a ∧ a ≤ ((30 - f : Nat) : Int) * 230579866717200 → wvR (s9 I).1 f a = wvR (s9 I).1 30 0 → P 14 112 [(0, .ref 97), (1, .long x), (3, .int (nI (31 - f)))] [] (uI (uI I1 97 1 0) 97 0 0) J1 R := by
    intro f
    induction f with
    | zero =>
      intro x a _ hx ha hw
      refine sg_X12_worth_14 hc _ _ _ _ _ ⟨fun _ => px_frac (by omega) lf_p (fun _ => ⟨Or.inr rfl, FrX.ym (hx.trans hw) lf_t trivial⟩), fun c => absurd ((nlt_nI (a := 30) (b := 31 - 0) (by omega) (by omega)).mpr (by omega)) c⟩
    | succ f ih =>
      intro x a hf hx ha hw
      have ed : 31 - (f + 1) = 30 - f := by omega
      have hb := wv_b hS hf
      have e1 : ((30 - (f + 1) : Nat) : Int) = ((30 - f : Nat) : Int) - 1 := by omega
      rw [e1] at ha
      rw [ed]
      refine sg_X12_worth_14 hc _ _ _ _ _ ⟨fun c => absurd ((nlt_nI (a := 30) (by omega) (by omega)).mp c) (by omega), fun _ => ?_⟩
      rw [ix_w9 _ (by omega) (by omega), tn_nI (by omega), e, nx30 hf]
      refine ⟨vp_nI (by omega) (by omega), px_parts (by omega) (by omega) (fun y hy => ih _ _ (by omega) (tl_add hx (tl_mul9 (tl_i2l rfl) hy ?_) ?_) ?_ hw)⟩
      · have z : (I 102 (3 + (30 - f))).toInt * pt (30 - f) = ((s9 I).1 (30 - f)).toInt * pt (30 - f) := rfl
        omega
      · have z : (I 102 (3 + (30 - f))).toInt * pt (30 - f) = ((s9 I).1 (30 - f)).toInt * pt (30 - f) := rfl
        omega
      · have z : (I 102 (3 + (30 - f))).toInt * pt (30 - f) = ((s9 I).1 (30 - f)).toInt * pt (30 - f) := rfl
        omega
  exact L 30 0 0 (by decide) rfl (by decide) rfl
theorem cf_has {d : Nat} {v : Int32} (hB : Bd I) (hR : RI R) (em : I (R 1 7) 4 = I 102 0) (h : W9 I R) : AM (d + 5) 114 112 [.ref 1, .int v] I J R (fun x _ _ J2 _ => FrX 1 1 2 (hsP (I 102 0) v) (hvR ((s9 I).2.1 (nn9 v)) 30 0) 2329089562800 J J2 x) := by
  have hO := hR.now.1
  have hs := h.hs
  have hm := h.1.1.m
  refine w_X11_has ⟨hR.now.2, bif_t hO (cx_isMan hB hR (fun hn => ⟨fun z => absurd rfl z, fun _ => w_X11_deny ⟨Or.inl rfl, fun _ => ⟨Or.inl rfl, FrX.n (by rw [← em]; exact hn)⟩⟩⟩) (fun hy hv => ⟨fun _ => ⟨hR.now.2, bif_t hO ?_⟩, fun z => absurd z (by decide)⟩))⟩
  refine px_holding (M := mnN (I 102)) (s := s9 I) hO hy ⟨by rw [em]; exact hm.2.2, hm.1⟩ hs.1 (fun y hy2 => px_tell ?_ lf_p (fun _ => ⟨Or.inr rfl, FrX.yc hy2 lf_t (by rw [← em]; exact hy)⟩))
  have := (hvR_b (h := (s9 I).2.1 (nn9 v)) 30 0 (by decide) (by decide)).1
  omega
theorem tn46 {v : Int32} (h : 0 ≤ v.toInt ∧ v.toInt < 100) : (46 + v : Int32).toInt = 46 + v.toInt ∧ Int32.toNatClampNeg (46 + v) = 46 + nn9 v := by
  have e : (46 + v : Int32).toInt = 46 + v.toInt := ti_add rfl rfl (by omega)
  refine ⟨e, ?_⟩
  show (46 + v : Int32).toInt.toNat = 46 + v.toInt.toNat
  rw [e]; omega
theorem mf_has {d : Nat} {v : Int32} (hB1 : Bd I1) (e102 : I1 102 = I 102) (h : W9 I R) : AM (d + 5) 251 112 [.ref 97, .int v] I1 J1 R (fun x _ _ J2 _ => FrX 97 2 3 (hsP (I 102 0) v) (hvR ((s9 I).2.1 (nn9 v)) 30 0) 2329089562800 J1 J2 x) := by
  have hs := h.hs
  have hm := h.1.1.m
  have e : uI (uI I1 97 1 0) 97 0 0 102 = I 102 := ((uI_ne (by decide)).trans (uI_ne (by decide))).trans e102
  have hB2 : Bd (uI I1 97 1 0) := Bd.o0 hB1 (show isO 112 97 12 = true from rfl) (by decide) (show bnd 12 1 = none from rfl)
  have hB3 : Bd (uI (uI I1 97 1 0) 97 0 0) := Bd.o0 hB2 (show isO 112 97 12 = true from rfl) (by decide) (show bnd 12 0 = none from rfl)
  refine w_X12_has (mx_isMan hB3 (fun hn => ⟨fun _ => w_X12_no ⟨Or.inl rfl, fun _ => ⟨Or.inl rfl, FrX.n (by rw [e] at hn; exact hn)⟩⟩, fun z => absurd rfl z⟩) (fun hy hv => ⟨fun z => absurd z (by decide), fun _ => ?_⟩))
  rw [e] at hy hv
  obtain ⟨e46, t46⟩ := tn46 (v := v) ⟨hv.1, by omega⟩
  obtain ⟨nk, vk⟩ := mn_nn hy ⟨hm.2.2, hm.1⟩
  refine ⟨vp_of (a := 46 + v.toInt) e46 (by omega) (by omega), ?_⟩
  rw [e, t46]
  refine px_sumOf (hs.2.2.1.2 _ nk).1 (fun y hy2 => px_frac ?_ lf_p (fun _ => ⟨Or.inr rfl, FrX.ym hy2 lf_t hy⟩))
  have := (hvR_b (h := (s9 I).2.1 (nn9 v)) 30 0 (by decide) (by decide)).1
  have z : (s9 I).2.1 (nn9 v) = I 102 (46 + nn9 v) := rfl
  rw [z] at this
  omega
theorem lk_b9 {du : Du9} {hv : Nat → Int32} {k : Nat} (h : sh (du k).1 (du k).2) : -1000000000000000 ≤ lk9 du hv k := by
  have a := shL_b h
  have b := hvR_b (h := hv k) 30 0 (by decide) (by decide)
  unfold lk9
  omega
theorem cf_lacks {d : Nat} {v : Int32} (hB : Bd I) (hR : RI R) (em : I (R 1 7) 4 = I 102 0) (h : W9 I R) : AM (d + 6) 115 112 [.ref 1, .int v] I J R (fun x _ _ J2 _ => FrX 1 1 2 (hsP (I 102 0) v) (lk9 (du9 I) (s9 I).2.1 (nn9 v)) 2329089562800 J J2 x) := by
  have hO := hR.now.1
  have hs := h.hs
  have hm := h.1.1.m
  refine w_X11_lacks ⟨hR.now.2, bif_t hO (cx_isMan hB hR (fun hn => ⟨fun z => absurd rfl z, fun _ => w_X11_deny ⟨Or.inl rfl, fun _ => ⟨Or.inl rfl, FrX.n (by rw [← em]; exact hn)⟩⟩⟩) (fun hy hv => ⟨fun _ => ⟨hR.now.2, bif_t hO ?_⟩, fun z => absurd z (by decide)⟩))⟩
  have hmm : (I (R 1 7) 4).toInt = ((mnN (I 102) : Nat) : Int) ∧ mnN (I 102) ≤ 6 := ⟨by rw [em]; exact hm.2.2, hm.1⟩
  obtain ⟨nk, -⟩ := mn_nn hy hmm
  have hd := (h.1.1.2.2 _ nk).1
  refine px_lacking (M := mnN (I 102)) (s := s9 I) (du := du9 I) hO hy hmm hs.1 hs.2.2.2.2.1 hd (fun y hy2 => px_tell ?_ lf_p (fun _ => ⟨Or.inr rfl, FrX.yc hy2 lf_t (by rw [← em]; exact hy)⟩))
  have := lk_b9 (du := du9 I) (hv := (s9 I).2.1) (k := nn9 v) hd
  omega
theorem mf_lacks {d : Nat} {v : Int32} (hB1 : Bd I1) (e102 : I1 102 = I 102) (h : W9 I R) : AM (d + 6) 252 112 [.ref 97, .int v] I1 J1 R (fun x _ _ J2 _ => FrX 97 2 3 (hsP (I 102 0) v) (lk9 (du9 I) (s9 I).2.1 (nn9 v)) 2329089562800 J1 J2 x) := by
  have hs := h.hs
  have hm := h.1.1.m
  have e : uI (uI I1 97 1 0) 97 0 0 102 = I 102 := ((uI_ne (by decide)).trans (uI_ne (by decide))).trans e102
  have hB2 : Bd (uI I1 97 1 0) := Bd.o0 hB1 (show isO 112 97 12 = true from rfl) (by decide) (show bnd 12 1 = none from rfl)
  have hB3 : Bd (uI (uI I1 97 1 0) 97 0 0) := Bd.o0 hB2 (show isO 112 97 12 = true from rfl) (by decide) (show bnd 12 0 = none from rfl)
  refine w_X12_lacks (mx_isMan hB3 (fun hn => ⟨fun _ => w_X12_no ⟨Or.inl rfl, fun _ => ⟨Or.inl rfl, FrX.n (by rw [e] at hn; exact hn)⟩⟩, fun z => absurd rfl z⟩) (fun hy hv => ⟨fun z => absurd z (by decide), fun _ => ?_⟩))
  rw [e] at hy hv
  obtain ⟨nk, vk⟩ := mn_nn hy ⟨hm.2.2, hm.1⟩
  have hd := (h.1.1.2.2 _ nk).1
  have hrB : BkR (mnN (I 102)) (s9 I) (uI (uI I1 97 1 0) 97 0 0) := by unfold BkR; rw [e]; exact hs.2.1
  have hrD : DuR (mnN (I 102)) (du9 I) (uI (uI I1 97 1 0) 97 0 0) := by unfold DuR; rw [e]; exact hs.2.2.2.2.2.1
  refine px_lackOf (m := I 102 0) hy ⟨hm.2.2, hm.1⟩ hrB (hs.2.2.1.2 _ nk).1 hrD hd (fun y hy2 => px_frac ?_ lf_p (fun _ => ⟨Or.inr rfl, FrX.ym hy2 lf_t hy⟩))
  have := lk_b9 (du := du9 I) (hv := (s9 I).2.1) (k := nn9 v) hd
  omega
noncomputable def okO9 (K p q k v : Int32) : Prop := slQ v ∧ sh p q ∧ rz k ∧ ¬ wyN K p q k = 0
noncomputable def ofN9 (K p q k v : Int32) : Int := (cntR (rws (SA K) 30 k.toInt.toNat (shL p q)) (nn9 v) : Nat)
noncomputable def ofW9 (K p q k : Int32) : Int := (wyN K p q k : Nat)
theorem cf_oddsThat {d : Nat} {p q k v : Int32} (hR : RI R) (ek : I (R 1 7) 2 = I 102 3) : AM (d + 16) 130 112 [.ref 1, .int p, .int q, .int k, .int v] I J R (fun x _ _ J2 _ => FrX 1 1 2 (okO9 (I 102 3) p q k v) (ofN9 (I 102 3) p q k v) (ofW9 (I 102 3) p q k) J J2 x) := by
  have hO := hR.now.1
  refine w_X11_oddsThat (px_cSlQ (fun hv _ => ⟨fun _ => px_isShare (fun hs _ => ⟨fun z => absurd z (by decide), fun _ => px_isRowSize (fun hz _ => ⟨fun _ => ⟨hR.now.2, bif_t hO (px_crumbs hs (fun y hy => ?_))⟩, fun z => absurd z (by decide)⟩) (fun hz _ => ⟨fun z => absurd rfl z, fun _ => w_X11_deny ⟨Or.inl rfl, fun _ => ⟨Or.inl rfl, FrX.n (fun y => hz y.2.2.1)⟩⟩⟩)⟩) (fun hs _ => ⟨fun _ => w_X11_deny ⟨Or.inl rfl, fun _ => ⟨Or.inl rfl, FrX.n (fun y => hs y.2.1)⟩⟩, fun z => absurd rfl z⟩), fun z => absurd z (by decide)⟩) (fun hv _ => ⟨fun z => absurd rfl z, fun _ => w_X11_deny ⟨Or.inl rfl, fun _ => ⟨Or.inl rfl, FrX.n (fun y => hv y.1)⟩⟩⟩))
  rw [ek]
  have hb := shL_b hs
  obtain ⟨n, en, h5⟩ := rz_n hz
  subst en
  have hkn : (nI (n + 1)).toInt.toNat = n + 1 := by rw [nI_toInt (by omega)]; omega
  have hwy : wyN (I 102 3) p q (nI (n + 1)) = (rws (SA (I 102 3)) 30 (n + 1) (shL p q)).length := by unfold wyN; rw [hkn]
  have hof : ofN9 (I 102 3) p q (nI (n + 1)) v = (cntR (rws (SA (I 102 3)) 30 (n + 1) (shL p q)) (nn9 v) : Nat) := by unfold ofN9; rw [hkn]
  have hlen : (rws (SA (I 102 3)) 30 (n + 1) (shL p q)).length ≤ 2 ^ 30 := rws_len 30 (n + 1) _
  have h31 : (2 : Nat) ^ 30 < 2 ^ 31 := by decide
  have hw := cntR_le (d := nn9 v) (rws (SA (I 102 3)) 30 (n + 1) (shL p q)) (fun r hr => rws_cnt 30 (n + 1) _ r (by decide) hr _)
  obtain ⟨v1, v2⟩ := id hv
  rw [le_i] at v1 v2
  have e1 : (1 : Int32).toInt = 1 := rfl
  have e30 : (30 : Int32).toInt = 30 := rfl
  have vn : nn9 v ≤ 30 := by
    show v.toInt.toNat ≤ 30
    omega
  refine px_countAll h5 hy (by omega) (fun I2 e6 e8 _ => ?_)
  rw [← hwy] at e6 hlen hw
  refine ⟨fun c => ⟨vp_of (a := v.toInt) rfl (by omega) (by omega), ?_⟩, fun c => ?_⟩
  · have c0 : ¬ wyN (I 102 3) p q (nI (n + 1)) = 0 := fun z => c (by rw [e6, z]; rfl)
    have t1 : (Int32.toInt64 (I2 38 (Int32.toNatClampNeg v))).toInt = ofN9 (I 102 3) p q (nI (n + 1)) v := by
      rw [hof]
      exact tl_i2l ((congrArg Int32.toInt (e8 (nn9 v) vn)).trans (nI_toInt (by omega)))
    have t2 : (Int32.toInt64 (I2 35 6)).toInt = ofW9 (I 102 3) p q (nI (n + 1)) := tl_i2l (by rw [e6]; exact nI_toInt (by omega))
    have b1 : 0 ≤ ofN9 (I 102 3) p q (nI (n + 1)) v := by rw [hof]; exact Int.natCast_nonneg _
    have b2 : 0 < ofW9 (I 102 3) p q (nI (n + 1)) := by
      show (0 : Int) < ((wyN (I 102 3) p q (nI (n + 1)) : Nat) : Int)
      omega
    exact px_tell (by omega) (by omega) (fun _ => ⟨Or.inr rfl, FrX.yc t1 t2 ⟨hv, hs, hz, c0⟩⟩)
  · rw [e6] at c
    have z := (nI_z9 (by omega)).mp c
    exact w_X11_deny ⟨Or.inl rfl, fun _ => ⟨Or.inl rfl, FrX.n (fun y => y.2.2.2 z)⟩⟩
theorem mf_oddsThat {d : Nat} {p q k v : Int32} (hB1 : Bd I1) (e102 : I1 102 = I 102) : AM (d + 16) 278 112 [.ref 97, .int p, .int q, .int k, .int v] I1 J1 R (fun x _ _ J2 _ => FrX 97 2 3 (okO9 (I 102 3) p q k v) (ofN9 (I 102 3) p q k v) (ofW9 (I 102 3) p q k) J1 J2 x) := by
  have e : uI (uI I1 97 1 0) 97 0 0 102 = I 102 := ((uI_ne (by decide)).trans (uI_ne (by decide))).trans e102
  have hA := Bd.known0 hB1
  rw [e102] at hA
  have t3 : Int32.toNatClampNeg 3 = 3 := rfl
  refine w_X12_oddsThat (px_mSlQ (fun hv _ => ⟨fun _ => px_mShare (fun hs _ => ⟨fun z => absurd z (by decide), fun _ => px_isInI (lo := 1) (hi := 5) (fun l1 l2 _ => ⟨fun _ => px_shareOf hs (fun y hy => ⟨vp_of (a := 3) rfl (by decide) (by decide), ?_⟩), fun z => absurd z (by decide)⟩) (fun n1 _ => ⟨fun z => absurd rfl z, fun _ => w_X12_no ⟨Or.inl rfl, fun _ => ⟨Or.inl rfl, FrX.n (fun y => n1.elim (fun a => ile.mpr y.2.2.1.1 a) (fun a => a y.2.2.1.2))⟩⟩⟩)⟩) (fun hs _ => ⟨fun _ => w_X12_no ⟨Or.inl rfl, fun _ => ⟨Or.inl rfl, FrX.n (fun y => hs y.2.1)⟩⟩, fun z => absurd rfl z⟩), fun z => absurd z (by decide)⟩) (fun hv _ => ⟨fun z => absurd rfl z, fun _ => w_X12_no ⟨Or.inl rfl, fun _ => ⟨Or.inl rfl, FrX.n (fun y => hv y.1)⟩⟩⟩))
  have hb := shL_b hs
  have hz : rz k := ⟨l1, l2⟩
  obtain ⟨n, en, h5⟩ := rz_n hz
  subst en
  have hkn : (nI (n + 1)).toInt.toNat = n + 1 := by rw [nI_toInt (by omega)]; omega
  have hwy : wyN (I 102 3) p q (nI (n + 1)) = (rws (SA (I 102 3)) 30 (n + 1) (shL p q)).length := by unfold wyN; rw [hkn]
  have hof : ofN9 (I 102 3) p q (nI (n + 1)) v = (cntR (rws (SA (I 102 3)) 30 (n + 1) (shL p q)) (nn9 v) : Nat) := by unfold ofN9; rw [hkn]
  have hlen : (rws (SA (I 102 3)) 30 (n + 1) (shL p q)).length ≤ 2 ^ 30 := rws_len 30 (n + 1) _
  have h31 : (2 : Nat) ^ 30 < 2 ^ 31 := by decide
  have hw := cntR_le (d := nn9 v) (rws (SA (I 102 3)) 30 (n + 1) (shL p q)) (fun r hr => rws_cnt 30 (n + 1) _ r (by decide) hr _)
  obtain ⟨v1, v2⟩ := id hv
  rw [le_i] at v1 v2
  have e1 : (1 : Int32).toInt = 1 := rfl
  have e30 : (30 : Int32).toInt = 30 := rfl
  have vn : nn9 v ≤ 30 := by
    show v.toInt.toNat ≤ 30
    omega
  rw [t3, e]
  have e12 : d + 15 = (d + (11 - n)) + (n + 1) + 3 := by omega
  rw [e12]
  refine px_laysRows (b := 31) hA (by decide) h5 hy (by omega) (fun I2 a _ _ => ?_)
  rw [rws_SB] at a ⊢
  have e6 : I2 97 31 = nI (rws (SA (I 102 3)) 30 (n + 1) (shL p q)).length := by rw [a.1, rfRun_n]; exact congrArg nI (Nat.zero_add _)
  have e8 : I2 107 (nn9 v) = nI (cntR (rws (SA (I 102 3)) 30 (n + 1) (shL p q)) (nn9 v)) := by rw [a.2.2 _ vn, rfRun_o]; exact congrArg nI (Nat.zero_add _)
  refine ⟨fun c => ?_, fun c => ⟨vp_of (a := v.toInt) rfl (by omega) (by omega), ?_⟩⟩
  · refine w_X12_no ⟨Or.inl rfl, fun _ => ⟨Or.inl rfl, FrX.n (fun y => ?_)⟩⟩
    refine y.2.2.2 (hwy.trans ?_)
    cases o : rws (SA (I 102 3)) 30 (n + 1) (shL p q) with
    | nil => rfl
    | cons r rs => rw [o] at c; exact absurd (show (1 : Int32) = 0 from c) (by decide)
  · have c0 : ¬ wyN (I 102 3) p q (nI (n + 1)) = 0 := by
      rw [hwy]
      intro z
      rw [List.length_eq_zero_iff.mp z] at c
      exact c rfl
    rw [← hwy] at e6 hlen hw
    have t1 : (Int32.toInt64 (I2 107 (Int32.toNatClampNeg v))).toInt = ofN9 (I 102 3) p q (nI (n + 1)) v := by
      rw [hof]
      exact tl_i2l ((congrArg Int32.toInt e8).trans (nI_toInt (by omega)))
    have t2 : (Int32.toInt64 (I2 97 31)).toInt = ofW9 (I 102 3) p q (nI (n + 1)) := tl_i2l (by rw [e6]; exact nI_toInt (by omega))
    have b1 : 0 ≤ ofN9 (I 102 3) p q (nI (n + 1)) v := by rw [hof]; exact Int.natCast_nonneg _
    have b2 : 0 < ofW9 (I 102 3) p q (nI (n + 1)) := by
      show (0 : Int) < ((wyN (I 102 3) p q (nI (n + 1)) : Nat) : Int)
      omega
    exact px_frac (by omega) (by omega) (fun _ => ⟨Or.inr rfl, FrX.ym t1 t2 ⟨hv, hs, hz, c0⟩⟩)
end FRW
