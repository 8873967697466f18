section PT16x0
/-! ===== the fraction that is told: both sides' longs exactly ===== -/
noncomputable def eu9 : Nat → Int64 → Int64 → Int64
  | 0, x, _ => x
  | n + 1, x, y => if y = 0 then x else eu9 n y (x - x / y * y)
noncomputable def EuE (g : Int64) : Nat → Int64 → Int64 → Prop
  | 0, x, y => y = 0 ∧ x = g
  | n + 1, x, y => ¬ y = 0 ∧ EuE g n y (x - x / y * y)
theorem EuE.v {g : Int64} : ∀ (n N : Nat) (x y : Int64), EuE g n x y → n ≤ N → eu9 N x y = g := by
  intro n
  induction n with
  | zero =>
    intro N x y h _
    cases N with
    | zero => exact h.2
    | succ N => exact (if_pos h.1).trans h.2
  | succ n ih =>
    intro N x y h hN
    cases N with
    | zero => omega
    | succ N => exact (if_neg h.1).trans (ih N _ _ h.2 (by omega))
theorem eu_rem {x y : Int64} (hx : 0 ≤ x.toInt) (hy : 0 < y.toInt) : (x - x / y * y).toInt = x.toInt % y.toInt := by
  have h1 := Int.emod_nonneg x.toInt (show y.toInt ≠ 0 by omega)
  have h2 := Int.emod_lt_of_pos x.toInt hy
  have h3 := (i64 y).2
  rw [tl_rem rfl rfl, Int.tmod_eq_emod_of_nonneg hx]
  exact tl_bmod (by omega) (by omega)
theorem emod_half {a b p : Int} (h1 : 0 < b) (h2 : b < a) (h3 : a < 2 * p) : a % b < p := by
  have e := Int.emod_add_mul_ediv a b
  have hq : 1 ≤ a / b := Int.le_ediv_of_mul_le h1 (by omega)
  have hm : b * 1 ≤ b * (a / b) := Int.mul_le_mul_of_nonneg_left hq (by omega)
  have hl := Int.emod_lt_of_pos a h1
  generalize b * (a / b) = w at e hm
  omega
theorem i64_z {x : Int64} (h : x.toInt = 0) : x = 0 := Int64.toInt_inj.mp h
theorem eu_end : ∀ (k : Nat) (x y : Int64), 0 ≤ x.toInt → 0 ≤ y.toInt → y.toInt < 2 ^ k → 0 < x.toInt ∨ 0 < y.toInt → ∃ n g, n ≤ 2 * k ∧ EuE g n x y ∧ 0 < g.toInt := by
  intro k
  induction k with
  | zero =>
    intro x y hx hy hk hp
    have h1 : (2 : Int) ^ 0 = 1 := rfl
    have h0 : y.toInt = 0 := by omega
    exact ⟨0, x, by omega, ⟨i64_z h0, rfl⟩, by omega⟩
  | succ k ih =>
    intro x y hx hy hk hp
    by_cases h0 : y = 0
    · exact ⟨0, x, by omega, ⟨h0, rfl⟩, hp.resolve_right (by rw [h0]; decide)⟩
    · have hy1 : 0 < y.toInt := by
        have : ¬ y.toInt = 0 := fun z => h0 (i64_z z)
        omega
      have r1 := eu_rem hx hy1
      have b1 := Int.emod_nonneg x.toInt (show y.toInt ≠ 0 by omega)
      have b2 := Int.emod_lt_of_pos x.toInt hy1
      by_cases h1 : x - x / y * y = 0
      · exact ⟨1, y, by omega, ⟨h0, h1, rfl⟩, hy1⟩
      · have hr : 0 < (x - x / y * y).toInt := by
          have : ¬ (x - x / y * y).toInt = 0 := fun z => h1 (i64_z z)
          omega
        have r2 := eu_rem hy hr
        have hp2 : (2 : Int) ^ (k + 1) = 2 * 2 ^ k := by rw [Int.pow_succ]; omega
        rw [hp2] at hk
        have hh := emod_half hr (by omega) hk
        have hn0 := Int.emod_nonneg y.toInt (show (x - x / y * y).toInt ≠ 0 by omega)
        obtain ⟨n, g, hn, hg, hgp⟩ := ih (x - x / y * y) (y - y / (x - x / y * y) * (x - x / y * y)) (by omega) (by rw [r2]; exact hn0) (by rw [r2]; exact hh) (Or.inl hr)
        exact ⟨n + 2, g, by omega, ⟨h0, h1, hg⟩, hgp⟩
noncomputable def abv9 (t : Int64) : Int64 := if (0 : Int64) < t then t else -t
noncomputable def gd9 (t b : Int64) : Int64 := eu9 130 (abv9 t) b
theorem ab9_p {t : Int64} (h : -9223372036854775808 < t.toInt) : 0 ≤ (abv9 t).toInt := by
  have h2 := (i64 t).2
  unfold abv9
  split
  · rename_i c
    have c2 := Int64.lt_iff_toInt_lt.mp c
    have z : (0 : Int64).toInt = 0 := rfl
    omega
  · rename_i c
    have c2 : ¬ (0 : Int64).toInt < t.toInt := fun q => c (Int64.lt_iff_toInt_lt.mpr q)
    have z : (0 : Int64).toInt = 0 := rfl
    rw [Int64.toInt_neg, tl_bmod (by omega) (by omega)]
    omega
theorem gd9_e {t b : Int64} (ht : -9223372036854775808 < t.toInt) (hb : 0 < b.toInt) : ∃ n, n ≤ 126 ∧ EuE (gd9 t b) n (abv9 t) b ∧ 0 < (gd9 t b).toInt := by
  have hb2 := (i64 b).2
  have e63 : (2 : Int) ^ 63 = 9223372036854775808 := by decide
  obtain ⟨n, g, hn, h, hg⟩ := eu_end 63 (abv9 t) b (ab9_p ht) (by omega) (by omega) (Or.inr hb)
  have e : gd9 t b = g := EuE.v n 130 _ _ h (by omega)
  rw [e]
  exact ⟨n, hn, h, hg⟩
theorem gd9_m {t b : Int64} (hb : 0 < b.toInt) (h : -9223372036854775808 < t.toInt ∨ t - t / b * b = 0) : ∃ n, n ≤ 126 ∧ EuE (gd9 t b) n (abv9 t) b ∧ 0 < (gd9 t b).toInt := by
  by_cases q : -9223372036854775808 < t.toInt
  · exact gd9_e q hb
  · have h2 := (i64 t).1
    have ht : t.toInt = -9223372036854775808 := by omega
    have hr : t - t / b * b = 0 := h.resolve_left q
    have ea : abv9 t = t := by
      unfold abv9
      have z : (0 : Int64).toInt = 0 := rfl
      rw [if_neg (fun c => by have := Int64.lt_iff_toInt_lt.mp c; omega)]
      refine Int64.toInt_inj.mp ?_
      rw [Int64.toInt_neg, ht]
      decide
    have hE : EuE b 1 (abv9 t) b := ⟨fun z => by rw [z] at hb; exact absurd hb (by decide), by rw [ea]; exact hr, rfl⟩
    have e : gd9 t b = b := EuE.v 1 130 _ _ hE (by decide)
    rw [e]
    exact ⟨1, by decide, hE, hb⟩
theorem jd_eq {J : Jm} {o j : Nat} {v : Int64} : uJ J o j v o j = v := by rw [uJ_eq]; exact if_pos rfl
theorem jd_k {J : Jm} {o j k : Nat} {v : Int64} (h : ¬ k = j) : uJ J o j v o k = J o k := by rw [uJ_eq]; exact if_neg h
section FRA
variable {I : Im} {J : Jm} {R : Rm} {Q : Qt}
theorem px_cd {d n : Nat} {g x y : Int64} (h : EuE g n x y) (hn : n < 900) (hQ : Q 0 g I J R) : AM (d + 1) 168 112 [.long x, .long y] I J R Q := by
  refine am_X11_commonDivisor (fun P hc => sg_X11_commonDivisor_0 hc _ _ _ _ _ ?_)
  have L : ∀ (m i : Nat) (v4 v6 : Int64), EuE g m v4 v6 → i + m < 1000 → P 9 112 [(4, .long v4), (6, .long v6), (8, .int (nI i))] [] I J R := by
    intro m
    induction m with
    | zero =>
      intro i v4 v6 h hi
      obtain ⟨h0, rfl⟩ := h
      exact sg_X11_commonDivisor_9 hc _ _ _ _ _ _ ⟨fun _ => hQ, fun _ => ⟨fun _ => hQ, fun c => absurd ((lg_cmp_eq _ _).mpr h0) c⟩⟩
    | succ m ih =>
      intro i v4 v6 h hi
      refine sg_X11_commonDivisor_9 hc _ _ _ _ _ _ ⟨fun c => absurd ((nle_nI (a := 1000) (b := i) (by omega) (by omega)).mp c) (by omega), fun _ => ⟨fun c => absurd ((lg_cmp_eq _ _).mp c) h.1, fun _ => ⟨h.1, ?_⟩⟩⟩
      rw [nI_k1]
      exact ih (i + 1) _ _ h.2 (by omega)
  exact L n 0 x y h (by omega)
theorem px_tellM {d : Nat} {t b : Int64} (ht : -9223372036854775808 < t.toInt ∨ t - t / b * b = 0) (hb : 0 < b.toInt) (hQ : Q 1 0 (uI I 1 0 0) (uJ (uJ J 1 1 (t / gd9 t b)) 1 2 (b / gd9 t b)) R) : AM (d + 2) 155 112 [.ref 1, .long t, .long b] I J R Q := by
  obtain ⟨n, hn, he, hg⟩ := gd9_m hb ht
  have h0 : ¬ gd9 t b = 0 := fun z => by rw [z] at hg; exact absurd hg (by decide)
  refine w_X11_tell (px_cd he (by omega) ⟨fun c => ?_, fun _ => ⟨h0, h0, w_X11_allow ⟨Or.inr rfl, fun _ => ⟨Or.inr rfl, hQ⟩⟩⟩⟩)
  rw [lg_cmp_le] at c
  have c2 := cl_le rfl rfl c
  have z : (0 : Int64).toInt = 0 := rfl
  omega
theorem px_tell {d : Nat} {t b : Int64} (ht : -9223372036854775808 < t.toInt) (hb : 0 < b.toInt) (hQ : Q 1 0 (uI I 1 0 0) (uJ (uJ J 1 1 (t / gd9 t b)) 1 2 (b / gd9 t b)) R) : AM (d + 2) 155 112 [.ref 1, .long t, .long b] I J R Q := px_tellM (Or.inl ht) hb hQ
theorem px_fracM {d : Nat} {t b : Int64} (ht : -9223372036854775808 < t.toInt ∨ t - t / b * b = 0) (hb : 0 < b.toInt) (hQ : Q 1 0 I (uJ (uJ J 97 2 (t / gd9 t b)) 97 3 (b / gd9 t b)) R) : AM (d + 1) 179 112 [.ref 97, .long t, .long b] I J R Q := by
  obtain ⟨n, hn, he, hg⟩ := gd9_m hb ht
  have h0 : ¬ gd9 t b = 0 := fun z => by rw [z] at hg; exact absurd hg (by decide)
  refine am_X12_fraction (fun P hc => sg_X12_fraction_0 hc _ _ _ _ _ ?_)
  have L : ∀ (m : Nat) (v5 v7 : Int64), EuE (gd9 t b) m v5 v7 → P 9 112 [(0, .ref 97), (1, .long t), (3, .long b), (5, .long v5), (7, .long v7)] [] I J R := by
    intro m
    induction m with
    | zero =>
      intro v5 v7 h
      refine sg_X12_fraction_9 hc _ _ _ _ _ _ _ ⟨fun _ => ?_, fun c => absurd ((lg_cmp_eq _ _).mpr h.1) c⟩
      rw [h.2]
      exact ⟨h0, h0, Or.inr rfl, hQ⟩
    | succ m ih =>
      intro v5 v7 h
      exact sg_X12_fraction_9 hc _ _ _ _ _ _ _ ⟨fun c => absurd ((lg_cmp_eq _ _).mp c) h.1, fun _ => ⟨h.1, ih _ _ h.2⟩⟩
  exact L n _ _ he
theorem px_frac {d : Nat} {t b : Int64} (ht : -9223372036854775808 < t.toInt) (hb : 0 < b.toInt) (hQ : Q 1 0 I (uJ (uJ J 97 2 (t / gd9 t b)) 97 3 (b / gd9 t b)) R) : AM (d + 1) 179 112 [.ref 97, .long t, .long b] I J R Q := px_fracM (Or.inl ht) hb hQ
end FRA
/-- what a call tells: the fraction a / c where P, else what was told before -/
noncomputable def FrX (o i j : Nat) (P : Prop) (a c : Int) (J J2 : Jm) (x : Int32) : Prop := (x = 1 ∧ P ∧ J2 o i = Int64.ofInt a / gd9 (Int64.ofInt a) (Int64.ofInt c) ∧ J2 o j = Int64.ofInt c / gd9 (Int64.ofInt a) (Int64.ofInt c)) ∨ (x = 0 ∧ ¬ P ∧ J2 o i = J o i ∧ J2 o j = J o j)
noncomputable def FQ9 (J : Jm) : Prop := J 1 1 = J 97 2 ∧ J 1 2 = J 97 3
noncomputable def KFc (J J2 : Jm) : Prop := J2 1 1 = J 1 1 ∧ J2 1 2 = J 1 2
noncomputable def KFm (J J2 : Jm) : Prop := J2 97 2 = J 97 2 ∧ J2 97 3 = J 97 3
section FRB
variable {J J1 J2 J3 : Jm} {P : Prop} {a c : Int} {x x2 : Int32}
theorem FrX.yc {t b : Int64} (ht : t.toInt = a) (hb : b.toInt = c) (hP : P) : FrX 1 1 2 P a c J (uJ (uJ J1 1 1 (t / gd9 t b)) 1 2 (b / gd9 t b)) 1 := by
  subst ht; subst hb
  rw [FrX, Int64.ofInt_toInt, Int64.ofInt_toInt]
  exact Or.inl ⟨rfl, hP, (jd_k (by decide)).trans jd_eq, jd_eq⟩
theorem FrX.ym {t b : Int64} (ht : t.toInt = a) (hb : b.toInt = c) (hP : P) : FrX 97 2 3 P a c J (uJ (uJ J1 97 2 (t / gd9 t b)) 97 3 (b / gd9 t b)) 1 := by
  subst ht; subst hb
  rw [FrX, Int64.ofInt_toInt, Int64.ofInt_toInt]
  exact Or.inl ⟨rfl, hP, (jd_k (by decide)).trans jd_eq, jd_eq⟩
theorem FrX.n {o i j : Nat} (hP : ¬ P) : FrX o i j P a c J J 0 := Or.inr ⟨rfl, hP, rfl, rfl⟩
theorem FrX.n2 {o i j : Nat} (hP : ¬ P) (e1 : J2 o i = J o i) (e2 : J2 o j = J o j) : FrX o i j P a c J J2 0 := Or.inr ⟨rfl, hP, e1, e2⟩
theorem FQ9.kp (h : FQ9 J) (k1 : KFc J J1) (k2 : KFm J J1) : FQ9 J1 := ⟨k1.1.trans (h.1.trans k2.1.symm), k1.2.trans (h.2.trans k2.2.symm)⟩
theorem FQ9.two (h : FQ9 J) (h1 : FrX 1 1 2 P a c J J1 x) (k1 : KFm J J1) (h2 : FrX 97 2 3 P a c J1 J2 x2) (k2 : KFc J1 J2) : FQ9 J2 := by
  rcases h1 with ⟨-, p, e1, e2⟩ | ⟨-, p, e1, e2⟩ <;> rcases h2 with ⟨-, q, f1, f2⟩ | ⟨-, q, f1, f2⟩
  · exact ⟨k2.1.trans (e1.trans f1.symm), k2.2.trans (e2.trans f2.symm)⟩
  · exact absurd p q
  · exact absurd q p
  · exact ⟨k2.1.trans (e1.trans (h.1.trans (f1.trans k1.1).symm)), k2.2.trans (e2.trans (h.2.trans (f2.trans k1.2).symm))⟩
end FRB
end PT16x0
section PT16x1
/-! ===== has(), lacks(), worth(), oddsThat(): what they tell, both sides ===== -/
noncomputable def wvR (S : Nat → Int32) : Nat → Int → Int
  | 0, x => x
  | f + 1, x => wvR S f (x + (S (30 - f)).toInt * pt (30 - f))
theorem ix_w9 : ∀ n, n < 31 → 1 ≤ n → ((4 : Int32) + nI n) - 1 = nI (3 + n) := by decide +kernel
theorem lf_p : (0 : Int) < (2329089562800 : Int64).toInt := by decide
theorem lf_t : (2329089562800 : Int64).toInt = 2329089562800 := by decide
section FRW
variable {I I1 : Im} {J J1 : Jm} {R : Rm} {Q : Qt} {M : Nat}
theorem px_cr9 {d n : Nat} {p : Int32} (h1 : 1 ≤ n) (h2 : n ≤ 30) (hp : 0 ≤ p.toInt ∧ p.toInt ≤ 99) (hQ : ∀ y : Int64, y.toInt = p.toInt * pt n → Q 0 y I J R) : AM (d + 1) 167 112 [.int p, .int (nI n)] I J R Q := by
  obtain ⟨-, e2, e3⟩ := ptL n (by omega) h1
  obtain ⟨p1, p2, -⟩ := pt_b h1 h2
  have b0 : 0 ≤ p.toInt * pt n := Int.mul_nonneg hp.1 (Int.le_of_lt p1)
  have b1 : p.toInt * pt n ≤ 99 * 2329089562800 := Int.mul_le_mul hp.2 p2 (Int.le_of_lt p1) (by decide)
  refine w_X11_crumbs ⟨fun _ => ⟨e3, hQ _ (tl_mul9 (tl_i2l rfl) e2 ⟨by omega, by omega⟩)⟩, fun c => absurd ((nle_nI (a := 1) (by omega) (by omega)).mpr h1) c⟩
theorem wv_b {S : Nat → Int32} (hS : ∀ k, 1 ≤ k → k ≤ 30 → 0 ≤ (S k).toInt ∧ (S k).toInt ≤ 99) {f : Nat} (hf : f + 1 ≤ 30) : 0 ≤ (S (30 - f)).toInt * pt (30 - f) ∧ (S (30 - f)).toInt * pt (30 - f) ≤ 230579866717200 := by
  obtain ⟨p1, p2, -⟩ := pt_b (d := 30 - f) (by omega) (by omega)
  have hp := hS (30 - f) (by omega) (by omega)
  have b0 : 0 ≤ (S (30 - f)).toInt * pt (30 - f) := Int.mul_nonneg hp.1 (Int.le_of_lt p1)
  have b1 : (S (30 - f)).toInt * pt (30 - f) ≤ 99 * 2329089562800 := Int.mul_le_mul hp.2 p2 (Int.le_of_lt p1) (by decide)
  exact ⟨b0, by omega⟩
theorem wvR_0 {S : Nat → Int32} (hS : ∀ k, 1 ≤ k → k ≤ 30 → 0 ≤ (S k).toInt ∧ (S k).toInt ≤ 99) : ∀ (f : Nat) (a : Int), f ≤ 30 → 0 ≤ a → 0 ≤ wvR S f a := by
  intro f
  induction f with
  | zero => intro a _ h; exact h
  | succ f ih => intro a hf h; have := wv_b hS hf; exact ih _ (by omega) (by omega)
theorem px_stockCrumbs {e o : Nat} {s : StS9} (hO : isO 112 o 0 = true) (h : BkA o M s I) (hS : ∀ k, 1 ≤ k → k ≤ 30 → 0 ≤ (s.1 k).toInt ∧ (s.1 k).toInt ≤ 99) (hQ : ∀ y : Int64, y.toInt = wvR s.1 30 0 → Q 0 y I J R) : AM (e + 2) 8 112 [.ref o] I J R Q := by
  obtain ⟨a0, l0, -⟩ := fa_0_0 hO
  refine am_X0_stockCrumbs (fun P hc => sg_X0_stockCrumbs_0 hc _ _ _ _ ?_)
  have L : ∀ (f : Nat) (x : Int64) (a : Int), f ≤ 30 → x.toInt = a → 0 ≤ a ∧ a ≤ ((30 - f : Nat) : Int) * 230579866717200 → (∀ y : Int64, y.toInt = wvR s.1 f a → Q 0 y I J R) → P 4 112 [(0, .ref o), (1, .long x), (3, .int (nI (31 - f)))] [] I J R := by
    intro f
    induction f with
    | zero => intro x a _ hx _ hQ; exact sg_X0_stockCrumbs_4 hc _ _ _ _ _ _ ⟨fun _ => hQ x hx, fun c => absurd ((nlt_nI (a := 30) (b := 31 - 0) (by omega) (by omega)).mpr (by omega)) c⟩
    | succ f ih =>
      intro x a hf hx ha hQ
      have ed : 31 - (f + 1) = 30 - f := by omega
      have hb := wv_b hS hf
      have e1 : ((30 - (f + 1) : Nat) : Int) = ((30 - f : Nat) : Int) - 1 := by omega
      rw [e1] at ha
      rw [ed]
      refine sg_X0_stockCrumbs_4 hc _ _ _ _ _ _ ⟨fun c => absurd ((nlt_nI (a := 30) (by omega) (by omega)).mp c) (by omega), fun _ => bif_t hO (bif_t a0 ⟨by rw [l0]; exact vp_nI (by omega) (by omega), ?_⟩)⟩
      rw [tn_nI (by omega), h.1 (30 - f) (by omega) (by omega), nx30 hf]
      exact px_cr9 (by omega) (by omega) (hS _ (by omega) (by omega)) (fun y hy => ih _ _ (by omega) (tl_add hx hy (by omega)) (by omega) hQ)
  exact L 30 0 0 (by decide) rfl (by decide) hQ
theorem cf_worth {d : Nat} (hR : RI R) (h : W9 I R) : AM (d + 4) 116 112 [.ref 1] I J R (fun x _ _ J2 _ => FrX 1 1 2 True (wvR (s9 I).1 30 0) 2329089562800 J J2 x) := by
  have hO := hR.now.1
  have hs := h.hs
  refine w_X11_worth ⟨hR.now.2, bif_t hO (px_stockCrumbs hO hs.1 hs.2.2.1.1 (fun y hy => px_tell ?_ lf_p (fun _ => ⟨Or.inr rfl, FrX.yc hy lf_t trivial⟩)))⟩
  have := wvR_0 hs.2.2.1.1 30 0 (by decide) (by decide)
  omega
theorem mf_worth {d : Nat} (e102 : I1 102 = I 102) (h : W9 I R) : AM (d + 3) 253 112 [.ref 97] I1 J1 R (fun x _ _ J2 _ => FrX 97 2 3 True (wvR (s9 I).1 30 0) 2329089562800 J1 J2 x) := by
  have hs := h.hs
  have hS := hs.2.2.1.1
  have e : uI (uI I1 97 1 0) 97 0 0 102 = I 102 := ((uI_ne (by decide)).trans (uI_ne (by decide))).trans e102
  refine am_X12_worth (fun P hc => sg_X12_worth_0 hc _ _ _ ?_)
  have L : ∀ (f : Nat) (x : Int64) (a : Int), f ≤ 30 → x.toInt = a → 0 ≤ a ∧ a ≤ ((30 - f : Nat) : Int) * 230579866717200 → wvR (s9 I).1 f a = wvR (s9 I).1 30 0 → P 14 112 [(0, .ref 97), (1, .long x), (3, .int (nI (31 - f)))] [] (uI (uI I1 97 1 0) 97 0 0) J1 R := by
    intro f
    induction f with
    | zero =>
      intro x a _ hx ha hw
      refine sg_X12_worth_14 hc _ _ _ _ _ ⟨fun _ => px_frac (by omega) lf_p (fun _ => ⟨Or.inr rfl, FrX.ym (hx.trans hw) lf_t trivial⟩), fun c => absurd ((nlt_nI (a := 30) (b := 31 - 0) (by omega) (by omega)).mpr (by omega)) c⟩
    | succ f ih =>
      intro x a hf hx ha hw
      have ed : 31 - (f + 1) = 30 - f := by omega
      have hb := wv_b hS hf
      have e1 : ((30 - (f + 1) : Nat) : Int) = ((30 - f : Nat) : Int) - 1 := by omega
      rw [e1] at ha
      rw [ed]
      refine sg_X12_worth_14 hc _ _ _ _ _ ⟨fun c => absurd ((nlt_nI (a := 30) (by omega) (by omega)).mp c) (by omega), fun _ => ?_⟩
      rw [ix_w9 _ (by omega) (by omega), tn_nI (by omega), e, nx30 hf]
      refine ⟨vp_nI (by omega) (by omega), px_parts (by omega) (by omega) (fun y hy => ih _ _ (by omega) (tl_add hx (tl_mul9 (tl_i2l rfl) hy ?_) ?_) ?_ hw)⟩
      · have z : (I 102 (3 + (30 - f))).toInt * pt (30 - f) = ((s9 I).1 (30 - f)).toInt * pt (30 - f) := rfl
        omega
      · have z : (I 102 (3 + (30 - f))).toInt * pt (30 - f) = ((s9 I).1 (30 - f)).toInt * pt (30 - f) := rfl
        omega
      · have z : (I 102 (3 + (30 - f))).toInt * pt (30 - f) = ((s9 I).1 (30 - f)).toInt * pt (30 - f) := rfl
        omega
  exact L 30 0 0 (by decide) rfl (by decide) rfl
theorem cf_has {d : Nat} {v : Int32} (hB : Bd I) (hR : RI R) (em : I (R 1 7) 4 = I 102 0) (h : W9 I R) : AM (d + 5) 114 112 [.ref 1, .int v] I J R (fun x _ _ J2 _ => FrX 1 1 2 (hsP (I 102 0) v) (hvR ((s9 I).2.1 (nn9 v)) 30 0) 2329089562800 J J2 x) := by
  have hO := hR.now.1
  have hs := h.hs
  have hm := h.1.1.m
  refine w_X11_has ⟨hR.now.2, bif_t hO (cx_isMan hB hR (fun hn => ⟨fun z => absurd rfl z, fun _ => w_X11_deny ⟨Or.inl rfl, fun _ => ⟨Or.inl rfl, FrX.n (by rw [← em]; exact hn)⟩⟩⟩) (fun hy hv => ⟨fun _ => ⟨hR.now.2, bif_t hO ?_⟩, fun z => absurd z (by decide)⟩))⟩
  refine px_holding (M := mnN (I 102)) (s := s9 I) hO hy ⟨by rw [em]; exact hm.2.2, hm.1⟩ hs.1 (fun y hy2 => px_tell ?_ lf_p (fun _ => ⟨Or.inr rfl, FrX.yc hy2 lf_t (by rw [← em]; exact hy)⟩))
  have := (hvR_b (h := (s9 I).2.1 (nn9 v)) 30 0 (by decide) (by decide)).1
  omega
theorem tn46 {v : Int32} (h : 0 ≤ v.toInt ∧ v.toInt < 100) : (46 + v : Int32).toInt = 46 + v.toInt ∧ Int32.toNatClampNeg (46 + v) = 46 + nn9 v := by
  have e : (46 + v : Int32).toInt = 46 + v.toInt := ti_add rfl rfl (by omega)
  refine ⟨e, ?_⟩
  show (46 + v : Int32).toInt.toNat = 46 + v.toInt.toNat
  rw [e]; omega
theorem mf_has {d : Nat} {v : Int32} (hB1 : Bd I1) (e102 : I1 102 = I 102) (h : W9 I R) : AM (d + 5) 251 112 [.ref 97, .int v] I1 J1 R (fun x _ _ J2 _ => FrX 97 2 3 (hsP (I 102 0) v) (hvR ((s9 I).2.1 (nn9 v)) 30 0) 2329089562800 J1 J2 x) := by
  have hs := h.hs
  have hm := h.1.1.m
  have e : uI (uI I1 97 1 0) 97 0 0 102 = I 102 := ((uI_ne (by decide)).trans (uI_ne (by decide))).trans e102
  have hB2 : Bd (uI I1 97 1 0) := Bd.o0 hB1 (show isO 112 97 12 = true from rfl) (by decide) (show bnd 12 1 = none from rfl)
  have hB3 : Bd (uI (uI I1 97 1 0) 97 0 0) := Bd.o0 hB2 (show isO 112 97 12 = true from rfl) (by decide) (show bnd 12 0 = none from rfl)
  refine w_X12_has (mx_isMan hB3 (fun hn => ⟨fun _ => w_X12_no ⟨Or.inl rfl, fun _ => ⟨Or.inl rfl, FrX.n (by rw [e] at hn; exact hn)⟩⟩, fun z => absurd rfl z⟩) (fun hy hv => ⟨fun z => absurd z (by decide), fun _ => ?_⟩))
  rw [e] at hy hv
  obtain ⟨e46, t46⟩ := tn46 (v := v) ⟨hv.1, by omega⟩
  obtain ⟨nk, vk⟩ := mn_nn hy ⟨hm.2.2, hm.1⟩
  refine ⟨vp_of (a := 46 + v.toInt) e46 (by omega) (by omega), ?_⟩
  rw [e, t46]
  refine px_sumOf (hs.2.2.1.2 _ nk).1 (fun y hy2 => px_frac ?_ lf_p (fun _ => ⟨Or.inr rfl, FrX.ym hy2 lf_t hy⟩))
  have := (hvR_b (h := (s9 I).2.1 (nn9 v)) 30 0 (by decide) (by decide)).1
  have z : (s9 I).2.1 (nn9 v) = I 102 (46 + nn9 v) := rfl
  rw [z] at this
  omega
theorem lk_b9 {du : Du9} {hv : Nat → Int32} {k : Nat} (h : sh (du k).1 (du k).2) : -1000000000000000 ≤ lk9 du hv k := by
  have a := shL_b h
  have b := hvR_b (h := hv k) 30 0 (by decide) (by decide)
  unfold lk9
  omega
theorem cf_lacks {d : Nat} {v : Int32} (hB : Bd I) (hR : RI R) (em : I (R 1 7) 4 = I 102 0) (h : W9 I R) : AM (d + 6) 115 112 [.ref 1, .int v] I J R (fun x _ _ J2 _ => FrX 1 1 2 (hsP (I 102 0) v) (lk9 (du9 I) (s9 I).2.1 (nn9 v)) 2329089562800 J J2 x) := by
  have hO := hR.now.1
  have hs := h.hs
  have hm := h.1.1.m
  refine w_X11_lacks ⟨hR.now.2, bif_t hO (cx_isMan hB hR (fun hn => ⟨fun z => absurd rfl z, fun _ => w_X11_deny ⟨Or.inl rfl, fun _ => ⟨Or.inl rfl, FrX.n (by rw [← em]; exact hn)⟩⟩⟩) (fun hy hv => ⟨fun _ => ⟨hR.now.2, bif_t hO ?_⟩, fun z => absurd z (by decide)⟩))⟩
  have hmm : (I (R 1 7) 4).toInt = ((mnN (I 102) : Nat) : Int) ∧ mnN (I 102) ≤ 6 := ⟨by rw [em]; exact hm.2.2, hm.1⟩
  obtain ⟨nk, -⟩ := mn_nn hy hmm
  have hd := (h.1.1.2.2 _ nk).1
  refine px_lacking (M := mnN (I 102)) (s := s9 I) (du := du9 I) hO hy hmm hs.1 hs.2.2.2.2.1 hd (fun y hy2 => px_tell ?_ lf_p (fun _ => ⟨Or.inr rfl, FrX.yc hy2 lf_t (by rw [← em]; exact hy)⟩))
  have := lk_b9 (du := du9 I) (hv := (s9 I).2.1) (k := nn9 v) hd
  omega
theorem mf_lacks {d : Nat} {v : Int32} (hB1 : Bd I1) (e102 : I1 102 = I 102) (h : W9 I R) : AM (d + 6) 252 112 [.ref 97, .int v] I1 J1 R (fun x _ _ J2 _ => FrX 97 2 3 (hsP (I 102 0) v) (lk9 (du9 I) (s9 I).2.1 (nn9 v)) 2329089562800 J1 J2 x) := by
  have hs := h.hs
  have hm := h.1.1.m
  have e : uI (uI I1 97 1 0) 97 0 0 102 = I 102 := ((uI_ne (by decide)).trans (uI_ne (by decide))).trans e102
  have hB2 : Bd (uI I1 97 1 0) := Bd.o0 hB1 (show isO 112 97 12 = true from rfl) (by decide) (show bnd 12 1 = none from rfl)
  have hB3 : Bd (uI (uI I1 97 1 0) 97 0 0) := Bd.o0 hB2 (show isO 112 97 12 = true from rfl) (by decide) (show bnd 12 0 = none from rfl)
  refine w_X12_lacks (mx_isMan hB3 (fun hn => ⟨fun _ => w_X12_no ⟨Or.inl rfl, fun _ => ⟨Or.inl rfl, FrX.n (by rw [e] at hn; exact hn)⟩⟩, fun z => absurd rfl z⟩) (fun hy hv => ⟨fun z => absurd z (by decide), fun _ => ?_⟩))
  rw [e] at hy hv
  obtain ⟨nk, vk⟩ := mn_nn hy ⟨hm.2.2, hm.1⟩
  have hd := (h.1.1.2.2 _ nk).1
  have hrB : BkR (mnN (I 102)) (s9 I) (uI (uI I1 97 1 0) 97 0 0) := by unfold BkR; rw [e]; exact hs.2.1
  have hrD : DuR (mnN (I 102)) (du9 I) (uI (uI I1 97 1 0) 97 0 0) := by unfold DuR; rw [e]; exact hs.2.2.2.2.2.1
  refine px_lackOf (m := I 102 0) hy ⟨hm.2.2, hm.1⟩ hrB (hs.2.2.1.2 _ nk).1 hrD hd (fun y hy2 => px_frac ?_ lf_p (fun _ => ⟨Or.inr rfl, FrX.ym hy2 lf_t hy⟩))
  have := lk_b9 (du := du9 I) (hv := (s9 I).2.1) (k := nn9 v) hd
  omega
noncomputable def okO9 (K p q k v : Int32) : Prop := slQ v ∧ sh p q ∧ rz k ∧ ¬ wyN K p q k = 0
noncomputable def ofN9 (K p q k v : Int32) : Int := (cntR (rws (SA K) 30 k.toInt.toNat (shL p q)) (nn9 v) : Nat)
noncomputable def ofW9 (K p q k : Int32) : Int := (wyN K p q k : Nat)
theorem cf_oddsThat {d : Nat} {p q k v : Int32} (hR : RI R) (ek : I (R 1 7) 2 = I 102 3) : AM (d + 16) 130 112 [.ref 1, .int p, .int q, .int k, .int v] I J R (fun x _ _ J2 _ => FrX 1 1 2 (okO9 (I 102 3) p q k v) (ofN9 (I 102 3) p q k v) (ofW9 (I 102 3) p q k) J J2 x) := by
  have hO := hR.now.1
  refine w_X11_oddsThat (px_cSlQ (fun hv _ => ⟨fun _ => px_isShare (fun hs _ => ⟨fun z => absurd z (by decide), fun _ => px_isRowSize (fun hz _ => ⟨fun _ => ⟨hR.now.2, bif_t hO (px_crumbs hs (fun y hy => ?_))⟩, fun z => absurd z (by decide)⟩) (fun hz _ => ⟨fun z => absurd rfl z, fun _ => w_X11_deny ⟨Or.inl rfl, fun _ => ⟨Or.inl rfl, FrX.n (fun y => hz y.2.2.1)⟩⟩⟩)⟩) (fun hs _ => ⟨fun _ => w_X11_deny ⟨Or.inl rfl, fun _ => ⟨Or.inl rfl, FrX.n (fun y => hs y.2.1)⟩⟩, fun z => absurd rfl z⟩), fun z => absurd z (by decide)⟩) (fun hv _ => ⟨fun z => absurd rfl z, fun _ => w_X11_deny ⟨Or.inl rfl, fun _ => ⟨Or.inl rfl, FrX.n (fun y => hv y.1)⟩⟩⟩))
  rw [ek]
  have hb := shL_b hs
  obtain ⟨n, en, h5⟩ := rz_n hz
  subst en
  have hkn : (nI (n + 1)).toInt.toNat = n + 1 := by rw [nI_toInt (by omega)]; omega
  have hwy : wyN (I 102 3) p q (nI (n + 1)) = (rws (SA (I 102 3)) 30 (n + 1) (shL p q)).length := by unfold wyN; rw [hkn]
  have hof : ofN9 (I 102 3) p q (nI (n + 1)) v = (cntR (rws (SA (I 102 3)) 30 (n + 1) (shL p q)) (nn9 v) : Nat) := by unfold ofN9; rw [hkn]
  have hlen : (rws (SA (I 102 3)) 30 (n + 1) (shL p q)).length ≤ 2 ^ 30 := rws_len 30 (n + 1) _
  have h31 : (2 : Nat) ^ 30 < 2 ^ 31 := by decide
  have hw := cntR_le (d := nn9 v) (rws (SA (I 102 3)) 30 (n + 1) (shL p q)) (fun r hr => rws_cnt 30 (n + 1) _ r (by decide) hr _)
  obtain ⟨v1, v2⟩ := id hv
  rw [le_i] at v1 v2
  have e1 : (1 : Int32).toInt = 1 := rfl
  have e30 : (30 : Int32).toInt = 30 := rfl
  have vn : nn9 v ≤ 30 := by
    show v.toInt.toNat ≤ 30
    omega
  refine px_countAll h5 hy (by omega) (fun I2 e6 e8 _ => ?_)
  rw [← hwy] at e6 hlen hw
  refine ⟨fun c => ⟨vp_of (a := v.toInt) rfl (by omega) (by omega), ?_⟩, fun c => ?_⟩
  · have c0 : ¬ wyN (I 102 3) p q (nI (n + 1)) = 0 := fun z => c (by rw [e6, z]; rfl)
    have t1 : (Int32.toInt64 (I2 38 (Int32.toNatClampNeg v))).toInt = ofN9 (I 102 3) p q (nI (n + 1)) v := by
      rw [hof]
      exact tl_i2l ((congrArg Int32.toInt (e8 (nn9 v) vn)).trans (nI_toInt (by omega)))
    have t2 : (Int32.toInt64 (I2 35 6)).toInt = ofW9 (I 102 3) p q (nI (n + 1)) := tl_i2l (by rw [e6]; exact nI_toInt (by omega))
    have b1 : 0 ≤ ofN9 (I 102 3) p q (nI (n + 1)) v := by rw [hof]; exact Int.natCast_nonneg _
    have b2 : 0 < ofW9 (I 102 3) p q (nI (n + 1)) := by
      show (0 : Int) < ((wyN (I 102 3) p q (nI (n + 1)) : Nat) : Int)
      omega
    exact px_tell (by omega) (by omega) (fun _ => ⟨Or.inr rfl, FrX.yc t1 t2 ⟨hv, hs, hz, c0⟩⟩)
  · rw [e6] at c
    have z := (nI_z9 (by omega)).mp c
    exact w_X11_deny ⟨Or.inl rfl, fun _ => ⟨Or.inl rfl, FrX.n (fun y => y.2.2.2 z)⟩⟩
theorem mf_oddsThat {d : Nat} {p q k v : Int32} (hB1 : Bd I1) (e102 : I1 102 = I 102) : AM (d + 16) 278 112 [.ref 97, .int p, .int q, .int k, .int v] I1 J1 R (fun x _ _ J2 _ => FrX 97 2 3 (okO9 (I 102 3) p q k v) (ofN9 (I 102 3) p q k v) (ofW9 (I 102 3) p q k) J1 J2 x) := by
  have e : uI (uI I1 97 1 0) 97 0 0 102 = I 102 := ((uI_ne (by decide)).trans (uI_ne (by decide))).trans e102
  have hA := Bd.known0 hB1
  rw [e102] at hA
  have t3 : Int32.toNatClampNeg 3 = 3 := rfl
  refine w_X12_oddsThat (px_mSlQ (fun hv _ => ⟨fun _ => px_mShare (fun hs _ => ⟨fun z => absurd z (by decide), fun _ => px_isInI (lo := 1) (hi := 5) (fun l1 l2 _ => ⟨fun _ => px_shareOf hs (fun y hy => ⟨vp_of (a := 3) rfl (by decide) (by decide), ?_⟩), fun z => absurd z (by decide)⟩) (fun n1 _ => ⟨fun z => absurd rfl z, fun _ => w_X12_no ⟨Or.inl rfl, fun _ => ⟨Or.inl rfl, FrX.n (fun y => n1.elim (fun a => ile.mpr y.2.2.1.1 a) (fun a => a y.2.2.1.2))⟩⟩⟩)⟩) (fun hs _ => ⟨fun _ => w_X12_no ⟨Or.inl rfl, fun _ => ⟨Or.inl rfl, FrX.n (fun y => hs y.2.1)⟩⟩, fun z => absurd rfl z⟩), fun z => absurd z (by decide)⟩) (fun hv _ => ⟨fun z => absurd rfl z, fun _ => w_X12_no ⟨Or.inl rfl, fun _ => ⟨Or.inl rfl, FrX.n (fun y => hv y.1)⟩⟩⟩))
  have hb := shL_b hs
  have hz : rz k := ⟨l1, l2⟩
  obtain ⟨n, en, h5⟩ := rz_n hz
  subst en
  have hkn : (nI (n + 1)).toInt.toNat = n + 1 := by rw [nI_toInt (by omega)]; omega
  have hwy : wyN (I 102 3) p q (nI (n + 1)) = (rws (SA (I 102 3)) 30 (n + 1) (shL p q)).length := by unfold wyN; rw [hkn]
  have hof : ofN9 (I 102 3) p q (nI (n + 1)) v = (cntR (rws (SA (I 102 3)) 30 (n + 1) (shL p q)) (nn9 v) : Nat) := by unfold ofN9; rw [hkn]
  have hlen : (rws (SA (I 102 3)) 30 (n + 1) (shL p q)).length ≤ 2 ^ 30 := rws_len 30 (n + 1) _
  have h31 : (2 : Nat) ^ 30 < 2 ^ 31 := by decide
  have hw := cntR_le (d := nn9 v) (rws (SA (I 102 3)) 30 (n + 1) (shL p q)) (fun r hr => rws_cnt 30 (n + 1) _ r (by decide) hr _)
  obtain ⟨v1, v2⟩ := id hv
  rw [le_i] at v1 v2
  have e1 : (1 : Int32).toInt = 1 := rfl
  have e30 : (30 : Int32).toInt = 30 := rfl
  have vn : nn9 v ≤ 30 := by
    show v.toInt.toNat ≤ 30
    omega
  rw [t3, e]
  have e12 : d + 15 = (d + (11 - n)) + (n + 1) + 3 := by omega
  rw [e12]
  refine px_laysRows (b := 31) hA (by decide) h5 hy (by omega) (fun I2 a _ _ => ?_)
  rw [rws_SB] at a ⊢
  have e6 : I2 97 31 = nI (rws (SA (I 102 3)) 30 (n + 1) (shL p q)).length := by rw [a.1, rfRun_n]; exact congrArg nI (Nat.zero_add _)
  have e8 : I2 107 (nn9 v) = nI (cntR (rws (SA (I 102 3)) 30 (n + 1) (shL p q)) (nn9 v)) := by rw [a.2.2 _ vn, rfRun_o]; exact congrArg nI (Nat.zero_add _)
  refine ⟨fun c => ?_, fun c => ⟨vp_of (a := v.toInt) rfl (by omega) (by omega), ?_⟩⟩
  · refine w_X12_no ⟨Or.inl rfl, fun _ => ⟨Or.inl rfl, FrX.n (fun y => ?_)⟩⟩
    refine y.2.2.2 (hwy.trans ?_)
    cases o : rws (SA (I 102 3)) 30 (n + 1) (shL p q) with
    | nil => rfl
    | cons r rs => rw [o] at c; exact absurd (show (1 : Int32) = 0 from c) (by decide)
  · have c0 : ¬ wyN (I 102 3) p q (nI (n + 1)) = 0 := by
      rw [hwy]
      intro z
      rw [List.length_eq_zero_iff.mp z] at c
      exact c rfl
    rw [← hwy] at e6 hlen hw
    have t1 : (Int32.toInt64 (I2 107 (Int32.toNatClampNeg v))).toInt = ofN9 (I 102 3) p q (nI (n + 1)) v := by
      rw [hof]
      exact tl_i2l ((congrArg Int32.toInt e8).trans (nI_toInt (by omega)))
    have t2 : (Int32.toInt64 (I2 97 31)).toInt = ofW9 (I 102 3) p q (nI (n + 1)) := tl_i2l (by rw [e6]; exact nI_toInt (by omega))
    have b1 : 0 ≤ ofN9 (I 102 3) p q (nI (n + 1)) v := by rw [hof]; exact Int.natCast_nonneg _
    have b2 : 0 < ofW9 (I 102 3) p q (nI (n + 1)) := by
      show (0 : Int) < ((wyN (I 102 3) p q (nI (n + 1)) : Nat) : Int)
      omega
    exact px_frac (by omega) (by omega) (fun _ => ⟨Or.inr rfl, FrX.ym t1 t2 ⟨hv, hs, hz, c0⟩⟩)
end FRW
end PT16x1
section PT16x2
/-! ===== luck(): how many of the sets are within the share, both sides ===== -/
noncomputable def kcN_q10 : List Int → Nat → Int → Nat
  | _, 0, L => if 0 ≤ L then 1 else 0
  | [], _ + 1, _ => 0
  | x :: r, k + 1, L => kcN_q10 r k (L - x) + kcN_q10 r (k + 1) L
theorem clN_0_q10 {r : List Int} {L : Int} : kcN_q10 r 0 L = if 0 ≤ L then 1 else 0 := by cases r <;> rfl
theorem clN_c_q10 {x : Int} {r : List Int} {k : Nat} {L : Int} : kcN_q10 (x :: r) (k + 1) L = kcN_q10 r k (L - x) + kcN_q10 r (k + 1) L := rfl
theorem clN_snoc_q10 {x : Int} : ∀ (r : List Int) (k : Nat) (L : Int), kcN_q10 (r ++ [x]) (k + 1) L = kcN_q10 r k (L - x) + kcN_q10 r (k + 1) L := by
  intro r
  induction r with
  | nil => intro k L; rfl
  | cons y r ih =>
    intro k L
    cases k with
    | zero =>
      have h1 : kcN_q10 ((y :: r) ++ [x]) (0 + 1) L = kcN_q10 (r ++ [x]) 0 (L - y) + kcN_q10 (r ++ [x]) (0 + 1) L := rfl
      have h2 : kcN_q10 (y :: r) (0 + 1) L = kcN_q10 r 0 (L - y) + kcN_q10 r (0 + 1) L := rfl
      rw [h1, h2, ih 0 L]
      simp only [clN_0_q10]
      omega
    | succ k =>
      have h1 : kcN_q10 ((y :: r) ++ [x]) (k + 1 + 1) L = kcN_q10 (r ++ [x]) (k + 1) (L - y) + kcN_q10 (r ++ [x]) (k + 1 + 1) L := rfl
      have h2 : kcN_q10 (y :: r) (k + 1 + 1) L = kcN_q10 r (k + 1) (L - y) + kcN_q10 r (k + 1 + 1) L := rfl
      have h3 : kcN_q10 (y :: r) (k + 1) (L - x) = kcN_q10 r k (L - x - y) + kcN_q10 r (k + 1) (L - x) := rfl
      rw [h1, h2, h3, ih (k + 1) L, ih k (L - y), show L - y - x = L - x - y by omega]
      omega
theorem clN_le_q10 : ∀ (r : List Int) (k : Nat) (L : Int), kcN_q10 r k L ≤ 2 ^ r.length := by
  intro r
  induction r with
  | nil =>
    intro k L
    cases k with
    | zero => rw [clN_0_q10]; split <;> decide
    | succ k => exact Nat.zero_le _
  | cons y r ih =>
    intro k L
    rw [List.length_cons, Nat.pow_succ]
    cases k with
    | zero =>
      have := Nat.one_le_two_pow (n := r.length)
      rw [clN_0_q10]
      split <;> omega
    | succ k =>
      have h1 := ih k (L - y)
      have h2 := ih (k + 1) L
      rw [clN_c_q10]; omega
noncomputable def lst9_q10 (S : Nat → Bool) : Nat → List Int
  | 0 => []
  | f + 1 => if S (30 - f) = true then pt (30 - f) :: lst9_q10 S f else lst9_q10 S f
theorem lst9_le_q10 {S : Nat → Bool} : ∀ f, (lst9_q10 S f).length ≤ f := by
  intro f
  induction f with
  | zero => exact Nat.le_refl _
  | succ f ih =>
    show (if S (30 - f) = true then pt (30 - f) :: lst9_q10 S f else lst9_q10 S f).length ≤ f + 1
    split
    · rw [List.length_cons]; omega
    · omega
noncomputable def ul9_q10 (S : Nat → Bool) : Nat → List Int
  | 0 => []
  | d + 1 => if S (d + 1) = true then ul9_q10 S d ++ [pt (d + 1)] else ul9_q10 S d
theorem ul_lst_q10 {S : Nat → Bool} : ∀ d, d ≤ 30 → ul9_q10 S d ++ lst9_q10 S (30 - d) = lst9_q10 S 30 := by
  intro d
  induction d with
  | zero => intro _; rfl
  | succ d ih =>
    intro hd
    have e : 30 - d = (30 - (d + 1)) + 1 := by omega
    have e2 : 30 - (30 - (d + 1)) = d + 1 := by omega
    have h := ih (by omega)
    rw [e] at h
    have h2 : ul9_q10 S d ++ (if S (30 - (30 - (d + 1))) = true then pt (30 - (30 - (d + 1))) :: lst9_q10 S (30 - (d + 1)) else lst9_q10 S (30 - (d + 1))) = lst9_q10 S 30 := h
    rw [e2] at h2
    show (if S (d + 1) = true then ul9_q10 S d ++ [pt (d + 1)] else ul9_q10 S d) ++ lst9_q10 S (30 - (d + 1)) = _
    by_cases q : S (d + 1) = true
    · rw [if_pos q] at h2 ⊢
      rw [List.append_assoc]; exact h2
    · rw [if_neg q] at h2 ⊢
      exact h2
theorem ul_30_q10 {S : Nat → Bool} : ul9_q10 S 30 = lst9_q10 S 30 := (List.append_nil _).symm.trans (ul_lst_q10 (S := S) 30 (by decide))
noncomputable def flM9_q10 (f : Nat → Int32) : Nat → List Int
  | 0 => []
  | m + 1 => flM9_q10 f m ++ [prt (f m)]
theorem fl9_c_q10 {f g : Nat → Int32} : ∀ m, (∀ k, k < m → f k = g k) → flM9_q10 f m = flM9_q10 g m := by
  intro m
  induction m with
  | zero => intro _; rfl
  | succ m ih =>
    intro h
    show flM9_q10 f m ++ [prt (f m)] = flM9_q10 g m ++ [prt (g m)]
    rw [ih (fun k hk => h k (by omega)), h m (by omega)]
theorem prt_pt_q10 : ∀ d, d < 31 → 1 ≤ d → prt (Int32.ofNat d) = pt d := by decide +kernel
theorem nIm1_q10 : ∀ d, d < 31 → nI (d + 1) - 1 = nI d := by decide +kernel
theorem SA_pcb_q10 {v : Int32} {d : Nat} (h0 : 0 ≤ v.toInt) (hd : d + 1 ≤ 30) : SA v (d + 1) = true ↔ pcb v (Int32.ofNat d) = 1 := by
  have h := inS_of (s := v) (v := nI (d + 1)) h0 ((nle_nI (a := 1) (by omega) (by omega)).mpr (by omega)) ((nle_nI (b := 30) (by omega) (by omega)).mpr (by omega))
  rw [nIm1_q10 d (by omega)] at h
  unfold pcb
  constructor
  · intro q
    exact if_pos (h.mpr q)
  · intro q
    refine h.mp ?_
    by_cases z : ((v >>> (Int32.ofNat d &&& 31)) &&& 1) = 1
    · exact z
    · rw [if_neg z] at q; omega
theorem fl_ul_q10 {v : Int32} (h0 : 0 ≤ v.toInt) : ∀ d, d ≤ 30 → flM9_q10 (msF v d) (pcn v d).toNat = ul9_q10 (SA v) d := by
  intro d
  induction d with
  | zero => intro _; rfl
  | succ d ih =>
    intro hd
    have hs : pcn v (d + 1) = pcn v d + pcb v (Int32.ofNat d) := rfl
    have hb := pcb_in v (Int32.ofNat d)
    have hn := pcn_nn (s := v) d
    have hi := ih (by omega)
    have hS := SA_pcb_q10 h0 hd
    show _ = if SA v (d + 1) = true then ul9_q10 (SA v) d ++ [pt (d + 1)] else ul9_q10 (SA v) d
    by_cases q : SA v (d + 1) = true
    · have p1 := hS.mp q
      have e : (pcn v (d + 1)).toNat = (pcn v d).toNat + 1 := by omega
      rw [if_pos q, e]
      show flM9_q10 (msF v (d + 1)) (pcn v d).toNat ++ [prt (msF v (d + 1) (pcn v d).toNat)] = _
      rw [msF_new p1, fl9_c_q10 (g := msF v d) _ (fun k hk => msF_old (by omega)), hi, prt_pt_q10 _ (by omega) (by omega)]
    · have p0 : ¬ pcb v (Int32.ofNat d) = 1 := fun z => q (hS.mpr z)
      have e : (pcn v (d + 1)).toNat = (pcn v d).toNat := by omega
      rw [if_neg q, e, fl9_c_q10 (g := msF v d) _ (fun k hk => msF_old (by omega)), hi]
theorem fl_lst_q10 {v : Int32} {n : Nat} (h0 : 0 ≤ v.toInt) (hn : (n : Int) = pcn v 30) : flM9_q10 (msF v 30) n = lst9_q10 (SA v) 30 := by
  have h := fl_ul_q10 h0 30 (by decide)
  rw [show (pcn v 30).toNat = n by omega] at h
  exact h.trans ul_30_q10
/-! the sets by their masks -/
theorem prt1_q10 : prt 1 = 2329089562800 := by decide
theorem pc_sm_q10 {M : Nat} (hM : M < 2 ^ 31) : ∀ n, n ≤ 30 → smN (fun _ => 1) n M = 2329089562800 * pcn (nI M) n := by
  intro n
  induction n with
  | zero => intro _; rfl
  | succ n ih =>
    intro hn
    have hz : (nI M).toInt = M := nI_toInt hM
    have hb := pcb_tb (v := nI M) (i := n) (by omega) (by omega)
    rw [hz, Int.toNat_natCast] at hb
    have hs : pcn (nI M) (n + 1) = pcn (nI M) n + pcb (nI M) (Int32.ofNat n) := rfl
    have hi := ih (by omega)
    show smN (fun _ => 1) n M + (if M.testBit n then prt 1 else 0) = _
    rw [hs, hb, hi, prt1_q10]
    by_cases z : M.testBit n = true
    · rw [if_pos z, if_pos z]; omega
    · rw [if_neg z, if_neg z]; omega
theorem sm_up_q10 {f : Nat → Int32} {M n : Nat} (hM : M < 2 ^ n) : ∀ j, smN f (n + j) M = smN f n M := by
  intro j
  induction j with
  | zero => rfl
  | succ j ih =>
    have : 2 ^ n ≤ 2 ^ (n + j) := Nat.pow_le_pow_right (by decide) (by omega)
    exact (smN_old (n := n + j) (Nat.lt_of_lt_of_le hM this)).trans ih
noncomputable def sumB_q10 (g : Nat → Bool) : Nat → Nat
  | 0 => 0
  | n + 1 => sumB_q10 g n + (if g n = true then 1 else 0)
theorem sumB_add_q10 {g : Nat → Bool} {a : Nat} : ∀ b, sumB_q10 g (a + b) = sumB_q10 g a + sumB_q10 (fun i => g (a + i)) b := by
  intro b
  induction b with
  | zero => rfl
  | succ b ih =>
    show sumB_q10 g (a + b) + (if g (a + b) = true then 1 else 0) = sumB_q10 g a + (sumB_q10 (fun i => g (a + i)) b + (if g (a + b) = true then 1 else 0))
    rw [ih]; omega
theorem sumB_c_q10 {g h : Nat → Bool} : ∀ n, (∀ i, i < n → g i = h i) → sumB_q10 g n = sumB_q10 h n := by
  intro n
  induction n with
  | zero => intro _; rfl
  | succ n ih =>
    intro e
    show sumB_q10 g n + (if g n = true then 1 else 0) = sumB_q10 h n + (if h n = true then 1 else 0)
    rw [ih (fun i hi => e i (by omega)), e n (by omega)]
theorem sumB_f_q10 : ∀ n, sumB_q10 (fun _ => false) n = 0 := by
  intro n
  induction n with
  | zero => rfl
  | succ n ih => show sumB_q10 (fun _ => false) n + 0 = 0; rw [ih]
theorem sumB_le_q10 {g : Nat → Bool} : ∀ n, sumB_q10 g n ≤ n := by
  intro n
  induction n with
  | zero => exact Nat.le_refl _
  | succ n ih =>
    show sumB_q10 g n + (if g n = true then 1 else 0) ≤ n + 1
    split <;> omega
noncomputable def gC_q10 (f : Nat → Int32) (m k : Nat) (L : Int) (p : Nat) : Bool := decide (smN (fun _ => 1) m p = 2329089562800 * (k : Int) ∧ smN f m p ≤ L)
theorem cnt_cl_q10 {f : Nat → Int32} : ∀ (m k : Nat) (L : Int), sumB_q10 (gC_q10 f m k L) (2 ^ m) = kcN_q10 (flM9_q10 f m) k L := by
  intro m
  induction m with
  | zero =>
    intro k L
    have e0 : sumB_q10 (gC_q10 f 0 k L) (2 ^ 0) = 0 + (if gC_q10 f 0 k L 0 = true then 1 else 0) := rfl
    have eg : gC_q10 f 0 k L 0 = decide ((0 : Int) = 2329089562800 * (k : Int) ∧ (0 : Int) ≤ L) := rfl
    rw [e0, eg]
    cases k with
    | zero =>
      rw [clN_0_q10]
      by_cases q : (0 : Int) ≤ L <;> simp [q]
    | succ k =>
      have e1 : kcN_q10 (flM9_q10 f 0) (k + 1) L = 0 := rfl
      have hd : decide ((0 : Int) = 2329089562800 * ((k + 1 : Nat) : Int) ∧ (0 : Int) ≤ L) = false := decide_eq_false (fun z => by have := z.1; omega)
      rw [e1, hd]
      all_goals rfl
  | succ m ih =>
    intro k L
    have e : 2 ^ (m + 1) = 2 ^ m + 2 ^ m := by rw [Nat.pow_succ]; omega
    have h1 : sumB_q10 (gC_q10 f (m + 1) k L) (2 ^ m) = sumB_q10 (gC_q10 f m k L) (2 ^ m) := sumB_c_q10 _ (fun i hi => by unfold gC_q10; rw [smN_old hi, smN_old hi])
    rw [e, sumB_add_q10, h1, ih]
    cases k with
    | zero =>
      have h2 : sumB_q10 (fun i => gC_q10 f (m + 1) 0 L (2 ^ m + i)) (2 ^ m) = sumB_q10 (fun _ => false) (2 ^ m) := sumB_c_q10 _ (fun i hi => by
        unfold gC_q10
        rw [smN_new hi, prt1_q10]
        refine decide_eq_false (fun z => ?_)
        have h3 := (smN_in (fun _ => 1) m i).1
        have h4 := z.1
        omega)
      rw [h2, sumB_f_q10, Nat.add_zero, clN_0_q10, clN_0_q10]
    | succ k =>
      have h2 : sumB_q10 (fun i => gC_q10 f (m + 1) (k + 1) L (2 ^ m + i)) (2 ^ m) = sumB_q10 (gC_q10 f m k (L - prt (f m))) (2 ^ m) := sumB_c_q10 _ (fun i hi => by
        unfold gC_q10
        rw [smN_new hi, smN_new hi, prt1_q10]
        refine decide_eq_decide.mpr ⟨fun z => ⟨?_, ?_⟩, fun z => ⟨?_, ?_⟩⟩
        · have := z.1; omega
        · have := z.2; omega
        · have := z.1; omega
        · have := z.2; omega)
      rw [h2, ih k]
      show kcN_q10 (flM9_q10 f m) (k + 1) L + kcN_q10 (flM9_q10 f m) k (L - prt (f m)) = kcN_q10 (flM9_q10 f m ++ [prt (f m)]) (k + 1) L
      rw [clN_snoc_q10]; omega
/-! in how many ways k are taken of n -/
noncomputable def chV_q10 (a b : Int32) : Nat → Int32 → Int64 → Int64
  | 0, _, w => w
  | f + 1, i, w => if b < i then w else chV_q10 a b f (i + 1) ((w * Int32.toInt64 ((a - b) + i)) / Int32.toInt64 i)
noncomputable def cbn_q10 : Nat → Nat → Nat
  | _, 0 => 1
  | 0, _ + 1 => 0
  | n + 1, k + 1 => cbn_q10 n k + cbn_q10 n (k + 1)
theorem chV_c_q10 : ∀ n, n < 13 → ∀ k, k < 13 → k ≤ n → (chV_q10 (nI n) (nI k) 13 1 1).toInt = (cbn_q10 n k : Int) ∧ 0 < cbn_q10 n k := by decide +kernel
section FRL
variable {I I1 : Im} {J J1 : Jm} {R : Rm} {Q : Qt}
theorem px_cchoose_q10 {d : Nat} {a b : Int32} (hb : b.toInt ≤ 12) (hQ : Q 0 (chV_q10 a b 13 1 1) I J R) : AM (d + 1) 170 112 [.int a, .int b] I J R Q := by
  refine am_X11_choices (fun P hc => sg_X11_choices_0 hc _ _ _ _ _ ?_)
  have L : ∀ (f j : Nat) (w : Int64), j + f = 14 → 1 ≤ j → Q 0 (chV_q10 a b f (nI j) w) I J R → P 5 112 [(0, .int a), (1, .int b), (2, .long w), (4, .int (nI j))] [] I J R := by
    intro f
    induction f with
    | zero =>
      intro j w hj _ hQ
      refine sg_X11_choices_5 hc _ _ _ _ _ _ _ ⟨fun _ => hQ, fun c => absurd ?_ c⟩
      rw [Int32.lt_iff_toInt_lt, nI_toInt (by omega)]; omega
    | succ f ih =>
      intro j w hj h1 hQ
      refine sg_X11_choices_5 hc _ _ _ _ _ _ _ ⟨fun c => ?_, fun c => ⟨(ptL j (by omega) h1).2.2, ?_⟩⟩
      · have e : chV_q10 a b (f + 1) (nI j) w = w := if_pos c
        rw [e] at hQ; exact hQ
      · have e : chV_q10 a b (f + 1) (nI j) w = chV_q10 a b f (nI j + 1) ((w * Int32.toInt64 ((a - b) + nI j)) / Int32.toInt64 (nI j)) := if_neg c
        rw [e, nI_k1] at hQ
        rw [nI_k1]
        exact ih (j + 1) _ (by omega) (by omega) hQ
  exact L 13 1 1 (by decide) (by decide) hQ
theorem px_mchoose_q10 {d : Nat} {a b : Int32} (hb : b.toInt ≤ 12) (hQ : Q 0 (chV_q10 a b 13 1 1) I J R) : AM (d + 1) 301 112 [.int a, .int b] I J R Q := by
  refine am_X12_choices (fun P hc => sg_X12_choices_0 hc _ _ _ _ _ ?_)
  have L : ∀ (f j : Nat) (w : Int64), j + f = 14 → 1 ≤ j → Q 0 (chV_q10 a b f (nI j) w) I J R → P 5 112 [(0, .int a), (1, .int b), (2, .long w), (4, .int (nI j))] [] I J R := by
    intro f
    induction f with
    | zero =>
      intro j w hj _ hQ
      refine sg_X12_choices_5 hc _ _ _ _ _ _ _ ⟨fun _ => hQ, fun c => absurd ?_ c⟩
      rw [Int32.lt_iff_toInt_lt, nI_toInt (by omega)]; omega
    | succ f ih =>
      intro j w hj h1 hQ
      refine sg_X12_choices_5 hc _ _ _ _ _ _ _ ⟨fun c => ?_, fun c => ⟨(ptL j (by omega) h1).2.2, ?_⟩⟩
      · have e : chV_q10 a b (f + 1) (nI j) w = w := if_pos c
        rw [e] at hQ; exact hQ
      · have e : chV_q10 a b (f + 1) (nI j) w = chV_q10 a b f (nI j + 1) ((w * Int32.toInt64 ((a - b) + nI j)) / Int32.toInt64 (nI j)) := if_neg c
        rw [e, nI_k1] at hQ
        rw [nI_k1]
        exact ih (j + 1) _ (by omega) (by omega) hQ
  exact L 13 1 1 (by decide) (by decide) hQ
theorem px_cw9_q10 {d n k : Nat} {f : Nat → Int32} {c : Int64} {L : Int} (hB : Bd I) (hR : RI R) (hn : I 45 1 = nI n) (hn12 : n ≤ 12) (hk : k ≤ 12) (hc : c.toInt = L) (hJ : ∀ m, m < 2 ^ n → (J 47 m).toInt = smN f n m) (hQ : ∀ y : Int64, y.toInt = (kcN_q10 (flM9_q10 f n) k L : Nat) → Q 0 y I J R) : AM (d + 3) 93 112 [.ref 45, .int (nI k), .long c] I J R Q := by
  rw [← cnt_cl_q10] at hQ
  refine am_X9_countWithin (fun P hc2 => sg_X9_countWithin_0 hc2 _ _ _ _ _ ?_)
  have hp12 := p2_12 hn12
  have hsh : (1 : Int32) <<< (I 45 1 &&& 31) = nI (2 ^ n) := by rw [hn]; exact sh1_N n (by omega)
  have L6 : ∀ (g p : Nat) (y : Int64), p + g = 2 ^ n → y.toInt = (sumB_q10 (gC_q10 f n k L) p : Nat) → P 6 112 [(0, .ref 45), (1, .int (nI k)), (2, .long c), (4, .long y), (6, .int (nI p))] [] I J R := by
    intro g
    induction g with
    | zero =>
      intro p y hp hy
      have ep : p = 2 ^ n := by omega
      subst ep
      refine sg_X9_countWithin_6 hc2 _ _ _ _ _ _ _ ⟨fun _ => hQ y hy, fun z => absurd ?_ z⟩
      rw [hsh]
      all_goals exact Int32.le_refl _
    | succ g ih =>
      intro p y hp hy
      have hb := sumB_le_q10 (g := gC_q10 f n k L) p
      have hst : sumB_q10 (gC_q10 f n k L) (p + 1) = sumB_q10 (gC_q10 f n k L) p + (if gC_q10 f n k L p = true then 1 else 0) := rfl
      have hpi : (nI p).toInt = p := nI_toInt (by omega)
      have no : (¬ gC_q10 f n k L p = true) → P 6 112 [(0, .ref 45), (1, .int (nI k)), (2, .long c), (4, .long y), (6, .int (nI p + 1))] [] I J R := fun z => by
        rw [nI_k1]
        exact ih (p + 1) y (by omega) (by rw [hst, if_neg z]; exact hy)
      refine sg_X9_countWithin_6 hc2 _ _ _ _ _ _ _ ⟨fun z => absurd z ?_, fun _ => kpp rfl (sp_J6_bitCount_0f7a4 hB hR (fun x y2 I2 J2 hB2 px eI eJ eR => ?_))⟩
      · rw [hsh, le_i, hpi, nI_toInt (by omega)]; omega
      subst eJ
      obtain ⟨heI, px⟩ := px
      subst heI
      have hx := px ⟨by omega, by omega⟩
      have hm := pc_sm_q10 (M := p) (by omega) 30 (by decide)
      have hu := sm_up_q10 (f := fun _ => 1) (M := p) (n := n) (by omega) (30 - n)
      rw [show n + (30 - n) = 30 by omega] at hu
      rw [hu, ← hx] at hm
      refine ⟨fun z => no ?_, fun z => ⟨vp_of (a := (p : Int)) hpi (by omega) (by omega), fun z2 => no ?_, fun z2 => ?_⟩⟩
      · unfold gC_q10
        rw [decide_eq_true_eq]
        intro w
        refine z (Int32.toInt_inj.mp ?_)
        rw [nI_toInt (by omega)]
        have := w.1
        omega
      · rw [lg_cmp_gt, tn_nI (by omega)] at z2
        have z3 := cl_lt hc (hJ p (by omega)) z2
        unfold gC_q10
        rw [decide_eq_true_eq]
        intro w
        have := w.2
        omega
      · rw [lg_cmp_gt, tn_nI (by omega)] at z2
        have z3 := cl_nlt hc (hJ p (by omega)) z2
        have hx2 : x.toInt = k := by rw [z]; exact nI_toInt (by omega)
        have hg : gC_q10 f n k L p = true := by
          unfold gC_q10
          rw [decide_eq_true_eq]
          exact ⟨by omega, by omega⟩
        rw [nI_k1]
        refine ih (p + 1) _ (by omega) ?_
        rw [hst, if_pos hg, tl_add hy (show (1 : Int64).toInt = 1 from rfl) (by omega)]
        omega
  exact L6 (2 ^ n) 0 0 (by omega) rfl
theorem px_luk_q10 {A : Int32} (hA : 0 ≤ A.toInt) : ∀ (k f : Nat) (L : Int) (v4 : Int64) (d : Nat) (Q : Qt), k ≤ 12 → f ≤ 30 → v4.toInt = L → (k : Int) * 2329089562800 - 1000000000000000 ≤ L ∧ L ≤ 1000000000000000 → (∀ y : Int64, y.toInt = (kcN_q10 (lst9_q10 (SA A) f) k L : Nat) → Q 0 y I J R) → AM (d + k + 2) 300 112 [.ref 97, .int (nI k), .int (nI (31 - f)), .int A, .long v4] I J R Q := by
  intro k
  induction k with
  | zero =>
    intro f L v4 d Q _ _ hv hL hQ
    have z0 : (0 : Int64).toInt = 0 := rfl
    refine am_X12_lucks (fun P hc => sg_X12_lucks_0 hc _ _ _ _ _ _ _ ⟨fun z => absurd rfl z, fun _ => ⟨fun c => hQ 0 ?_, fun c => hQ 1 ?_⟩⟩)
    · rw [lg_cmp_lt] at c
      have c2 := cl_lt hv z0 c
      rw [clN_0_q10, if_neg (by omega)]; rfl
    · rw [lg_cmp_lt] at c
      have c2 := cl_nlt hv z0 c
      rw [clN_0_q10, if_pos (by omega)]; rfl
  | succ k ihk =>
    intro f L v4 d Q hk hf hv hL hQ
    rw [show d + (k + 1) + 2 = (d + k + 2) + 1 by omega]
    have hk0 : ¬ nI (k + 1) = 0 := fun z => by
      have := (nI_z9 (n := k + 1) (by omega)).mp z
      omega
    have e1 : (((k + 1 : Nat) : Int)) = (k : Int) + 1 := by omega
    rw [e1] at hL
    refine am_X12_lucks (fun P hc => sg_X12_lucks_0 hc _ _ _ _ _ _ _ ⟨fun _ => ?_, fun z => absurd z hk0⟩)
    have L23 : ∀ (g : Nat) (x : Int64) (a : Nat), g ≤ 30 → x.toInt = (a : Int) → a + kcN_q10 (lst9_q10 (SA A) g) (k + 1) L ≤ 1073741824 → (∀ y : Int64, y.toInt = ((a + kcN_q10 (lst9_q10 (SA A) g) (k + 1) L : Nat) : Int) → Q 0 y I J R) → P 23 112 [(0, .ref 97), (1, .int (nI (k + 1))), (3, .int A), (4, .long v4), (6, .long x), (8, .int (nI (31 - g)))] [] I J R := by
      intro g
      induction g with
      | zero =>
        intro x a _ hx _ hQ
        refine sg_X12_lucks_23 hc _ _ _ _ _ _ _ _ ⟨fun _ => hQ x ?_, fun c => absurd ((nlt_nI (a := 30) (b := 31 - 0) (by omega) (by omega)).mpr (by omega)) c⟩
        rw [hx]
        have e0 : kcN_q10 (lst9_q10 (SA A) 0) (k + 1) L = 0 := rfl
        rw [e0, Nat.add_zero]
      | succ g ih =>
        intro x a hg hx hT hQ
        have ed : 31 - (g + 1) = 30 - g := by omega
        obtain ⟨p1, p2, -⟩ := pt_b (d := 30 - g) (by omega) (by omega)
        rw [ed]
        refine sg_X12_lucks_23 hc _ _ _ _ _ _ _ _ ⟨fun c => absurd ((nlt_nI (a := 30) (by omega) (by omega)).mp c) (by omega), fun _ => px_isOf hA ((nle_nI (a := 1) (by omega) (by omega)).mpr (by omega)) ((nle_nI (b := 30) (by omega) (by omega)).mpr (by omega)) (fun hi _ => ⟨fun z => absurd z (by decide), fun _ => ?_⟩) (fun hi _ => ⟨fun _ => ?_, fun z => absurd rfl z⟩)⟩
        · have hS : SA A (30 - g) = true := hi
          have el : lst9_q10 (SA A) (g + 1) = pt (30 - g) :: lst9_q10 (SA A) g := if_pos hS
          rw [el, clN_c_q10] at hT hQ
          refine px_parts (by omega) (by omega) (fun y2 hy2 => ?_)
          rw [nIm1_q10 k (by omega), nx30 hg]
          refine ihk g (L - pt (30 - g)) _ d _ (by omega) (by omega) (tl_sub hv hy2 (by omega)) (by omega) (fun y3 hy3 => ?_)
          refine ih _ (a + kcN_q10 (lst9_q10 (SA A) g) k (L - pt (30 - g))) (by omega) ?_ (by omega) (fun y hy => hQ y (by rw [hy]; omega))
          rw [tl_add hx hy3 (by omega)]; omega
        · have hS : ¬ SA A (30 - g) = true := by
            have hi2 : SA A (30 - g) = false := hi
            rw [hi2]; exact Bool.false_ne_true
          have el : lst9_q10 (SA A) (g + 1) = lst9_q10 (SA A) g := if_neg hS
          rw [el] at hT hQ
          rw [nx30 hg]
          exact ih x a (by omega) hx hT hQ
    have hlen := lst9_le_q10 (S := SA A) f
    have hle := clN_le_q10 (lst9_q10 (SA A) f) (k + 1) L
    have h30 : 2 ^ (lst9_q10 (SA A) f).length ≤ 2 ^ 30 := Nat.pow_le_pow_right (by decide) (by omega)
    have e30 : 2 ^ 30 = 1073741824 := by decide
    refine L23 f 0 0 hf rfl (by omega) (fun y hy => hQ y (by rw [hy]; omega))
noncomputable def okL9_q10 (v1 v2 v3 v4 : Int32) : Prop := isPS v1 ∧ (0 ≤ v2.toInt ∧ v2.toInt ≤ 12) ∧ sh v3 v4 ∧ v2.toInt ≤ pcn v1 30
noncomputable def luN9_q10 (v1 v2 v3 v4 : Int32) : Int := (kcN_q10 (lst9_q10 (SA v1) 30) v2.toInt.toNat (shL v3 v4) : Nat)
noncomputable def luB9_q10 (v1 v2 : Int32) : Int := (cbn_q10 (pcn v1 30).toNat v2.toInt.toNat : Nat)
theorem luc9_q10 {v1 v2 v3 v4 : Int32} {n : Nat} (hn : (n : Int) = pcn v1 30) (h : okL9_q10 v1 v2 v3 v4) : ∃ k : Nat, v2 = nI k ∧ v2.toInt.toNat = k ∧ k ≤ n ∧ n ≤ 12 ∧ luB9_q10 v1 v2 = (chV_q10 (nI n) (nI k) 13 1 1).toInt ∧ 0 < luB9_q10 v1 v2 := by
  obtain ⟨h1, ⟨h2, h3⟩, -, h4⟩ := h
  have h12 := h1.2.2
  have hk : v2 = nI v2.toInt.toNat := nI_ofN h2
  have hc := chV_c_q10 n (by omega) v2.toInt.toNat (by omega) (by omega)
  have e : (pcn v1 30).toNat = n := by omega
  refine ⟨v2.toInt.toNat, hk, rfl, by omega, by omega, ?_, ?_⟩
  · unfold luB9_q10; rw [e]; exact hc.1.symm
  · unfold luB9_q10; rw [e]; have := hc.2; omega
theorem luN_b_q10 {v1 v2 v3 v4 : Int32} : 0 ≤ luN9_q10 v1 v2 v3 v4 := Int.natCast_nonneg _
theorem cf_luck {d : Nat} {v1 v2 v3 v4 : Int32} (hB : Bd I) (hR : RI R) (hJ : J 47 0 = 0) : AM (d + 5) 142 112 [.ref 1, .int v1, .int v2, .int v3, .int v4] I J R (fun x _ _ J2 _ => FrX 1 1 2 (okL9_q10 v1 v2 v3 v4) (luN9_q10 v1 v2 v3 v4) (luB9_q10 v1 v2) J J2 x) := by
  have z0 : (0 : Int32).toInt = 0 := rfl
  have z12 : (12 : Int32).toInt = 12 := rfl
  have no : ∀ (z : Int32) (I9 : Im), ¬ okL9_q10 v1 v2 v3 v4 → AM (d + 4) 150 112 [.ref 1, .int z] I9 J R (fun x1 _ I1 J1 _ => (x1 = 0 ∨ x1 = 1) → (((x1 : Int32) = 0 ∨ (x1 : Int32) = 1) ∧ FrX 1 1 2 (okL9_q10 v1 v2 v3 v4) (luN9_q10 v1 v2 v3 v4) (luB9_q10 v1 v2) J J1 x1)) := fun z I9 hz => w_X11_deny ⟨Or.inl rfl, fun _ => ⟨Or.inl rfl, FrX.n hz⟩⟩
  refine w_X11_luck (kpp rfl (sp_X11_isPlateSet hB hR (fun x1 y6 I2 J3 hB4 p5 eI1 eJ1 eR1 => ?_)))
  subst eJ1
  obtain ⟨heI2, p5⟩ := p5
  subst heI2
  intro o7
  refine ⟨fun c => no 5 I (fun z => ?_), fun c => ⟨fun c2 => no 5 I (fun z => ?_), fun c2 => ⟨fun c3 => no 5 I (fun z => ?_), fun c3 => px_isShare (fun hs _ => ⟨fun _ => kpp rfl (sp_J6_bitCount_0f7a4 hB hR (fun x6 y59 I55 J56 hB57 p58 eI2 eJ2 eR2 => ?_)), fun z => absurd z (by decide)⟩) (fun hs _ => ⟨fun z => absurd rfl z, fun _ => no 5 I (fun z => hs z.2.2.1)⟩)⟩⟩⟩
  · have := p5.2.2.2 z.1
    rw [c] at this; omega
  · have := ci_lt rfl z0 c2
    have := z.2.1.1
    omega
  · have := ci_lt z12 rfl c3
    have := z.2.1.2
    omega
  · subst eJ2
    obtain ⟨heI55, p58⟩ := p58
    subst heI55
    have h1 : isPS v1 := p5.2.2.1 (by
      rcases o7 with q | q
      · exact absurd q c
      · subst q; rfl)
    have hx := p58 ⟨h1.1, h1.2.1⟩
    have c2' := ci_nlt rfl z0 c2
    have c3' := ci_nlt z12 rfl c3
    refine ⟨fun c4 => ?_, fun c4 => no 8 I (fun z => c4 ?_)⟩
    · have c4' := ci_le rfl rfl c4
      have hok : okL9_q10 v1 v2 v3 v4 := ⟨h1, ⟨by omega, by omega⟩, hs, by omega⟩
      refine px_lay hB h1.1 h1.2.2 hJ (fun I7 J7 n hB7 hn hsz hmb hJ7 => ?_)
      obtain ⟨k, ek, etk, hkn, hn12, hd1, hd2⟩ := luc9_q10 hn hok
      have hI45 : I7 45 1 = nI n := Int32.toInt_inj.mp (by rw [hsz, nI_toInt (by omega)])
      have hb := shL_b hs
      have hnum : luN9_q10 v1 v2 v3 v4 = (kcN_q10 (flM9_q10 (msF v1 30) n) k (shL v3 v4) : Nat) := by unfold luN9_q10; rw [etk, fl_lst_q10 h1.1 hn]
      refine px_crumbs hs (fun y8 hy8 => ?_)
      subst ek
      refine px_cw9_q10 hB7 hR hI45 hn12 (by omega) hy8 hJ7 (fun y9 hy9 => ?_)
      rw [hI45]
      refine px_cchoose_q10 (by rw [nI_toInt (by omega)]; omega) (px_tell ?_ ?_ (fun _ => ⟨Or.inr rfl, FrX.yc (hy9.trans hnum.symm) hd1.symm hok⟩))
      · have := luN_b_q10 (v1 := v1) (v2 := nI k) (v3 := v3) (v4 := v4)
        omega
      · omega
    · have h5 := z.2.2.2
      rw [le_i]; omega
theorem px_mSet_q10 {d : Nat} {v : Int32} (hB : Bd I) (hR : RI R) (hY : isPS v → Q 1 0 I J R) (hN : ¬ isPS v → Q 0 0 I J R) : AM (d + 3) 296 112 [.int v] I J R Q := by
  have z0 : (0 : Int32).toInt = 0 := rfl
  have z12 : (12 : Int32).toInt = 12 := rfl
  have zM : (1073741823 : Int32).toInt = 1073741823 := rfl
  refine w_X12_isSet (px_isInI (lo := 0) (hi := 1073741823) (fun l1 l2 _ => ⟨fun z => absurd z (by decide), fun _ => kpp rfl (sp_X12_sizeOf hB hR (fun x y I2 J2 hB2 p eI eJ eR => ?_))⟩) (fun n1 _ => ⟨fun _ => ⟨Or.inl rfl, hN (fun z => n1.elim (fun y => ?_) (fun y => y ?_))⟩, fun z => absurd rfl z⟩))
  · subst eJ
    obtain ⟨heI, p⟩ := p
    subst heI
    have b1 := ci_le z0 rfl l1
    have b2 := ci_le rfl zM l2
    exact ⟨fun c => ⟨Or.inl rfl, hN (fun z => by have := ci_lt z12 rfl c; have := z.2.2; omega)⟩, fun c => ⟨Or.inr rfl, hY ⟨b1, b2, by have := ci_nlt z12 rfl c; omega⟩⟩⟩
  · have := ci_lt rfl z0 y
    have := z.1
    omega
  · rw [le_i, zM]; exact z.2.1
theorem mf_luck {d : Nat} {v1 v2 v3 v4 : Int32} (hB1 : Bd I1) (hR : RI R) : AM (d + 18) 302 112 [.ref 97, .int v1, .int v2, .int v3, .int v4] I1 J1 R (fun x _ _ J2 _ => FrX 97 2 3 (okL9_q10 v1 v2 v3 v4) (luN9_q10 v1 v2 v3 v4) (luB9_q10 v1 v2) J1 J2 x) := by
  have z0 : (0 : Int32).toInt = 0 := rfl
  have z12 : (12 : Int32).toInt = 12 := rfl
  have hB2 : Bd (uI I1 97 1 0) := Bd.o0 hB1 (show isO 112 97 12 = true from rfl) (by decide) (show bnd 12 1 = none from rfl)
  have hB3 : Bd (uI (uI I1 97 1 0) 97 0 0) := Bd.o0 hB2 (show isO 112 97 12 = true from rfl) (by decide) (show bnd 12 0 = none from rfl)
  have no : ∀ (z : Int32), ¬ okL9_q10 v1 v2 v3 v4 → AM (d + 17) 177 112 [.ref 97, .int z] (uI (uI I1 97 1 0) 97 0 0) J1 R (fun x1 _ _ J9 _ => (x1 = 0 ∨ x1 = 1) → (((x1 : Int32) = 0 ∨ (x1 : Int32) = 1) ∧ FrX 97 2 3 (okL9_q10 v1 v2 v3 v4) (luN9_q10 v1 v2 v3 v4) (luB9_q10 v1 v2) J1 J9 x1)) := fun z hz => w_X12_no ⟨Or.inl rfl, fun _ => ⟨Or.inl rfl, FrX.n hz⟩⟩
  refine w_X12_luck (px_mSet_q10 hB3 hR (fun h1 _ => ⟨fun z => absurd z (by decide), fun _ => px_isInI (lo := 0) (hi := 12) (fun l1 l2 _ => ⟨fun z => absurd z (by decide), fun _ => px_mShare (fun hs _ => ⟨fun _ => kpp rfl (sp_X12_sizeOf hB3 hR (fun x6 y I2 J2 hB4 p eI eJ eR => ?_)), fun z => absurd z (by decide)⟩) (fun hs _ => ⟨fun z => absurd rfl z, fun _ => no 5 (fun z => hs z.2.2.1)⟩)⟩) (fun n1 _ => ⟨fun _ => no 5 (fun z => n1.elim (fun y => ?_) (fun y => y ?_)), fun z => absurd rfl z⟩)⟩) (fun h1 _ => ⟨fun _ => no 5 (fun z => h1 z.1), fun z => absurd rfl z⟩))
  · subst eJ
    obtain ⟨heI, p⟩ := p
    subst heI
    have b1 := ci_le z0 rfl l1
    have b2 := ci_le rfl z12 l2
    refine ⟨fun c4 => ?_, fun c4 => no 8 (fun z => c4 ?_)⟩
    · have c4' := ci_le rfl rfl c4
      have hok : okL9_q10 v1 v2 v3 v4 := ⟨h1, ⟨by omega, by omega⟩, hs, by omega⟩
      have hpn := pcn_nn (s := v1) 30
      obtain ⟨k, ek, etk, hkn, hn12, hd1, hd2⟩ := luc9_q10 (n := (pcn v1 30).toNat) (by omega) hok
      have hb := shL_b hs
      have hnum : luN9_q10 v1 v2 v3 v4 = (kcN_q10 (lst9_q10 (SA v1) 30) k (shL v3 v4) : Nat) := by unfold luN9_q10; rw [etk]
      refine px_shareOf hs (fun y8 hy8 => ?_)
      subst ek
      have e17 : d + 17 = (d + (15 - k)) + k + 2 := by omega
      rw [e17]
      refine px_luk_q10 h1.1 k 30 _ _ _ _ (by omega) (by decide) hy8 (by omega) (fun y9 q0 => ?_)
      have q1 : y9.toInt = luN9_q10 v1 (nI k) v3 v4 := q0.trans hnum.symm
      refine kpp rfl (sp_X12_sizeOf hB3 hR (fun x7 y7 I7 J7 hB7 p7 eI7 eJ7 eR7 => ?_))
      subst eJ7
      obtain ⟨heI7, p7⟩ := p7
      subst heI7
      have hx7 : x7 = nI (pcn v1 30).toNat := Int32.toInt_inj.mp (by rw [nI_toInt (by omega)]; omega)
      rw [hx7]
      refine px_mchoose_q10 (by rw [nI_toInt (by omega)]; omega) (px_frac ?_ ?_ (fun _ => ⟨Or.inr rfl, FrX.ym q1 hd1.symm hok⟩))
      · have := luN_b_q10 (v1 := v1) (v2 := nI k) (v3 := v3) (v4 := v4)
        omega
      · omega
    · have h5 := z.2.2.2
      rw [le_i]; omega
  · have := ci_lt rfl z0 y
    have := z.2.1.1
    omega
  · rw [le_i, z12]; exact z.2.1.2
end FRL
end PT16x2
section PT16x3
/-! ===== burnt(): the odds that so many loaves burn, both sides, in longs as they wrap ===== -/
theorem i64_o_q10 {a : Int32} : Int32.toInt64 a = Int64.ofInt a.toInt := by
  have h : (Int32.toInt64 a).toInt = a.toInt := tl_i2l rfl
  rw [← h, Int64.ofInt_toInt]
noncomputable def pwV_q10 (a : Int32) : Nat → Int64 → Int64
  | 0, w => w
  | f + 1, w => pwV_q10 a f (w * Int32.toInt64 a)
theorem pwV_o_q10 {a : Int32} : ∀ (m : Nat) (W : Int), pwV_q10 a m (Int64.ofInt W) = Int64.ofInt (W * a.toInt ^ m) := by
  intro m
  induction m with
  | zero => intro W; rw [Int.pow_zero, Int.mul_one]; rfl
  | succ m ih =>
    intro W
    show pwV_q10 a m (Int64.ofInt W * Int32.toInt64 a) = _
    rw [i64_o_q10, ← Int64.ofInt_mul, ih, Int.pow_succ, Int.mul_assoc, Int.mul_comm a.toInt]
theorem cbn_0_q10 : ∀ n k, n < k → cbn_q10 n k = 0 := by
  intro n
  induction n with
  | zero =>
    intro k h
    cases k with
    | zero => omega
    | succ k => rfl
  | succ n ih =>
    intro k h
    cases k with
    | zero => omega
    | succ k =>
      show cbn_q10 n k + cbn_q10 n (k + 1) = 0
      rw [ih k (by omega), ih (k + 1) (by omega)]
theorem cbn_k0_q10 {n : Nat} : cbn_q10 n 0 = 1 := by cases n <;> rfl
noncomputable def tmZ_q10 (o q : Int) (n j : Nat) : Int := (cbn_q10 n j : Int) * o ^ j * q ^ (n - j)
theorem tmZ_0_q10 {o q : Int} {n j : Nat} (h : n < j) : tmZ_q10 o q n j = 0 := by unfold tmZ_q10; rw [cbn_0_q10 n j h]; simp
theorem tmZ_z_q10 {o q : Int} {n : Nat} : tmZ_q10 o q (n + 1) 0 = tmZ_q10 o q n 0 * q := by
  unfold tmZ_q10
  rw [cbn_k0_q10, cbn_k0_q10, Nat.sub_zero, Nat.sub_zero, Int.pow_succ]
  exact (Int.mul_assoc _ _ _).symm
theorem tmZ_s_q10 {o q : Int} {n i : Nat} : tmZ_q10 o q (n + 1) (i + 1) = tmZ_q10 o q n (i + 1) * q + tmZ_q10 o q n i * o := by
  have e0 : ((cbn_q10 (n + 1) (i + 1) : Nat) : Int) = (cbn_q10 n i : Int) + (cbn_q10 n (i + 1) : Int) := by
    rw [← Int.natCast_add]; rfl
  have e1 : n + 1 - (i + 1) = n - i := by omega
  unfold tmZ_q10
  rw [e0, e1, Int.pow_succ o i, Int.add_mul, Int.add_mul]
  generalize o ^ i = a
  have e2 : (cbn_q10 n i : Int) * (a * o) * q ^ (n - i) = (cbn_q10 n i : Int) * a * q ^ (n - i) * o := by
    rw [← Int.mul_assoc, Int.mul_right_comm]
  by_cases z : i + 1 ≤ n
  · have e3 : q ^ (n - i) = q ^ (n - (i + 1)) * q := by
      rw [← Int.pow_succ]; exact congrArg (fun z => q ^ z) (by omega)
    have e4 : (cbn_q10 n (i + 1) : Int) * (a * o) * q ^ (n - i) = (cbn_q10 n (i + 1) : Int) * (a * o) * q ^ (n - (i + 1)) * q := by
      rw [e3, ← Int.mul_assoc]
    rw [e2, e4]; exact Int.add_comm _ _
  · rw [e2, cbn_0_q10 n (i + 1) (by omega)]
    simp
/-- from 13 - g on -/
noncomputable def csZ_q10 (o q : Int) (n : Nat) : Nat → Int
  | 0 => 0
  | g + 1 => tmZ_q10 o q n (12 - g) + csZ_q10 o q n g
theorem csZ_0_q10 {o q : Int} {n : Nat} : ∀ g, g ≤ 13 → n < 13 - g → csZ_q10 o q n g = 0 := by
  intro g
  induction g with
  | zero => intro _ _; rfl
  | succ g ih =>
    intro hg h
    show tmZ_q10 o q n (12 - g) + csZ_q10 o q n g = 0
    have h1 := tmZ_0_q10 (o := o) (q := q) (n := n) (j := 12 - g) (by omega)
    have h2 := ih (by omega) (by omega)
    omega
theorem p16_c_q10 : ∀ n, n < 13 → (Int64.ofInt ((16 : Int) ^ n)).toInt = (16 : Int) ^ n ∧ 0 < (16 : Int) ^ n ∧ (-9223372036854775808 : Int64) - (-9223372036854775808) / Int64.ofInt ((16 : Int) ^ n) * Int64.ofInt ((16 : Int) ^ n) = 0 := by decide +kernel
theorem m16_q10 {n : Nat} {t : Int64} (hn : n ≤ 12) : -9223372036854775808 < t.toInt ∨ t - t / Int64.ofInt ((16 : Int) ^ n) * Int64.ofInt ((16 : Int) ^ n) = 0 := by
  by_cases q : -9223372036854775808 < t.toInt
  · exact Or.inl q
  · have h2 := (i64 t).1
    have e : t = -9223372036854775808 := Int64.toInt_inj.mp (by rw [show (-9223372036854775808 : Int64).toInt = -9223372036854775808 by decide]; omega)
    rw [e]
    exact Or.inr (p16_c_q10 n (by omega)).2.2
theorem o64_1_q10 : Int64.ofInt 1 = 1 := by decide
theorem o64_0_q10 : (0 : Int64) = Int64.ofInt 0 := by decide
theorem o64_16_q10 : (16 : Int64) = Int64.ofInt 16 := by decide
theorem o64_p_q10 : (1 : Int64) = Int64.ofInt ((16 : Int) ^ 0) := by decide
theorem nIdn_q10 : ∀ i, i < 13 → nI (i + 1) + (-1) = nI i ∧ nI (i + 1) - 1 = nI i := by decide +kernel
theorem nIdn0_q10 : nI 0 + (-1) = (-1 : Int32) := by decide
noncomputable def okB9_q10 (v1 v2 : Int32) : Prop := (0 ≤ v1.toInt ∧ v1.toInt ≤ 12) ∧ (0 ≤ v2.toInt ∧ v2.toInt ≤ 12)
noncomputable def buN9_q10 (od v1 v2 : Int32) : Int := (Int64.ofInt (csZ_q10 od.toInt (16 - od).toInt v1.toInt.toNat (13 - v2.toInt.toNat))).toInt
noncomputable def buB9_q10 (v1 : Int32) : Int := (16 : Int) ^ v1.toInt.toNat
theorem W9.odd {I : Im} {R : Rm} (h : W9 I R) : I (R 1 7) 1 = I 102 1 := h.1.2.1.1
section FRU
variable {I I1 : Im} {J J1 : Jm} {R : Rm} {Q : Qt}
theorem px_power_q10 {d m : Nat} {a : Int32} (hm : m ≤ 12) (hQ : Q 0 (pwV_q10 a m 1) I J R) : AM (d + 1) 169 112 [.int a, .int (nI m)] I J R Q := by
  refine am_X11_power (fun P hc => sg_X11_power_0 hc _ _ _ _ _ ?_)
  have L : ∀ (f i : Nat) (w : Int64), i + f = m → Q 0 (pwV_q10 a f w) I J R → P 5 112 [(0, .int a), (1, .int (nI m)), (2, .long w), (4, .int (nI i))] [] I J R := by
    intro f
    induction f with
    | zero =>
      intro i w hi hQ2
      have e : i = m := by omega
      subst e
      exact sg_X11_power_5 hc _ _ _ _ _ _ _ ⟨fun _ => hQ2, fun c => absurd (Int32.le_refl _) c⟩
    | succ f ih =>
      intro i w hi hQ
      refine sg_X11_power_5 hc _ _ _ _ _ _ _ ⟨fun c => absurd ((nle_nI (by omega) (by omega)).mp c) (by omega), fun _ => ?_⟩
      rw [nI_k1]
      exact ih (i + 1) _ (by omega) hQ
  exact L m 0 1 (by omega) hQ
theorem cf_burnt {d : Nat} {v1 v2 : Int32} (hR : RI R) (eo : I (R 1 7) 1 = I 102 1) : AM (d + 4) 143 112 [.ref 1, .int v1, .int v2] I J R (fun x _ _ J2 _ => FrX 1 1 2 (okB9_q10 v1 v2) (buN9_q10 (I 102 1) v1 v2) (buB9_q10 v1) J J2 x) := by
  have hO := hR.now.1
  have z0 : (0 : Int32).toInt = 0 := rfl
  have z12 : (12 : Int32).toInt = 12 := rfl
  have no : ∀ (z : Int32) (I9 : Im), ¬ okB9_q10 v1 v2 → AM (d + 3) 150 112 [.ref 1, .int z] I9 J R (fun x1 _ I1 J1 _ => (x1 = 0 ∨ x1 = 1) → (((x1 : Int32) = 0 ∨ (x1 : Int32) = 1) ∧ FrX 1 1 2 (okB9_q10 v1 v2) (buN9_q10 (I 102 1) v1 v2) (buB9_q10 v1) J J1 x1)) := fun z I9 hz => w_X11_deny ⟨Or.inl rfl, fun _ => ⟨Or.inl rfl, FrX.n hz⟩⟩
  refine am_X11_burnt (fun P hc => sg_X11_burnt_0 hc _ _ _ _ _ ⟨fun c => no 5 I (fun z => ?_), fun c1 => ⟨fun c => no 5 I (fun z => ?_), fun c2 => ⟨fun c => no 5 I (fun z => ?_), fun c3 => ⟨fun c4 => ?_, fun c => no 5 I (fun z => c ?_)⟩⟩⟩⟩)
  · have := ci_lt rfl z0 c
    have := z.1.1
    omega
  · have := ci_lt z12 rfl c
    have := z.1.2
    omega
  · have := ci_lt rfl z0 c
    have := z.2.1
    omega
  · have b1 := ci_nlt rfl z0 c1
    have b2 := ci_nlt z12 rfl c2
    have b3 := ci_nlt rfl z0 c3
    have b4 := ci_le rfl z12 c4
    have hok : okB9_q10 v1 v2 := ⟨⟨b1, b2⟩, b3, b4⟩
    obtain ⟨n, en, hn⟩ : ∃ n : Nat, v1 = nI n ∧ n ≤ 12 := ⟨v1.toInt.toNat, nI_ofN b1, by omega⟩
    obtain ⟨k, ek, hk⟩ : ∃ k : Nat, v2 = nI k ∧ k ≤ 12 := ⟨v2.toInt.toNat, nI_ofN b3, by omega⟩
    have tn' : v1.toInt.toNat = n := by rw [en, nI_toInt (by omega)]; omega
    have tk' : v2.toInt.toNat = k := by rw [ek, nI_toInt (by omega)]; omega
    have hN : buN9_q10 (I 102 1) v1 v2 = (Int64.ofInt (csZ_q10 (I 102 1).toInt (16 - I 102 1).toInt n (13 - k))).toInt := by unfold buN9_q10; rw [tn', tk']
    have hD : buB9_q10 v1 = (16 : Int) ^ n := by unfold buB9_q10; rw [tn']
    generalize ho : (I 102 1).toInt = o at hN
    generalize hq : (16 - I 102 1 : Int32).toInt = q at hN
    obtain ⟨p1, p2, -⟩ := p16_c_q10 n (by omega)
    subst en
    subst ek
    have fin : ∀ (x : Int64), x = Int64.ofInt (csZ_q10 o q n (13 - k)) → AM (d + 3) 169 112 [.int 16, .int (nI n)] I J R (fun _ y1 I1 J1 R1 => AM (d + 3) 155 112 [.ref 1, .long x, .long y1] I1 J1 R (fun x2 _ I2 J2 R2 => (x2 = 0 ∨ x2 = 1) → (((x2 : Int32) = 0 ∨ (x2 : Int32) = 1) ∧ FrX 1 1 2 (okB9_q10 (nI n) (nI k)) (buN9_q10 (I 102 1) (nI n) (nI k)) (buB9_q10 (nI n)) J J2 x2))) := fun x hx => by
      have h16 : pwV_q10 16 n 1 = Int64.ofInt ((16 : Int) ^ n) := by
        have h := pwV_o_q10 (a := 16) n 1
        rw [Int.one_mul, o64_1_q10, show (16 : Int32).toInt = 16 from rfl] at h
        exact h
      refine px_power_q10 hn ?_
      rw [h16]
      exact px_tellM (m16_q10 hn) (by rw [p1]; exact p2) (fun _ => ⟨Or.inr rfl, FrX.yc (by rw [hx]; exact hN.symm) (p1.trans hD.symm) hok⟩)
    have L : ∀ (g : Nat) (x : Int64) (a : Int), g ≤ 13 → x = Int64.ofInt a → a + csZ_q10 o q n g = csZ_q10 o q n (13 - k) → P 31 112 [(0, .ref 1), (1, .int (nI n)), (3, .long x), (5, .int (nI (13 - g)))] [] I J R := by
      intro g
      induction g with
      | zero =>
        intro x a _ hx ha
        have ha2 : a + 0 = csZ_q10 o q n (13 - k) := ha
        refine sg_X11_burnt_31 hc _ _ _ _ _ _ ⟨fun _ => fin x (by rw [hx, ← ha2, Int.add_zero]), fun c => absurd ((nlt_nI (b := 13 - 0) (by omega) (by omega)).mpr (by omega)) c⟩
      | succ g ih =>
        intro x a hg hx ha
        have ed : 13 - (g + 1) = 12 - g := by omega
        have ha2 : a + (tmZ_q10 o q n (12 - g) + csZ_q10 o q n g) = csZ_q10 o q n (13 - k) := ha
        rw [ed]
        refine sg_X11_burnt_31 hc _ _ _ _ _ _ ⟨fun c => fin x ?_, fun c => ?_⟩
        · have c' := (nlt_nI (by omega) (by omega)).mp c
          have z := csZ_0_q10 (o := o) (q := q) (n := n) (g + 1) hg (by omega)
          rw [z, Int.add_zero] at ha
          rw [hx, ha]
        · have c' : 12 - g ≤ n := Nat.le_of_not_lt (fun y => c ((nlt_nI (by omega) (by omega)).mpr y))
          have hch : chV_q10 (nI n) (nI (12 - g)) 13 1 1 = Int64.ofInt (cbn_q10 n (12 - g) : Int) := by
            rw [← (chV_c_q10 n (by omega) (12 - g) (by omega) c').1, Int64.ofInt_toInt]
          have pa : pwV_q10 (I 102 1) (12 - g) 1 = Int64.ofInt (o ^ (12 - g)) := by
            have h := pwV_o_q10 (a := I 102 1) (12 - g) 1
            rw [Int.one_mul, o64_1_q10, ho] at h
            exact h
          have pb : pwV_q10 (16 - I 102 1) (n - (12 - g)) 1 = Int64.ofInt (q ^ (n - (12 - g))) := by
            have h := pwV_o_q10 (a := 16 - I 102 1) (n - (12 - g)) 1
            rw [Int.one_mul, o64_1_q10, hq] at h
            exact h
          refine px_cchoose_q10 (by rw [nI_toInt (by omega)]; omega) ⟨hR.now.2, bif_t hO ?_⟩
          rw [eo]
          refine px_power_q10 (by omega) ⟨hR.now.2, bif_t hO ?_⟩
          rw [eo, nI_sub (by omega) c']
          refine px_power_q10 (by omega) ?_
          rw [nI_k1, show 12 - g + 1 = 13 - g by omega]
          refine ih _ (a + tmZ_q10 o q n (12 - g)) (by omega) ?_ (by omega)
          rw [hx, hch, pa, pb, ← Int64.ofInt_mul, ← Int64.ofInt_mul, ← Int64.ofInt_add]; rfl
    have := L (13 - k) 0 0 (by omega) o64_0_q10 (by omega)
    rw [show 13 - (13 - k) = k by omega] at this
    exact this
  · rw [le_i, z12]; exact z.2.2
theorem mf_burnt {d : Nat} {v1 v2 : Int32} (e102 : I1 102 = I 102) : AM (d + 4) 303 112 [.ref 97, .int v1, .int v2] I1 J1 R (fun x _ _ J2 _ => FrX 97 2 3 (okB9_q10 v1 v2) (buN9_q10 (I 102 1) v1 v2) (buB9_q10 v1) J1 J2 x) := by
  have z0 : (0 : Int32).toInt = 0 := rfl
  have z12 : (12 : Int32).toInt = 12 := rfl
  have e : uI (uI I1 97 1 0) 97 0 0 102 = I 102 := ((uI_ne (by decide)).trans (uI_ne (by decide))).trans e102
  have no : ∀ (z : Int32), ¬ okB9_q10 v1 v2 → AM (d + 3) 177 112 [.ref 97, .int z] (uI (uI I1 97 1 0) 97 0 0) J1 R (fun x1 _ _ J9 _ => (x1 = 0 ∨ x1 = 1) → (((x1 : Int32) = 0 ∨ (x1 : Int32) = 1) ∧ FrX 97 2 3 (okB9_q10 v1 v2) (buN9_q10 (I 102 1) v1 v2) (buB9_q10 v1) J1 J9 x1)) := fun z hz => w_X12_no ⟨Or.inl rfl, fun _ => ⟨Or.inl rfl, FrX.n hz⟩⟩
  refine am_X12_burnt (fun P hc => sg_X12_burnt_0 hc _ _ _ _ _ (px_isInI (lo := 0) (hi := 12) (fun l1 l2 _ => ⟨fun z => absurd z (by decide), fun _ => px_isInI (lo := 0) (hi := 12) (fun l3 l4 _ => ⟨fun _ => ?_, fun z => absurd z (by decide)⟩) (fun n1 _ => ⟨fun z => absurd rfl z, fun _ => no 5 (fun z => n1.elim (fun y => ?_) (fun y => y ?_))⟩)⟩) (fun n1 _ => ⟨fun _ => no 5 (fun z => n1.elim (fun y => ?_) (fun y => y ?_)), fun z => absurd rfl z⟩)))
  · have b1 := ci_le z0 rfl l1
    have b2 := ci_le rfl z12 l2
    have b3 := ci_le z0 rfl l3
    have b4 := ci_le rfl z12 l4
    have hok : okB9_q10 v1 v2 := ⟨⟨b1, b2⟩, b3, b4⟩
    obtain ⟨n, en, hn⟩ : ∃ n : Nat, v1 = nI n ∧ n ≤ 12 := ⟨v1.toInt.toNat, nI_ofN b1, by omega⟩
    obtain ⟨k, ek, hk⟩ : ∃ k : Nat, v2 = nI k ∧ k ≤ 12 := ⟨v2.toInt.toNat, nI_ofN b3, by omega⟩
    have tn' : v1.toInt.toNat = n := by rw [en, nI_toInt (by omega)]; omega
    have tk' : v2.toInt.toNat = k := by rw [ek, nI_toInt (by omega)]; omega
    have hN : buN9_q10 (I 102 1) v1 v2 = (Int64.ofInt (csZ_q10 (I 102 1).toInt (16 - I 102 1).toInt n (13 - k))).toInt := by unfold buN9_q10; rw [tn', tk']
    have hD : buB9_q10 v1 = (16 : Int) ^ n := by unfold buB9_q10; rw [tn']
    have t1 : Int32.toNatClampNeg 1 = 1 := rfl
    have hoI : Int32.toInt64 (I 102 1) = Int64.ofInt (I 102 1).toInt := i64_o_q10
    have hqI : Int32.toInt64 (16 - I 102 1) = Int64.ofInt (16 - I 102 1 : Int32).toInt := i64_o_q10
    generalize (I 102 1).toInt = o at hN hoI
    generalize (16 - I 102 1 : Int32).toInt = q at hN hqI
    subst en
    subst ek
    -- the sum
    have L3 : ∀ (JN : Jm) (v3 : Int64), v3 = Int64.ofInt ((16 : Int) ^ n) → (∀ i, i < 13 → JN 111 i = Int64.ofInt (tmZ_q10 o q n i)) → ∀ (g : Nat) (x : Int64) (a : Int), g ≤ 13 → x = Int64.ofInt a → a + csZ_q10 o q n g = csZ_q10 o q n (13 - k) → P 169 112 [(0, .ref 97), (3, .long v3), (5, .long x), (7, .int (nI (13 - g)))] [] (uI (uI I1 97 1 0) 97 0 0) JN R := by
      intro JN v3 h3 hJ g
      obtain ⟨p1, p2, -⟩ := p16_c_q10 n (by omega)
      induction g with
      | zero =>
        intro x a _ hx ha
        have ha2 : a + 0 = csZ_q10 o q n (13 - k) := ha
        refine sg_X12_burnt_169 hc _ _ _ _ _ _ ⟨fun _ => ?_, fun c => absurd ((nlt_nI (a := 12) (b := 13 - 0) (by omega) (by omega)).mpr (by omega)) c⟩
        rw [h3]
        exact px_fracM (m16_q10 hn) (by rw [p1]; exact p2) (fun _ => ⟨Or.inr rfl, FrX.ym (by rw [hx, hN, ← ha2, Int.add_zero]) (p1.trans hD.symm) hok⟩)
      | succ g ih =>
        intro x a hg hx ha
        have ed : 13 - (g + 1) = 12 - g := by omega
        have ha2 : a + (tmZ_q10 o q n (12 - g) + csZ_q10 o q n g) = csZ_q10 o q n (13 - k) := ha
        rw [ed]
        refine sg_X12_burnt_169 hc _ _ _ _ _ _ ⟨fun c => absurd ((nlt_nI (a := 12) (by omega) (by omega)).mp c) (by omega), fun _ => ⟨vp_nI (by omega) (by omega), ?_⟩⟩
        rw [tn_nI (by omega), nI_k1, show 12 - g + 1 = 13 - g by omega]
        refine ih _ (a + tmZ_q10 o q n (12 - g)) (by omega) ?_ (by omega)
        rw [hx, hJ _ (by omega), ← Int64.ofInt_add]
    -- one loaf more
    have L2 : ∀ (f j : Nat) (JN : Jm) (v3 : Int64), j + f = n → v3 = Int64.ofInt ((16 : Int) ^ j) → (∀ i, i < 13 → JN 111 i = Int64.ofInt (tmZ_q10 o q j i)) → P 78 112 [(0, .ref 97), (1, .int (nI n)), (2, .int (nI k)), (3, .long v3), (5, .int (nI j))] [] (uI (uI I1 97 1 0) 97 0 0) JN R := by
      intro f
      induction f with
      | zero =>
        intro j JN v3 hj h3 hJ
        have e : j = n := by omega
        subst e
        refine sg_X12_burnt_78 hc _ _ _ _ _ _ _ ⟨fun _ => ?_, fun c => absurd (Int32.le_refl _) c⟩
        have := L3 JN v3 h3 hJ (13 - k) 0 0 (by omega) o64_0_q10 (by omega)
        rw [show 13 - (13 - k) = k by omega] at this
        exact this
      | succ f ih =>
        intro j JN v3 hj h3 hJ
        refine sg_X12_burnt_78 hc _ _ _ _ _ _ _ ⟨fun c => absurd ((nle_nI (by omega) (by omega)).mp c) (by omega), fun _ => ?_⟩
        have nx : ∀ (JM : Jm), (∀ i, i < 13 → JM 111 i = Int64.ofInt (tmZ_q10 o q (j + 1) i)) → P 88 112 [(0, .ref 97), (1, .int (nI n)), (2, .int (nI k)), (3, .long v3), (5, .int (nI j)), (6, .int (-1))] [] (uI (uI I1 97 1 0) 97 0 0) JM R := fun JM hM => by
          refine sg_X12_burnt_88 hc _ _ _ _ _ _ _ _ ⟨fun _ => ?_, fun c => absurd (show (-1 : Int32) < 0 by decide) c⟩
          rw [nI_k1]
          refine ih (j + 1) JM _ (by omega) ?_ hM
          rw [h3, o64_16_q10, ← Int64.ofInt_mul, Int.pow_succ]
        have L88 : ∀ (i : Nat) (JM : Jm), i < 13 → (∀ t, t ≤ i → JM 111 t = Int64.ofInt (tmZ_q10 o q j t)) → (∀ t, i < t → t < 13 → JM 111 t = Int64.ofInt (tmZ_q10 o q (j + 1) t)) → P 88 112 [(0, .ref 97), (1, .int (nI n)), (2, .int (nI k)), (3, .long v3), (5, .int (nI j)), (6, .int (nI i))] [] (uI (uI I1 97 1 0) 97 0 0) JM R := by
          intro i
          induction i with
          | zero =>
            intro JM _ h1 h2
            refine sg_X12_burnt_88 hc _ _ _ _ _ _ _ _ ⟨fun c => absurd c (by decide), fun _ => ⟨vp_nI (by omega) (by omega), vp_of (a := 1) rfl (by decide) (by decide), fun _ => ⟨vp_nI (by omega) (by omega), ?_⟩, fun c => absurd (Int32.le_refl _) c⟩⟩
            rw [tn_nI (by omega), t1, e, nIdn0_q10]
            refine nx _ (fun t ht => ?_)
            by_cases w : t = 0
            · subst w
              rw [jd_eq, h1 0 (Nat.le_refl _), hqI, Int64.add_zero, ← Int64.ofInt_mul, tmZ_z_q10]
            · rw [jd_k w]; exact h2 t (by omega) ht
          | succ i ih2 =>
            intro JM hi h1 h2
            obtain ⟨d1, d2⟩ := nIdn_q10 i (by omega)
            refine sg_X12_burnt_88 hc _ _ _ _ _ _ _ _ ⟨fun c => absurd c ?_, fun _ => ⟨vp_nI (by omega) (by omega), vp_of (a := 1) rfl (by decide) (by decide), fun c => absurd c ?_, fun _ => ?_⟩⟩
            · rw [Int32.lt_iff_toInt_lt, nI_toInt (by omega)]; omega
            · rw [le_i, nI_toInt (by omega)]; omega
            rw [d2, d1, tn_nI (by omega), tn_nI (by omega), t1, e]
            refine ⟨vp_nI (by omega) (by omega), vp_of (a := 1) rfl (by decide) (by decide), vp_nI (by omega) (by omega), ih2 _ (by omega) (fun t ht => ?_) (fun t ht1 ht2 => ?_)⟩
            · rw [jd_k (by omega)]; exact h1 t (by omega)
            · by_cases w : t = i + 1
              · subst w
                rw [jd_eq, h1 (i + 1) (Nat.le_refl _), h1 i (by omega), hqI, hoI, ← Int64.ofInt_mul, ← Int64.ofInt_mul, ← Int64.ofInt_add, tmZ_s_q10]
              · rw [jd_k w]; exact h2 t (by omega) ht2
        exact L88 12 JN (by decide) (fun t ht => hJ t (by omega)) (fun t h1 h2 => by omega)
    -- none yet
    have L1 : ∀ (f i : Nat) (JN : Jm), i + f = 13 → (∀ t, t < i → JN 111 t = Int64.ofInt (tmZ_q10 o q 0 t)) → P 45 112 [(0, .ref 97), (1, .int (nI n)), (2, .int (nI k)), (3, .long 1), (5, .int (nI i))] [] (uI (uI I1 97 1 0) 97 0 0) JN R := by
      intro f
      induction f with
      | zero =>
        intro i JN hi hJ
        exact sg_X12_burnt_45 hc _ _ _ _ _ _ _ ⟨fun _ => L2 n 0 JN 1 (by omega) o64_p_q10 (fun t ht => hJ t (by omega)), fun c => absurd ((nlt_nI (a := 12) (by omega) (by omega)).mpr (by omega)) c⟩
      | succ f ih =>
        intro i JN hi hJ
        refine sg_X12_burnt_45 hc _ _ _ _ _ _ _ ⟨fun c => absurd ((nlt_nI (a := 12) (by omega) (by omega)).mp c) (by omega), fun _ => ⟨fun c => ⟨vp_nI (by omega) (by omega), ?_⟩, fun c => ⟨vp_nI (by omega) (by omega), ?_⟩⟩⟩
        · rw [tn_nI (by omega), nI_k1]
          refine ih (i + 1) _ (by omega) (fun t ht => ?_)
          have hi0 : ¬ i = 0 := fun z => c (by rw [z]; rfl)
          by_cases w : t = i
          · subst w
            rw [jd_eq, tmZ_0_q10 (by omega)]
            all_goals exact o64_0_q10
          · rw [jd_k w]; exact hJ t (by omega)
        · rw [tn_nI (by omega), nI_k1]
          have hi0 : i = 0 := (nI_z9 (by omega)).mp c
          refine ih (i + 1) _ (by omega) (fun t ht => ?_)
          have ht0 : t = 0 := by omega
          subst ht0
          subst hi0
          have e0 : tmZ_q10 o q 0 0 = 1 := by unfold tmZ_q10; simp [cbn_q10]
          rw [jd_eq, e0]
          all_goals exact o64_1_q10.symm
    exact L1 13 0 J1 (by decide) (fun t ht => by omega)
  · have := ci_lt rfl z0 y
    have := z.2.1
    omega
  · rw [le_i, z12]; exact z.2.2
  · have := ci_lt rfl z0 y
    have := z.1.1
    omega
  · rw [le_i, z12]; exact z.1.2
end FRU
end PT16x3
section PT16x4
/-! ===== mean(): what it tells, both sides ===== -/
noncomputable def hsU_q10 (st : StS9) : Nat → Int
  | 0 => 0
  | i + 1 => hsU_q10 st i + hvR (st.2.1 i) 30 0
noncomputable def mnU_q10 (G : Nat → StS9) (M : Nat) : Nat → Int
  | 0 => 0
  | k + 1 => mnU_q10 G M k + hsU_q10 (G k) M
theorem hsU_b_q10 {st : StS9} : ∀ M, 0 ≤ hsU_q10 st M ∧ hsU_q10 st M ≤ (M : Int) * 69872686884000 := by
  intro M
  induction M with
  | zero => exact ⟨Int.le_refl _, by show (0 : Int) ≤ ((0 : Nat) : Int) * _; omega⟩
  | succ i ih =>
    have := hvR_b (h := st.2.1 i) 30 0 (by decide) (by decide)
    have e : hsU_q10 st (i + 1) = hsU_q10 st i + hvR (st.2.1 i) 30 0 := rfl
    rw [e]; omega
theorem mnU_b_q10 {G : Nat → StS9} {M : Nat} (hM : M ≤ 6) : ∀ k, 0 ≤ mnU_q10 G M k ∧ mnU_q10 G M k ≤ (k : Int) * 419236121304000 := by
  intro k
  induction k with
  | zero => exact ⟨Int.le_refl _, by show (0 : Int) ≤ ((0 : Nat) : Int) * _; omega⟩
  | succ k ih =>
    have := hsU_b_q10 (st := G k) M
    have e : mnU_q10 G M (k + 1) = mnU_q10 G M k + hsU_q10 (G k) M := rfl
    rw [e]; omega
theorem mnU_c_q10 {G H : Nat → StS9} {M : Nat} : ∀ k, (∀ j, j < k → G j = H j) → mnU_q10 G M k = mnU_q10 H M k := by
  intro k
  induction k with
  | zero => intro _; rfl
  | succ k ih =>
    intro h
    show mnU_q10 G M k + hsU_q10 (G k) M = mnU_q10 H M k + hsU_q10 (H k) M
    rw [ih (fun j hj => h j (by omega)), h k (by omega)]
theorem ltm9_q10 {x : Int64} {a : Int} (h : x.toInt = a) (ha : 0 ≤ a) : -9223372036854775808 < x.toInt := by omega
theorem ltp9_q10 {x : Int64} {V : Nat} (h : x.toInt = (V : Int) * 2329089562800) (hV : 1 ≤ V) : 0 < x.toInt := by omega
section FRM
variable {I I1 : Im} {J J1 : Jm} {R : Rm} {v1 v2 x : Int32} {Q : Qt} {M : Nat}
theorem px_allHoldings_q10 {e o : Nat} {s : StS9} (hO : isO 112 o 0 = true) (hm : I o 4 = nI M) (hM : M ≤ 6) (h : BkA o M s I) (hQ : ∀ y : Int64, y.toInt = hsU_q10 s M → Q 0 y I J R) : AM (e + 3) 10 112 [.ref o] I J R Q := by
  refine am_X0_allHoldings (fun P hc => sg_X0_allHoldings_0 hc _ _ _ _ ?_)
  have L : ∀ (f i : Nat) (y : Int64), i + f = M → y.toInt = hsU_q10 s i → P 4 112 [(0, .ref o), (1, .long y), (3, .int (nI i))] [] I J R := by
    intro f
    induction f with
    | zero =>
      intro i y hi hy
      have ei : i = M := by omega
      subst ei
      exact sg_X0_allHoldings_4 hc _ _ _ _ _ _ (bif_t hO ⟨fun _ => hQ y hy, fun c => absurd (by rw [hm]; all_goals exact Int32.le_refl _) c⟩)
    | succ f ih =>
      intro i y hi hy
      have hb := hsU_b_q10 (st := s) i
      have hh := hvR_b (h := s.2.1 i) 30 0 (by decide) (by decide)
      refine sg_X0_allHoldings_4 hc _ _ _ _ _ _ (bif_t hO ⟨fun c => absurd ((nle_nI (a := M) (b := i) (by omega) (by omega)).mp (by rw [hm] at c; exact c)) (by omega), fun _ => bif_t hO ?_⟩)
      have hk : (0 : Int32) ≤ nI i ∧ nI i < I o 4 := ⟨(nle_nI (a := 0) (by omega) (by omega)).mpr (by omega), by rw [hm]; exact (nlt_nI (by omega) (by omega)).mpr (by omega)⟩
      refine px_holding (M := M) (s := s) hO hk ⟨by rw [hm, nI_toInt (by omega)], hM⟩ h (fun y2 hy2 => ?_)
      have en : nn9 (nI i) = i := tn_nI (by omega)
      rw [en] at hy2
      rw [nI_k1]
      refine ih (i + 1) _ (by omega) ?_
      rw [tl_add hy hy2 (by omega)]; rfl
  exact L M 0 0 (by omega) rfl
/-- the run of a seed, by what lay in the rounds' row before -/
noncomputable def gM9_q10 (s : DS) (I : Im) (v1 : Int32) (qs : Nat → Nat → Int32) (k : Nat) : StS9 := (rn9 s (I 102 0) (I 102 1) (du9 I) 1000000 0 (qs k) 0 (s9 I, v1 + nI k, 0, 0, 0)).2.2.1
noncomputable abbrev HMF9_q10 (R : Rm) (v1 v2 : Int32) (I : Im) (J : Jm) (x : Int32) (J1 : Jm) : Prop := ∃ a c, FrX 1 1 2 (okM9 v1 v2 I) a c J J1 x ∧ (okM9 v1 v2 I → ∃ s qs, DG9 (R 1 9) (I 102) I s ∧ a = mnU_q10 (gM9_q10 s I v1 qs) (mnN (I 102)) v2.toInt.toNat ∧ c = v2.toInt * 2329089562800)
theorem lf_m9_q10 : ∀ V, V < 21 → 1 ≤ V → ((2329089562800 : Int64) * Int32.toInt64 (nI V)).toInt = (V : Int) * 2329089562800 ∧ (Int32.toInt64 (nI V) * (2329089562800 : Int64)).toInt = (V : Int) * 2329089562800 := by decide +kernel
set_option maxHeartbeats 1000000 in
theorem cf_mean {d : Nat} (hB0 : Bd I) (hR : RI R) (em : I (R 1 7) 4 = I 102 0) (h : W9 I R) : AM (d + 7) 146 112 [.ref 1, .int v1, .int v2] I J R (fun x _ _ J2 _ => HMF9_q10 R v1 v2 I J x J2) := by
  have hO := hR.now.1
  have hS := hR.spare.1
  have hP := hR.plan.1
  obtain ⟨he, hne⟩ := sp_e hR
  have n7 := now_9 hR
  have n9 := n9_p hR
  obtain ⟨q1, q2, q3⟩ := h.1
  have hm := q1.m
  have i0 : (0 : Int32).toInt = 0 := rfl
  have i1 : (1 : Int32).toInt = 1 := rfl
  have i20 : (20 : Int32).toInt = 20 := rfl
  have i9 : (9999 : Int32).toInt = 9999 := rfl
  refine am_X11_mean (fun P hc => ?_)
  have no : ∀ z : Int32, ¬ okM9 v1 v2 I → AM (d + 6) 150 112 [.ref 1, .int z] I J R (fun x1 _ I1 J1 _ => (x1 = 0 ∨ x1 = 1) → (((x1 : Int32) = 0 ∨ (x1 : Int32) = 1) ∧ HMF9_q10 R v1 v2 I J x1 J1)) := fun z hz => w_X11_deny ⟨Or.inl rfl, fun _ => ⟨Or.inl rfl, 0, 0, FrX.n hz, fun w => absurd w hz⟩⟩
  have L : okM9 v1 v2 I → ∀ V : Nat, v2 = nI V → 1 ≤ V → V ≤ 20 → ∀ s, DG9 (R 1 9) (I 102) I s → ∀ (g k : Nat) (v3 : Int64) (qs : Nat → Nat → Int32) (M : Im) (JM : Jm), k + g = V → Bd M → (∀ c, ¬ (R 1 8 ≤ c ∧ c ≤ R 1 8 + 5) → ¬ c = 51 → ¬ c = 52 → M c = I c) → v3.toInt = mnU_q10 (gM9_q10 s I v1 qs) (mnN (I 102)) k → P 61 112 [(0, .ref 1), (1, .int v1), (2, .int v2), (3, .long v3), (5, .int (nI k))] [] M JM R := by
    intro hok V eV hV1 hV2 s hg g
    obtain ⟨⟨o1, o2⟩, ⟨o3, o4⟩, o5, h52⟩ := id hok
    rw [le_i] at o1 o2 o3 o4
    have hE := h.ev hB0 h52 hg
    have hs := h.hs
    obtain ⟨g1, g2, g3, g4, g5, g6, g7⟩ := id hg
    have hV : ∀ a, a < dL s → VC9 (I 102 0) (dC s a) := fun a ha => by
      rcases (g2.2.2.2 a ha).2.2 with q | ⟨t, ht, q⟩
      · exact ⟨fun z => by rw [q] at z; exact absurd z (by decide), fun z => by rw [q] at z; exact absurd z (by decide)⟩
      · have := (hE.2.2.2.2 t ht).2.2
        rw [q] at this; exact this
    have tV : v2.toInt.toNat = V := by rw [eV, nI_toInt (by omega)]; omega
    have iV : v2.toInt = (V : Int) := by rw [eV]; exact nI_toInt (by omega)
    induction g with
    | zero =>
      intro k v3 qs M JM hk hB hM h3
      have ek : k = V := by omega
      subst ek
      have hb := mnU_b_q10 (G := gM9_q10 s I v1 qs) hm.1 k
      obtain ⟨f1, -⟩ := lf_m9_q10 k (by omega) hV1
      refine sg_X11_mean_61 hc _ _ _ _ _ _ _ ⟨fun _ => ?_, fun c => absurd (by rw [eV]; all_goals exact Int32.le_refl _) c⟩
      rw [eV]
      refine px_tell (ltm9_q10 h3 hb.1) (ltp9_q10 f1 hV1) (fun _ => ⟨Or.inr rfl, _, _, FrX.yc h3 f1 ?_, fun _ => ⟨s, qs, hg, ?_, ?_⟩⟩)
      · rw [← eV]; exact hok
      · rw [← eV, tV]
      · rw [← eV, iV]
    | succ g ih =>
      intro k v3 qs M JM hk hB hM h3
      refine sg_X11_mean_61 hc _ _ _ _ _ _ _ ⟨fun c => absurd ((nle_nI (a := V) (b := k) (by omega) (by omega)).mp (by rw [eV] at c; exact c)) (by omega), fun _ => ?_⟩
      refine ⟨hR.spare.2, hR.now.2, bif_t hS (kx (px_cpB (Q := fun _ _ I2 J2 _ => (∀ c, ¬ (R 1 8 ≤ c ∧ c ≤ R 1 8 + 5) → I2 c = M c) ∧ I2 (R 1 8) 4 = M (R 1 7) 4 ∧ CpB9 (R 1 8) (R 1 7) M I2) hS hO (by omega) (fun I2 J2 f1 _ y4 _ y1 y3 yst yn => ⟨f1, y4, y1, y3, yst, fun k hk => (yn k hk).2⟩)) (sp_X0_copyFrom hB hR hS hO (fun x12 y17 I13 J14 hB15 p16 fg => ?_)))⟩
      obtain ⟨f1, y4, ycp⟩ := fg
      have c0 : ∀ c, ¬ (R 1 8 ≤ c ∧ c ≤ R 1 8 + 5) → ¬ c = 51 → ¬ c = 52 → I13 c = I c := fun c a1 a2 a3 => (f1 c a1).trans (hM c a1 a2 a3)
      have hb13 : BA99 (R 1 8) (I 102) I13 := (q2.cp (I2 := M) (congrFun (hM (R 1 7) (by omega) (by omega) (by omega)) 1) (congrFun (hM (R 1 7) (by omega) (by omega) (by omega)) 3) (fun c hc => hM c (by omega) (by omega) (by omega))).cy hm.1 ycp
      have m13 : I13 (R 1 8) 4 = I 102 0 := y4.trans ((congrFun (hM (R 1 7) (by omega) (by omega) (by omega)) 4).trans em)
      have s13 : SDc s (R 1 9) I13 := g5.cp (fun c a1 a2 => c0 c (by omega) (by omega) (by omega))
      refine ⟨hR.spare.2, hR.plan.2, ?_⟩
      have run : AM (d + 6) 41 112 [.ref 51, .ref (R 1 8), .ref (R 1 9), .int (v1 + nI k)] I13 J14 R (fun _ _ I2 J2 _ => BkA (R 1 8) (mnN (I 102)) (rn9 s (I 102 0) (I 102 1) (du9 I) 1000000 0 (I13 52) 0 (s9 I, v1 + nI k, 0, 0, 0)).2.2.1 I2 ∧ FrLf 51 (R 1 8) I13 J14 I2 J2) :=
        px_run4 (du := du9 I) (od := I 102 1) (m := I 102 0) (M := mnN (I 102)) (st := s9 I) (s := s) rfl hS hP (by omega) (by omega) g1 g2 s13 hV m13 hE.2.1 hb13.1 (fun k hk => ⟨(hb13.2.2.2 k hk).1, (hb13.2.2.2 k hk).2.1⟩) hE.2.2.1 ⟨hb13.2.2.1, fun k hk => (hb13.2.2.2 k hk).2.2, hb13.2.1⟩ (fun I2 hA _ _ _ hF => ⟨hA.1, hF⟩)
      refine kx run (sp_X4_run hB15 hR (show isO 112 51 4 = true from rfl) hS hP (fun x18 y23 I19 J20 hB21 p22 hF => ?_))
      obtain ⟨hBk, hF⟩ := hF
      refine ⟨hR.spare.2, bif_t hS ?_⟩
      have m19 : I19 (R 1 8) 4 = nI (mnN (I 102)) := ((hF.i (fun q => by rcases q with (q | q | q) | q | q <;> omega)).trans m13).trans hm.2.1
      have hb := mnU_b_q10 (G := gM9_q10 s I v1 qs) hm.1 k
      have hu := hsU_b_q10 (st := (rn9 s (I 102 0) (I 102 1) (du9 I) 1000000 0 (I13 52) 0 (s9 I, v1 + nI k, 0, 0, 0)).2.2.1) (mnN (I 102))
      have hm6 := hm.1
      refine px_allHoldings_q10 hS m19 hm.1 hBk (fun y hy => ?_)
      rw [nI_k1]
      refine ih (k + 1) _ (fun j => if j = k then I13 52 else qs j) _ _ (by omega) hB21 (fun c a1 a2 a3 => (hF.c (fun k q => by rcases q with (q | q | q) | q | q <;> omega)).trans (c0 c a1 a2 a3)) ?_
      have eG : gM9_q10 s I v1 (fun j => if j = k then I13 52 else qs j) k = (rn9 s (I 102 0) (I 102 1) (du9 I) 1000000 0 (I13 52) 0 (s9 I, v1 + nI k, 0, 0, 0)).2.2.1 := by
        show (rn9 s (I 102 0) (I 102 1) (du9 I) 1000000 0 (if k = k then I13 52 else qs k) 0 (s9 I, v1 + nI k, 0, 0, 0)).2.2.1 = _
        rw [if_pos rfl]
      have eU : mnU_q10 (gM9_q10 s I v1 (fun j => if j = k then I13 52 else qs j)) (mnN (I 102)) k = mnU_q10 (gM9_q10 s I v1 qs) (mnN (I 102)) k := mnU_c_q10 k (fun j hj => by
        show (rn9 s (I 102 0) (I 102 1) (du9 I) 1000000 0 (if j = k then I13 52 else qs j) 0 (s9 I, v1 + nI j, 0, 0, 0)).2.2.1 = gM9_q10 s I v1 qs j
        rw [if_neg (by omega)]
        all_goals rfl)
      show (v3 + y).toInt = mnU_q10 (gM9_q10 s I v1 (fun j => if j = k then I13 52 else qs j)) (mnN (I 102)) k + hsU_q10 (gM9_q10 s I v1 (fun j => if j = k then I13 52 else qs j) k) (mnN (I 102))
      rw [eG, eU]
      exact tl_add h3 hy (by omega)
  refine sg_X11_mean_0 hc _ _ _ _ _ ⟨fun c => no 5 (fun z => ile.mpr z.1.1 c), fun c1 => ⟨fun c => no 5 (fun z => ile.mpr z.1.2 c), fun c2 => ⟨fun c => no 5 (fun z => ile.mpr z.2.1.1 c), fun c3 => ⟨fun c => no 5 (fun z => ile.mpr z.2.1.2 c), fun c4 => ?_⟩⟩⟩⟩
  have l1 := ile.mp c1
  have l2 := ile.mp c2
  have l3 := ile.mp c3
  have l4 := ile.mp c4
  have l1' := l1
  have l2' := l2
  have l3' := l3
  have l4' := l4
  rw [le_i] at l1' l2' l3' l4'
  have ea : ((v1 + v2) - 1 : Int32).toInt = v1.toInt + v2.toInt - 1 := ti_sub (ti_add rfl rfl (by omega)) i1 (by omega)
  refine ⟨fun c5 => ⟨hR.plan.2, bif_t hP ⟨fun c6 => ?_, fun c6 => no 8 (fun z => z.2.2.2 (by rw [← q3.1]; exact c6))⟩⟩, fun c5 => no 5 (fun z => c5 (by rw [le_i, ea, i9]; have := z.2.2.1; omega))⟩
  rw [le_i, ea, i9] at c5
  have h52 : ¬ I 102 52 = 0 := fun z => c6 (q3.1.trans z)
  obtain ⟨s, hg⟩ := q3.2 h52
  exact L ⟨⟨l1, l2⟩, ⟨l3, l4⟩, by omega, h52⟩ v2.toInt.toNat (nI_ofN (by omega)) (by omega) (by omega) s hg v2.toInt.toNat 0 0 (fun _ _ => 0) I J (by omega) hB0 (fun _ _ _ _ => rfl) rfl
set_option maxHeartbeats 1000000 in
theorem mf_mean {e : Nat} (hB : Bd I) (hR : RI R) (h : W9 I R) (e102 : I1 102 = I 102) (H1 : HMF9_q10 R v1 v2 I J x J1) : AM (e + 84) 315 112 [.ref 97, .int v1, .int v2] I1 J1 R (fun x2 _ _ J2 _ => ∃ a c, FrX 1 1 2 (okM9 v1 v2 I) a c J J1 x ∧ FrX 97 2 3 (okM9 v1 v2 I) a c J1 J2 x2) := by
  obtain ⟨a0, c9, hX, hH⟩ := H1
  obtain ⟨q1, q2, q3⟩ := h.1
  have hm := q1.m
  have i0 : (0 : Int32).toInt = 0 := rfl
  have i1 : (1 : Int32).toInt = 1 := rfl
  have i20 : (20 : Int32).toInt = 20 := rfl
  have i9 : (9999 : Int32).toInt = 9999 := rfl
  have it : (10000 : Int32).toInt = 10000 := rfl
  have t52 : Int32.toNatClampNeg 52 = 52 := rfl
  have t0 : Int32.toNatClampNeg 0 = 0 := rfl
  have v52 : vp_in 52 1620 := vp_of (a := 52) rfl (by decide) (by decide)
  have c102 : uI (uI I1 97 1 0) 97 0 0 102 = I 102 := by rw [uI_ne (by decide), uI_ne (by decide)]; exact e102
  have fail : ¬ okM9 v1 v2 I → ∀ z : Int32, AM (e + 83) 177 112 [.ref 97, .int z] (uI (uI I1 97 1 0) 97 0 0) J1 R (fun x1 _ _ J2 _ => (x1 = 0 ∨ x1 = 1) → (((x1 : Int32) = 0 ∨ (x1 : Int32) = 1) ∧ ∃ a c, FrX 1 1 2 (okM9 v1 v2 I) a c J J1 x ∧ FrX 97 2 3 (okM9 v1 v2 I) a c J1 J2 x1)) := fun hn z => w_X12_no ⟨Or.inl rfl, fun _ => ⟨Or.inl rfl, a0, c9, hX, FrX.n hn⟩⟩
  refine am_X12_mean (fun P hc => sg_X12_mean_0 hc _ _ _ _ _ (px_isInI (lo := 1) (hi := 20) (fun l3 l4 _ => ⟨fun z => absurd z (by decide), fun _ => ?_⟩) (fun m1 _ => ⟨fun _ => fail (fun z => m1.elim (fun y => ile.mpr z.2.1.1 y) (fun y => y z.2.1.2)) 5, fun z => absurd rfl z⟩)))
  have l3' := l3
  have l4' := l4
  rw [le_i] at l3' l4'
  have e10 : (10000 - v2 : Int32).toInt = 10000 - v2.toInt := ti_sub it rfl (by omega)
  refine px_isInI (lo := 0) (hi := 10000 - v2) (fun l1 l2 _ => ⟨fun _ => ⟨v52, ?_⟩, fun z => absurd z (by decide)⟩) (fun m1 _ => ⟨fun z => absurd rfl z, fun _ => fail (fun z => m1.elim (fun y => ile.mpr z.1.1 y) (fun y => y (by rw [le_i, e10]; have := z.2.2.1; omega))) 5⟩)
  have l1' := l1
  have l2' := l2
  rw [le_i] at l1'
  rw [le_i, e10] at l2'
  rw [t52, c102]
  refine ⟨fun h52 => ?_, fun c52 => fail (fun z => z.2.2.2 c52) 8⟩
  have hok : okM9 v1 v2 I := ⟨⟨l1, by rw [le_i, i9]; omega⟩, ⟨l3, l4⟩, by omega, h52⟩
  obtain ⟨s, qs, hg, ea, ec⟩ := hH hok
  have hE := h.ev hB h52 hg
  have hs := h.hs
  obtain ⟨g1, g2, g3, g4, g5, g6, g7⟩ := id hg
  obtain ⟨V, hV, eV⟩ : ∃ V : Nat, (1 ≤ V ∧ V ≤ 20) ∧ v2 = nI V := ⟨v2.toInt.toNat, by omega, Int32.toInt_inj.mp (by rw [nI_toInt (by omega)]; omega)⟩
  have iV : v2.toInt = (V : Int) := by rw [eV]; exact nI_toInt (by omega)
  have tV : v2.toInt.toNat = V := by omega
  rw [tV] at ea
  rw [iV] at ec
  obtain ⟨-, f2⟩ := lf_m9_q10 V (by omega) hV.1
  have L : ∀ (g k : Nat) (v3 : Int64) (A : Im) (JA : Jm), k + g = V → A 102 = I 102 → (∀ j, j < 52 → A 103 j = I 102 j) → v3.toInt = mnU_q10 (gM9_q10 s I v1 qs) (mnN (I 102)) k → P 91 112 [(0, .ref 97), (1, .int v1), (2, .int v2), (3, .long v3), (5, .int (nI k))] [] A JA R := by
    intro g
    induction g with
    | zero =>
      intro k v3 A JA hk hA _ h3
      have ek : k = V := by omega
      subst ek
      have hb := mnU_b_q10 (G := gM9_q10 s I v1 qs) hm.1 k
      refine sg_X12_mean_91 hc _ _ _ _ _ _ _ ⟨fun _ => ?_, fun c => absurd (by rw [eV]; all_goals exact Int32.le_refl _) c⟩
      have f2' : (Int32.toInt64 v2 * (2329089562800 : Int64)).toInt = c9 := by rw [eV, ec]; exact f2
      exact px_frac (ltm9_q10 h3 hb.1) (ltp9_q10 (f2'.trans ec) hV.1) (fun _ => ⟨Or.inr rfl, a0, c9, hX, FrX.ym (h3.trans ea.symm) f2' hok⟩)
    | succ g ih =>
      intro k v3 A JA hk hA h103 h3
      refine sg_X12_mean_91 hc _ _ _ _ _ _ _ ⟨fun c => absurd ((nle_nI (a := V) (b := k) (by omega) (by omega)).mp (by rw [eV] at c; exact c)) (by omega), fun _ => ?_⟩
      have hsd : (v1 + nI k : Int32).toInt = v1.toInt + (k : Int) := ti_add rfl (nI_toInt (by omega)) (by omega)
      have hrA : BkR (mnN (I 102)) (s9 I) A := by
        unfold BkR
        rw [hA]
        exact hs.2.1
      refine px_runs9 (e := e + 3) (q := qs k) (hE.o hA) g1 g2 g3 (by rw [hA]; exact g6) (by omega) hs.2.2.1 hrA (fun B hF hM hRB _ _ => ?_)
      have b103 : ∀ j, j < 52 → B 103 j = I 102 j := fun j hj => (hF.i (fun z => by rcases z with z | z <;> omega)).trans (h103 j hj)
      have bhi : ∀ j, 52 ≤ j → B 102 j = I 102 j := fun j hj => (hF.i (fun z => by rcases z with z | z <;> omega)).trans (congrFun hA j)
      have b0 : B 102 0 = I 102 0 := (hF.i (fun z => by rcases z with z | z <;> omega)).trans (congrFun hA 0)
      have hbk := mnU_b_q10 (G := gM9_q10 s I v1 qs) hm.1 k
      have hm6 := hm.1
      have L108 : ∀ (f i : Nat) (w3 : Int64), i + f = mnN (I 102) → w3.toInt = mnU_q10 (gM9_q10 s I v1 qs) (mnN (I 102)) k + hsU_q10 (gM9_q10 s I v1 qs k) i → P 108 112 [(0, .ref 97), (1, .int v1), (2, .int v2), (3, .long w3), (5, .int (nI k)), (6, .int (nI i))] [] B JA R := by
        intro f
        induction f with
        | zero =>
          intro i w3 hi h3w
          have ei : i = mnN (I 102) := by omega
          rw [ei] at h3w
          refine sg_X12_mean_108 hc _ _ _ _ _ _ _ _ ⟨vp_of (a := 0) rfl (by decide) (by decide), fun _ => ?_, fun c => absurd (by rw [t0, b0, hm.2.1]; exact (nle_nI (by omega) (by omega)).mpr (by omega)) c⟩
          have L2 : ∀ (f j : Nat) (D : Im), j + f = 52 → (∀ i, i < j → D 102 i = I 102 i) → (∀ i, 52 ≤ i → D 102 i = I 102 i) → (∀ i, i < 52 → D 103 i = I 102 i) → P 144 112 [(0, .ref 97), (1, .int v1), (2, .int v2), (3, .long w3), (5, .int (nI k)), (6, .int (nI j))] [] D JA R := by
            intro f
            induction f with
            | zero =>
              intro j D hj d1 d2 d3
              refine sg_X12_mean_144 hc _ _ _ _ _ _ _ _ ⟨fun _ => ?_, fun c => absurd ((nle_nI (a := 52) (by omega) (by omega)).mpr (by omega)) c⟩
              rw [nI_s1]
              refine ih (k + 1) w3 D JA (by omega) (funext fun i => ?_) d3 h3w
              rcases Nat.lt_or_ge i 52 with z | z
              · exact d1 i (by omega)
              · exact d2 i z
            | succ f ih2 =>
              intro j D hj d1 d2 d3
              refine sg_X12_mean_144 hc _ _ _ _ _ _ _ _ ⟨fun c => absurd ((nle_nI (a := 52) (by omega) (by omega)).mp c) (by omega), fun _ => ⟨vp_nI (by omega) (by omega), vp_nI (by omega) (by omega), ?_⟩⟩
              rw [tn_nI (by omega), nI_s1]
              refine ih2 (j + 1) _ (by omega) (fun i hi => ?_) (fun i hi => (rd_k (by omega)).trans (d2 i hi)) (fun i hi => (rd_ne (by decide)).trans (d3 i hi))
              by_cases z : i = j
              · subst z; rw [rd_eq]; exact d3 i (by omega)
              · rw [rd_k z]; exact d1 i (by omega)
          exact L2 52 0 B (by omega) (fun i hi => absurd hi (by omega)) bhi b103
        | succ f ih3 =>
          intro i w3 hi h3w
          have hbu := hsU_b_q10 (st := gM9_q10 s I v1 qs k) i
          have k46 : (46 : Int32) + nI i = nI (46 + i) := by rw [show (46 : Int32) = nI 46 from rfl]; exact nI_add 46 i
          refine sg_X12_mean_108 hc _ _ _ _ _ _ _ _ ⟨vp_of (a := 0) rfl (by decide) (by decide), fun c => absurd ((nle_nI (a := mnN (I 102)) (b := i) (by omega) (by omega)).mp (by rw [t0, b0, hm.2.1] at c; exact c)) (by omega), fun _ => ?_⟩
          rw [k46, tn_nI (by omega), nI_s1]
          have eh : B 102 (46 + i) = (gM9_q10 s I v1 qs k).2.1 i := hM.1.2.1 i (by omega)
          have hh := hvR_b (h := (gM9_q10 s I v1 qs k).2.1 i) 30 0 (by decide) (by decide)
          refine ⟨vp_nI (by omega) (by omega), px_sumOf ?_ (fun y hy => ih3 (i + 1) _ (by omega) ?_)⟩
          · rw [eh]
            exact hRB.1.hv0 i (by omega)
          · rw [eh] at hy
            rw [tl_add h3w hy (by omega)]
            show _ = mnU_q10 (gM9_q10 s I v1 qs) (mnN (I 102)) k + (hsU_q10 (gM9_q10 s I v1 qs k) i + hvR ((gM9_q10 s I v1 qs k).2.1 i) 30 0)
            omega
      exact L108 (mnN (I 102)) 0 v3 (by omega) (h3.trans (Int.add_zero _).symm)
  have L62 : ∀ (f j : Nat) (A : Im), j + f = 52 → A 102 = I 102 → (∀ i, i < j → A 103 i = I 102 i) → P 62 112 [(0, .ref 97), (1, .int v1), (2, .int v2), (3, .int (nI j))] [] A J1 R := by
    intro f
    induction f with
    | zero =>
      intro j A hj hA d3
      exact sg_X12_mean_62 hc _ _ _ _ _ _ ⟨fun _ => L V 0 0 A J1 (by omega) hA (fun i hi => d3 i (by omega)) rfl, fun c => absurd ((nle_nI (a := 52) (by omega) (by omega)).mpr (by omega)) c⟩
    | succ f ih4 =>
      intro j A hj hA d3
      refine sg_X12_mean_62 hc _ _ _ _ _ _ ⟨fun c => absurd ((nle_nI (a := 52) (by omega) (by omega)).mp c) (by omega), fun _ => ⟨vp_nI (by omega) (by omega), vp_nI (by omega) (by omega), ?_⟩⟩
      rw [tn_nI (by omega), nI_s1]
      refine ih4 (j + 1) _ (by omega) ((uI_ne (by decide)).trans hA) (fun i hi => ?_)
      by_cases z : i = j
      · subst z; rw [rd_eq, hA]
      · rw [rd_k z]; exact d3 i (by omega)
  exact L62 52 0 _ (by omega) c102 (fun i hi => absurd hi (by omega))
end FRM
end PT16x4
section PT16x5
/-! printed by grpF.py: the fraction told: what keeps it, on each side -/
noncomputable def okpFc (ci k : Nat) : Bool := !(Nat.beq ci 11 && (Nat.beq k 1 || Nat.beq k 2))
theorem okpFc_f {ci k : Nat} (h : okpFc ci k = true) : ci = 11 → ¬ 1 = k ∧ ¬ 2 = k := by
  intro e
  subst e
  exact ⟨fun q => by subst q; exact absurd h (by decide), fun q => by subst q; exact absurd h (by decide)⟩
theorem shFc : (shl.getD (1 - 1) (999, 0)).1 = 11 := by decide +kernel
theorem stg_Fc {J0 : Jm} : StG (fun _ => false) okpFc (fun _ J _ => KFc J0 J) := by
  refine ⟨fun I J R o ci k x h1 h2 h3 hF => hF, fun I J R o ci k x h1 h2 h3 hF => ?_, fun I J R a t j x h1 h2 hF => hF, fun I J R a t j x h1 h2 hF => ?_, fun I J R a0 a1 t p q m h1 h2 hF => hF, fun I J R a0 a1 t p q m h1 h2 hF => ?_, fun I J R o ci k x h1 h2 hF => hF⟩
  · have s := shFc
    by_cases ho : 1 = o
    · subst ho
      have f := okpFc_f h3 (h1.symm.trans s)
      exact ⟨(jd_k f.1).trans hF.1, (jd_k f.2).trans hF.2⟩
    · have e : uJ J o k x 1 = J 1 := uJ_ne ho
      exact ⟨(congrFun e 1).trans hF.1, (congrFun e 2).trans hF.2⟩
  · have s := shFc
    have e : uJ J a j x 1 = J 1 := uJ_ne (fun q => by subst q; omega)
    exact ⟨(congrFun e 1).trans hF.1, (congrFun e 2).trans hF.2⟩
  · have s := shFc
    have e : cJ J a0 a1 p q m 1 = J 1 := if_neg (fun z => by subst z; omega)
    exact ⟨(congrFun e 1).trans hF.1, (congrFun e 2).trans hF.2⟩
/-- all that writes those -/
noncomputable def dtyFc : List Nat := [0, 27, 32, 40, 53, 58, 74, 85, 88, 94, 99, 114, 115, 116, 130, 142, 143, 146, 155, 172]
set_option maxRecDepth 100000 in
theorem clFc : ClT pul dtyFc (fun _ _ => true) okpFc := ClT.ef (by decide +kernel)
theorem kpFc {d mi n : Nat} {as : List Value} {I : Im} {J : Jm} {R : Rm} {Q : Qt} (hd : dtyFc.elem mi = false) (h : AM d mi n as I J R (fun x y I' J' R' => KFc J J' → Q x y I' J' R')) : AM d mi n as I J R Q :=
  AM_w (F := fun _ J' _ => KFc J J') pul_kk clFc gf_none stg_Fc hd kvS_none HRf_none ⟨rfl, rfl⟩ h
noncomputable def okpFm (ci k : Nat) : Bool := !(Nat.beq ci 12 && (Nat.beq k 2 || Nat.beq k 3))
theorem okpFm_f {ci k : Nat} (h : okpFm ci k = true) : ci = 12 → ¬ 2 = k ∧ ¬ 3 = k := by
  intro e
  subst e
  exact ⟨fun q => by subst q; exact absurd h (by decide), fun q => by subst q; exact absurd h (by decide)⟩
theorem shFm : (shl.getD (97 - 1) (999, 0)).1 = 12 := by decide +kernel
theorem stg_Fm {J0 : Jm} : StG (fun _ => false) okpFm (fun _ J _ => KFm J0 J) := by
  refine ⟨fun I J R o ci k x h1 h2 h3 hF => hF, fun I J R o ci k x h1 h2 h3 hF => ?_, fun I J R a t j x h1 h2 hF => hF, fun I J R a t j x h1 h2 hF => ?_, fun I J R a0 a1 t p q m h1 h2 hF => hF, fun I J R a0 a1 t p q m h1 h2 hF => ?_, fun I J R o ci k x h1 h2 hF => hF⟩
  · have s := shFm
    by_cases ho : 97 = o
    · subst ho
      have f := okpFm_f h3 (h1.symm.trans s)
      exact ⟨(jd_k f.1).trans hF.1, (jd_k f.2).trans hF.2⟩
    · have e : uJ J o k x 97 = J 97 := uJ_ne ho
      exact ⟨(congrFun e 2).trans hF.1, (congrFun e 3).trans hF.2⟩
  · have s := shFm
    have e : uJ J a j x 97 = J 97 := uJ_ne (fun q => by subst q; omega)
    exact ⟨(congrFun e 2).trans hF.1, (congrFun e 3).trans hF.2⟩
  · have s := shFm
    have e : cJ J a0 a1 p q m 97 = J 97 := if_neg (fun z => by subst z; omega)
    exact ⟨(congrFun e 2).trans hF.1, (congrFun e 3).trans hF.2⟩
/-- all that writes those -/
noncomputable def dtyFm : List Nat := [0, 27, 32, 40, 53, 58, 74, 85, 88, 94, 99, 172, 179, 251, 252, 253, 278, 302, 303, 315]
set_option maxRecDepth 100000 in
theorem clFm : ClT pul dtyFm (fun _ _ => true) okpFm := ClT.ef (by decide +kernel)
theorem kpFm {d mi n : Nat} {as : List Value} {I : Im} {J : Jm} {R : Rm} {Q : Qt} (hd : dtyFm.elem mi = false) (h : AM d mi n as I J R (fun x y I' J' R' => KFm J J' → Q x y I' J' R')) : AM d mi n as I J R Q :=
  AM_w (F := fun _ J' _ => KFm J J') pul_kk clFm gf_none stg_Fm hd kvS_none HRf_none ⟨rfl, rfl⟩ h
section FRT
variable {I : Im} {J J1 J2 : Jm} {R : Rm} {P : Prop} {x x2 : Int32}
theorem FQ9.mean (h : FQ9 J) (H : ∃ a c, FrX 1 1 2 P a c J J1 x ∧ FrX 97 2 3 P a c J1 J2 x2) (k1 : KFm J J1) (k2 : KFc J1 J2) : FQ9 J2 := by
  obtain ⟨a, c, h1, h2⟩ := H
  exact h.two h1 k1 h2 k2
theorem cx_bottom9 {d : Nat} : AM (d + 1) 102 112 [.ref 1] I J R (fun _ y _ _ _ => y = J 1 2) := w_X11_bottom rfl
theorem mx_bottom9 {d : Nat} : AM (d + 1) 175 112 [.ref 97] I J R (fun _ y _ _ _ => y = J 97 3) := w_X12_bottom rfl
theorem FQ9.top {y y2 : Int64} (h : FQ9 J) (k : KFm J J1) (h1 : y = J 1 1) (h2 : y2 = J1 97 2) : y2 = y := h2.trans (k.1.trans (h.1.symm.trans h1.symm))
theorem FQ9.bottom {y y2 : Int64} (h : FQ9 J) (k : KFm J J1) (h1 : y = J 1 2) (h2 : y2 = J1 97 3) : y2 = y := h2.trans (k.2.trans (h.2.symm.trans h1.symm))
end FRT
end PT16x5
section PT16x6
/-! ===== the Reader's constructor keeps its contract ===== -/
theorem rd_three {o : Nat} (h : isO o o 6 = true) : o = 3 := by
  obtain ⟨h1, -, h3⟩ := isO_spec h
  by_cases hq : o - 1 < 112
  · have all : ∀ k, k < 112 → (shl.getD k (999, 0)).1 = 6 → k = 2 := by decide +kernel
    have := all (o - 1) hq h3
    omega
  · have hl : shl.length = 112 := by decide +kernel
    rw [List.getD_eq_getElem?_getD, List.getElem?_eq_none (by omega)] at h3
    cases h3
theorem metd0 (l : Launch) : MetD l 0 := fun _ _ _ _ _ _ _ _ _ _ _ _ _ hM => hM.elim
set_option maxRecDepth 100000 in
theorem rs_85 {Q : Nat → Qt} {P : Kt} (hc : Cl (AM 0) false false 0 (fun _ => 0) 0 5 kRd Q P) (v1 v2 : Int32) (I : Im) (J : Jm) (R : Rm) (h : P 86 5 [(0, .ref 3), (1, .int v1), (2, .int v2)] [.int v2] I J R) : P 85 5 [(0, .ref 3), (1, .int v1), (2, .int v2)] [] I J R :=
  run_at (AM_m 0) hc (stops := [(86, [0, 1, 2])]) (k := 3) h
set_option maxRecDepth 100000 in
theorem rs_91 {Q : Nat → Qt} {P : Kt} (hc : Cl (AM 0) false false 0 (fun _ => 0) 0 5 kRd Q P) (v1 v2 : Int32) (I : Im) (J : Jm) (R : Rm) (h : ((102 : Int32) ≤ v2 → Q 5 0 0 I J R) ∧ (¬ (102 : Int32) ≤ v2 → P 94 5 [(0, .ref 3), (1, .int v1), (2, .int v2)] [] I J R)) : P 91 5 [(0, .ref 3), (1, .int v1), (2, .int v2)] [.int 102, .int v2] I J R :=
  run_at (AM_m 0) hc (stops := [(94, [0, 1, 2])]) (k := 5) h
set_option maxRecDepth 100000 in
theorem rs_100 {Q : Nat → Qt} {P : Kt} (hc : Cl (AM 0) false false 0 (fun _ => 0) 0 5 kRd Q P) (v1 v2 x : Int32) (I : Im) (J : Jm) (R : Rm)
    (h : (¬ x = 32 → ((21 : Int32) < v1 → P 85 5 [(0, .ref 3), (1, .int v1), (2, .int (v2 + 1))] [] I J R) ∧ (¬ (21 : Int32) < v1 → (¬ R 3 2 = 0 ∧ (¬ R 3 2 = 0 ∧ (vp_in v1 22 ∧ (vp_in v1 22 ∧ P 85 5 [(0, .ref 3), (1, .int v1), (2, .int (v2 + 1))] [] I (uJ J 5 v1.toNatClampNeg (J 5 v1.toNatClampNeg * 32 + (x - 97 + 1).toInt64)) R)))))) ∧ (x = 32 → P 85 5 [(0, .ref 3), (1, .int (v1 + 1)), (2, .int (v2 + 1))] [] I J R)) : P 100 5 [(0, .ref 3), (1, .int v1), (2, .int v2)] [.int x] I J R :=
  run_at (AM_m 0) hc (stops := [(85, [0, 1, 2])]) (k := 40) h
noncomputable def rdI (I : Im) : Im := uI (uI (uI (uI (uI (uI (uI (uI (uI (uI (zI (uI (zI I 4) 3 1 0) 5) 3 3 0) 3 4 0) 3 5 0) 3 6 0) 3 7 0) 3 8 0) 3 9 (-1)) 3 11 0) 3 12 0) 3 13 (-1)
noncomputable def rdJ (J : Jm) : Jm := uJ (zJ (zJ J 4) 5) 3 10 0
noncomputable def rdR (R : Rm) : Rm := uR (zR (uR (zR R 4) 3 0 4) 5) 3 2 5
set_option maxRecDepth 100000 in
theorem rs_0 {Q : Nat → Qt} {P : Kt} (hc : Cl (AM 0) false false 0 (fun _ => 0) 0 5 kRd Q P) (I : Im) (J : Jm) (R : Rm)
    (h : P 85 5 [(0, .ref 3), (1, .int 1), (2, .int 0)] [] (rdI I) (rdJ J) (rdR R)) : P 0 3 [(0, .ref 3)] [] I J R :=
  run_at (AM_m 0) hc (stops := [(85, [0, 1, 2])]) (k := 60) ⟨rfl, rfl, Or.inl rfl, h⟩
/-- the words of the text, as numbers, by its letters -/
noncomputable def rdC (i : Nat) : Int32 := rd_by.getD i 0 &&& 255
noncomputable def rdN : Nat → Nat
  | 0 => 1
  | i + 1 => if rdC i = 32 then rdN i + 1 else rdN i
noncomputable def rdA : Nat → Nat → Int64
  | 0, _ => 0
  | i + 1, k => if rdC i = 32 then rdA i k else (if k = rdN i then rdA i k * 32 + (rdC i - 97 + 1).toInt64 else rdA i k)
set_option maxRecDepth 100000 in
theorem rdN_in : ∀ i, i < 103 → 1 ≤ rdN i ∧ rdN i ≤ 21 := by decide +kernel
set_option maxRecDepth 100000 in
theorem rdA_rsv : ∀ k, k < 22 → rdA 102 k = rsv.getD k 0 := by decide +kernel
theorem rd_loop {Q : Nat → Qt} {P : Kt} (hc : Cl (AM 0) false false 0 (fun _ => 0) 0 5 kRd Q P) {I : Im} {J0 : Jm} {R : Rm} (hR : ¬ R 3 2 = 0)
    (hL : ∀ (v1 v2 : Int32) (J : Jm), P 91 5 [(0, .ref 3), (1, .int v1), (2, .int v2)] [.int 102, .int v2] I J R → P 86 5 [(0, .ref 3), (1, .int v1), (2, .int v2)] [.int v2] I J R)
    (hC : ∀ (v1 v2 : Int32) (J : Jm), ¬ v2 < 0 → v2 < 102 → P 100 5 [(0, .ref 3), (1, .int v1), (2, .int v2)] [.int (rd_by.getD v2.toNatClampNeg 0 &&& 255)] I J R → P 94 5 [(0, .ref 3), (1, .int v1), (2, .int v2)] [] I J R)
    (hQ : ∀ J : Jm, (∀ i, i ≠ 5 → J i = J0 i) → (∀ k, k < 22 → J 5 k = rsv.getD k 0) → Q 5 0 0 I J R) : ∀ (m i : Nat) (J : Jm), i + m = 102 → (∀ i, i ≠ 5 → J i = J0 i) → (∀ k, k < 22 → J 5 k = rdA i k) → P 85 5 [(0, .ref 3), (1, .int (nI (rdN i))), (2, .int (nI i))] [] I J R := by
  intro m
  induction m with
  | zero =>
    intro i J hi hJ hA
    obtain rfl : i = 102 := by omega
    exact rs_85 hc _ _ _ _ _ (hL _ _ _ (rs_91 hc _ _ _ _ _ ⟨fun _ => hQ J hJ (fun k hk => by rw [hA k hk]; exact rdA_rsv k hk), fun c => absurd (by decide) c⟩))
  | succ m ih =>
    intro i J hi hJ hA
    have hn := rdN_in i (by omega)
    refine rs_85 hc _ _ _ _ _ (hL _ _ _ (rs_91 hc _ _ _ _ _ ⟨fun c => absurd c (nI_ge (a := i) (b := 102) (by omega) (by omega)), fun _ => ?_⟩))
    refine hC _ _ _ (nI_pos (by omega)) (nI_lt (a := i) (b := 102) (by omega) (by omega)) (rs_100 hc _ _ _ _ _ _ ?_)
    rw [nI_clamp (by omega), nI_clamp (by omega), ← nI_succ, ← nI_succ]
    change (¬ rdC i = 32 → _) ∧ (rdC i = 32 → _)
    have hv : vp_in (nI (rdN i)) 22 := vp_of (nI_toInt (by omega)) (by omega) (by omega)
    refine ⟨fun c => ⟨fun c2 => absurd c2 (nI_nlt (a := 21) (b := rdN i) (by omega) (by omega)), fun _ => ⟨hR, hR, hv, hv, ?_⟩⟩, fun c => ?_⟩
    · have e1 : rdN (i + 1) = rdN i := by
        show (if rdC i = 32 then rdN i + 1 else rdN i) = rdN i
        rw [if_neg c]
      have := ih (i + 1) (uJ J 5 (rdN i) (J 5 (rdN i) * 32 + (rdC i - 97 + 1).toInt64)) (by omega) (fun j hj => (uJ_ne hj).trans (hJ j hj)) (fun k hk => by
        show _ = (if rdC i = 32 then rdA i k else (if k = rdN i then rdA i k * 32 + (rdC i - 97 + 1).toInt64 else rdA i k))
        rw [if_neg c]
        by_cases q : k = rdN i
        · subst q; rw [if_pos rfl, ← hA _ hk]; simp [uJ, vp_updL]
        · rw [if_neg q, ← hA _ hk]; simp [uJ, vp_updL, q])
      rw [e1] at this; exact this
    · have e1 : rdN (i + 1) = rdN i + 1 := by
        show (if rdC i = 32 then rdN i + 1 else rdN i) = rdN i + 1
        rw [if_pos c]
      have := ih (i + 1) J (by omega) hJ (fun k hk => by
        show _ = (if rdC i = 32 then rdA i k else (if k = rdN i then rdA i k * 32 + (rdC i - 97 + 1).toInt64 else rdA i k))
        rw [if_pos c]; exact hA k hk)
      rw [e1] at this; exact this
set_option maxRecDepth 100000 in
theorem dx_86 : decode cX6_init 86 = .ok (.ldc 58, 2) := by decide +kernel
set_option maxRecDepth 100000 in
theorem dx_88 : decode cX6_init 88 = .ok (.invokevirtual 60, 3) := by decide +kernel
set_option maxRecDepth 100000 in
theorem dx_94 : decode cX6_init 94 = .ok (.ldc 58, 2) := by decide +kernel
set_option maxRecDepth 100000 in
theorem dx_96 : decode cX6_init 96 = .ok (.iload_n 2, 1) := by decide +kernel
set_option maxRecDepth 100000 in
theorem dx_97 : decode cX6_init 97 = .ok (.invokevirtual 66, 3) := by decide +kernel
theorem rd_row : mQ mReader = (kX6_init, yX6_init, cX6_init, none, [4, 0, 2, 0, 0, 6, 1, 1, 1]) := rfl
set_option maxHeartbeats 4000000 in
theorem met_reader (l : Launch) : MetR l := by
  intro d D ca h0 b n as I J R Q h
  obtain ⟨o, rfl, hO, ⟨hA1, hA2, hA3, hA4, hno⟩, hQ⟩ := h
  obtain rfl : n = o := by omega
  obtain rfl := rd_three hO
  rw [rd_row]
  show Met l yX6_init (Cond.code yX6_init cX6_init 4 none :: wsG) (rmD (d + 6) 2 (sl (3 + 2) - sl 3)) (va_Pc [.ref (ad h0 b 3)] (fun U => Wok D ca h0 b 3 I J R U)) (mPost D ca h0 b (3 + 2) 0 0 R Q (mFree ca h0 b 3 I J R)) 2 (sl (3 + 2) - sl 3) (mFree ca h0 b 3 I J R)
  refine Met.ofW (cc := cX6_init) (maxL := 4) (ret := none) (by decide) rfl ?_
  intro p e s m args below meth c s₁ B hml hv
  obtain ⟨rfl, hsz, hP, hK, hNN, hSK⟩ := hv
  have hx := B.exec
  have hb := B.bytes
  have hr := B.returns
  have hts := atoms_spec (ws := Cond.code yX6_init cX6_init 4 none :: wsG) B.pre
  have hown : s.vm.findClass RX6 = some m.cls := findClass_of_methodNamed B.named
  have hlocks := B.notSynchronized
  have hA : ∀ q : Nat, h0 ≤ q → mFree ca h0 b 3 I J R q := fun q h => mFree_ge.mpr h
  have hIn : ∀ w ∈ wsG, w ∈ (Cond.code yX6_init cX6_init 4 none :: wsG) := fun w hw => List.mem_cons_of_mem _ hw
  have hC : Ctx p (rmD (d + 6) 2 (sl (3 + 2) - sl 3)) s m ([.ref (ad h0 b 3)] : List Value).toArray meth c RX6 cX6_init 4 1 (Cond.code yX6_init cX6_init 4 none :: wsG) D ca h0 b 3 5 0 (mFree ca h0 b 3 I J R) false (fun _ => 0) :=
    ⟨hx, hb, hml, hown, hts, hIn, hK, ⟨hNN, hSK, fun q h => mFree_ge.mp h⟩, hA, hsz, fun _ => (name_of_methodNamed B.named B.method).1, ⟨Nat.le_refl _, Nat.le_refl _⟩, ⟨by show 1 ≤ d + 6; omega, by show 64 ≤ 64 * (d + 6); omega⟩, fun q => by cases q⟩
  have hS0 : va_S (mFree ca h0 b 3 I J R) s.heap s.heap [] := va_S.rf
  have hRet : RetOk p l e (rmD (d + 6) 2 (sl (3 + 2) - sl 3)) s m ([.ref (ad h0 b 3)] : List Value).toArray below meth c (MQ below (mPost D ca h0 b (3 + 2) 0 0 R Q (mFree ca h0 b 3 I J R)) ([.ref (ad h0 b 3)] : List Value).toArray s 2 (sl (3 + 2) - sl 3) (mFree ca h0 b 3 I J R)) cX6_init D ca h0 b 3 (mFree ca h0 b 3 I J R) 0 (fun n' x y I' J' R' => n' = 5 ∧ Q x y I' J' R') := by
    intro pc n' I' J' R' H locs ls hn hP' hS'
    refine ⟨fun hk hdg hq => ?_, fun hk => by omega, fun hk => by omega⟩
    obtain ⟨rfl, hq⟩ := hq
    refine W_cs2 (n := 3) (al := 2) hsz hP' hS' (fun hz => ?_)
    exact W.vret hx hb hr (fun t ht hW => ⟨⟨(I', J', R'), rfl, ⟨(fun z => by cases z), hq⟩, by rw [ht]; exact hz, by rw [ht]; exact hP'⟩, hS'.F ht⟩) hS'.2.2 hdg
  have hc : Cl (AM 0) false false 0 (fun _ => 0) 0 5 kRd (fun n' x y I' J' R' => n' = 5 ∧ Q x y I' J' R') (PW p l e (rmD (d + 6) 2 (sl (3 + 2) - sl 3)) s m ([.ref (ad h0 b 3)] : List Value).toArray below meth c (MQ below (mPost D ca h0 b (3 + 2) 0 0 R Q (mFree ca h0 b 3 I J R)) ([.ref (ad h0 b 3)] : List Value).toArray s 2 (sl (3 + 2) - sl 3) (mFree ca h0 b 3 I J R)) 4 D ca h0 b 3 (mFree ca h0 b 3 I J R) false) :=
    ⟨fun en hen n' lv st I' J' R' h => step_ok (isl := false) (xs := fun _ => 0) (L := 0) hC (metd0 l) ⟨by show 0 + 1 ≤ d + 6; omega, by show 64 * (0 + 1) ≤ 64 * (d + 6); omega⟩ qRk_le hRet (rd_okE en hen) (rd_need en hen) h, fun pc n' ks lv st I' J' R' h => PW_pk h⟩
  obtain ⟨tx, aK, aV, byt0, hby, hk1, hk2, hk3, hk4⟩ := hSK
  subst hby
  have hU0 : ∀ (H : Heap) (locs : List Loc), va_S (mFree ca h0 b 3 I J R) s.heap H locs → ∀ U : State, U.heap = H → s.WarmedH U.vm → SKc aK aV rd_by U := by
    intro H locs hS U hU hW
    have hq : ∀ a : Nat, a < s.heap.size → ¬ h0 ≤ a → U.heap[a]? = s.heap[a]? := fun a h1 h2 => by rw [hU]; exact hS.2.1 a h1 (fun z => h2 (mFree_ge.mp z))
    exact ⟨((vk_S.moved hW.alike hk2).kept hq).narrow (fun _ z => z.elim), ((va_Z.moved hW.alike hk3).kept hq).narrow (fun _ z => z.elim), ((va_Zq.moved hW.alike hk4).kept hq).narrow (fun _ z => z.elim)⟩
  have hk2' : vk_S 1 [102] [rd_by] (fun _ => aK) (fun _ => aV) (mFree ca h0 b 3 I J R) s s.heap := hk2.narrow (fun q z => mFree_ge.mp z)
  have key := rs_0 hc I J R (rd_loop hc (I := rdI I) (J0 := rdJ J) (R := rdR R) (show ¬ (5 : Nat) = 0 by decide) ?_ ?_ ?_ 102 0 (rdJ J) (by decide) (fun _ _ => rfl) (fun _ _ => rfl))
  · have hl := lv_entry ([.ref (ad h0 b 3)] : List Value) (n := 4) (Nat.le_of_ble_eq_true rfl)
    rw [lg_entry_eq]
    exact key s.heap [] _ (Nat.le_refl 3) (fun q => by cases q) hP hS0 hl
  · intro v1 v2 J1 h H locs ls hn hph hP hS hl
    refine va_ldcS hx hb hown hk1 dx_86 ?_
    refine va_calli (va_runV (As := []) (b := aK) (rest := [.int v2]) ⟨hx, hb, hml, hown, hts⟩ (m_length l (aK := aK) (aV := aV) (byt := rd_by))
      (cwV 0 hts (by unfold wsV; exact good_app (good_list hIn wv_length) (wsY_good hIn wc_length)) rfl rfl rfl ⟨rfl, by decide +kernel⟩ ⟨by show 2 + 1 ≤ d + 6; omega, by show 8 + (1 + 11) + 64 * 2 ≤ 64 * (d + 6); omega⟩)
      ⟨SKc.blind, vk_recv (i := 0) hk2' (by decide) hS, fun U hU hW => ⟨rfl, hU0 H locs hS U hU hW⟩⟩ rfl rfl hl.1 rfl (Nat.le_of_ble_eq_true rfl) dx_88 ⟨?_, ?_⟩) hS (fun _ _ h => h.elim) (fun _ h => h.elim) (fun x u t H1 locs1 ht hal hp hB hz hk hS1 => ?_)
    · show 5 - 3 + 0 ≤ 2; omega
    · exact Nat.le_refl _
    · subst hp
      exact h H1 locs1 ls hn hph (hP.kept (fun k x hx => hk x.1 (hP k x hx).lt (fun z => z))) hS1 hl
  · intro v1 v2 J1 hv0 hv1 h H locs ls hn hph hP hS hl
    refine va_ldcS hx hb hown hk1 dx_94 ?_
    refine lv_iload_n hx hb dx_96 (i := 2) (x := v2) rfl (lv_gt (v := .int v2) hl rfl (by intro q; cases q)) ?_
    refine va_calli (va_runV (As := [.int v2]) (b := aK) (rest := []) ⟨hx, hb, hml, hown, hts⟩ (m_charAt l (aK := aK) (aV := aV) (byt := rd_by) hv0 hv1)
      (cwV 1 hts (by unfold wsV; exact good_app (good_list hIn wv_charAt) (wsY_good hIn wc_charAt)) rfl rfl rfl ⟨rfl, by decide +kernel⟩ ⟨by show 4 + 1 ≤ d + 6; omega, by show 8 + (2 + 11) + 64 * 4 ≤ 64 * (d + 6); omega⟩)
      ⟨SKc.blind, vk_recv (i := 0) hk2' (by decide) hS, fun U hU hW => ⟨rfl, hU0 H locs hS U hU hW⟩⟩ rfl rfl hl.1 rfl (Nat.le_of_ble_eq_true rfl) dx_97 ⟨?_, ?_⟩) hS (fun _ _ h => h.elim) (fun _ h => h.elim) (fun x u t H1 locs1 ht hal hp hB hz hk hS1 => ?_)
    · show 5 - 3 + 0 ≤ 2; omega
    · exact Nat.le_refl _
    · subst hp
      exact h H1 locs1 ls hn hph (hP.kept (fun k x hx => hk x.1 (hP k x hx).lt (fun z => z))) hS1 hl
  · intro J1 hJ hA
    refine ⟨rfl, hQ (rdI I) J1 (rdR R) (fun i h1 h2 h3 => ?_) (fun i h1 h2 h3 => ?_) (fun i h1 h2 h3 => ?_) ⟨fun k => rfl, rfl, rfl, rfl, rfl, rfl, rfl, rfl, rfl, rfl, rfl, ?_, rfl, rfl, rfl, hA⟩⟩
    · simp only [rdI, uI_ne h1, zI_ne h2, zI_ne h3]
    · rw [hJ i h3]
      simp only [rdJ, uJ_ne h1, zJ_ne h2, zJ_ne h3]
    · simp only [rdR, uR_ne h1, zR_ne h2, zR_ne h3]
    · rw [hJ 3 (by decide)]
      rfl
end PT16x6
