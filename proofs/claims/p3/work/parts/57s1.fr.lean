/-! ===== the fraction that is told: both sides' longs exactly ===== -/
noncomputable def eu9 : Nat → Int64 → Int64 → Int64
  | 0, x, _ => x
  | n + 1, x, y => if y = 0 then x else eu9 n y (x - x / y * y)
noncomputable def EuE (g : Int64) : Nat → Int64 → Int64 → Prop
  | 0, x, y => y = 0 ∧ x = g
  | n + 1, x, y => ¬ y = 0 ∧ EuE g n y (x - x / y * y)
theorem EuE.v {g : Int64} : ∀ (n N : Nat) (x y : Int64), EuE g n x y → n ≤ N → eu9 N x y = g := by
  intro n
  induction n with
  | zero =>
    intro N x y h _
    cases N with
    | zero => exact h.2
    | succ N => exact (if_pos h.1).trans h.2
  | succ n ih =>
    intro N x y h hN
    cases N with
    | zero => omega
    | succ N => exact (if_neg h.1).trans (ih N _ _ h.2 (by omega))
theorem eu_rem {x y : Int64} (hx : 0 ≤ x.toInt) (hy : 0 < y.toInt) : (x - x / y * y).toInt = x.toInt % y.toInt := by
  have h1 := Int.emod_nonneg x.toInt (show y.toInt ≠ 0 by omega)
  have h2 := Int.emod_lt_of_pos x.toInt hy
  have h3 := (i64 y).2
  rw [tl_rem rfl rfl, Int.tmod_eq_emod_of_nonneg hx]
  exact tl_bmod (by omega) (by omega)
theorem emod_half {a b p : Int} (h1 : 0 < b) (h2 : b < a) (h3 : a < 2 * p) : a % b < p := by
  have e := Int.emod_add_mul_ediv a b
  have hq : 1 ≤ a / b := Int.le_ediv_of_mul_le h1 (by omega)
  have hm : b * 1 ≤ b * (a / b) := Int.mul_le_mul_of_nonneg_left hq (by omega)
  have hl := Int.emod_lt_of_pos a h1
  generalize b * (a / b) = w at e hm
  omega
theorem i64_z {x : Int64} (h : x.toInt = 0) : x = 0 := Int64.toInt_inj.mp h
theorem eu_end : ∀ (k : Nat) (x y : Int64), 0 ≤ x.toInt → 0 ≤ y.toInt → y.toInt < 2 ^ k → 0 < x.toInt ∨ 0 < y.toInt → ∃ n g, n ≤ 2 * k ∧ EuE g n x y ∧ 0 < g.toInt := by
  intro k
  induction k with
  | zero =>
    intro x y hx hy hk hp
    have h1 : (2 : Int) ^ 0 = 1 := rfl
    have h0 : y.toInt = 0 := by omega
    exact ⟨0, x, by omega, ⟨i64_z h0, rfl⟩, by omega⟩
  | succ k ih =>
    intro x y hx hy hk hp
    by_cases h0 : y = 0
    · exact ⟨0, x, by omega, ⟨h0, rfl⟩, hp.resolve_right (by rw [h0]; decide)⟩
    · have hy1 : 0 < y.toInt := by
        have : ¬ y.toInt = 0 := fun z => h0 (i64_z z)
        omega
      have r1 := eu_rem hx hy1
      have b1 := Int.emod_nonneg x.toInt (show y.toInt ≠ 0 by omega)
      have b2 := Int.emod_lt_of_pos x.toInt hy1
      by_cases h1 : x - x / y * y = 0
      · exact ⟨1, y, by omega, ⟨h0, h1, rfl⟩, hy1⟩
      · have hr : 0 < (x - x / y * y).toInt := by
          have : ¬ (x - x / y * y).toInt = 0 := fun z => h1 (i64_z z)
          omega
        have r2 := eu_rem hy hr
        have hp2 : (2 : Int) ^ (k + 1) = 2 * 2 ^ k := by rw [Int.pow_succ]; omega
        rw [hp2] at hk
        have hh := emod_half hr (by omega) hk
        have hn0 := Int.emod_nonneg y.toInt (show (x - x / y * y).toInt ≠ 0 by omega)
        obtain ⟨n, g, hn, hg, hgp⟩ := ih (x - x / y * y) (y - y / (x - x / y * y) * (x - x / y * y)) (by omega) (by rw [r2]; exact hn0) (by rw [r2]; exact hh) (Or.inl hr)
        exact ⟨n + 2, g, by omega, ⟨h0, h1, hg⟩, hgp⟩
noncomputable def abv9 (t : Int64) : Int64 := if (0 : Int64) < t then t else -t
noncomputable def gd9 (t b : Int64) : Int64 := eu9 130 (abv9 t) b
theorem ab9_p {t : Int64} (h : -9223372036854775808 < t.toInt) : 0 ≤ (abv9 t).toInt := by
  have h2 := (i64 t).2
  unfold abv9
  split
  · rename_i c
    have c2 := Int64.lt_iff_toInt_lt.mp c
    have z : (0 : Int64).toInt = 0 := rfl
    omega
  · rename_i c
    have c2 : ¬ (0 : Int64).toInt < t.toInt := fun q => c (Int64.lt_iff_toInt_lt.mpr q)
    have z : (0 : Int64).toInt = 0 := rfl
    rw [Int64.toInt_neg, tl_bmod (by omega) (by omega)]
    omega
theorem gd9_e {t b : Int64} (ht : -9223372036854775808 < t.toInt) (hb : 0 < b.toInt) : ∃ n, n ≤ 126 ∧ EuE (gd9 t b) n (abv9 t) b ∧ 0 < (gd9 t b).toInt := by
  have hb2 := (i64 b).2
  have e63 : (2 : Int) ^ 63 = 9223372036854775808 := by decide
  obtain ⟨n, g, hn, h, hg⟩ := eu_end 63 (abv9 t) b (ab9_p ht) (by omega) (by omega) (Or.inr hb)
  have e : gd9 t b = g := EuE.v n 130 _ _ h (by omega)
  rw [e]
  exact ⟨n, hn, h, hg⟩
theorem gd9_m {t b : Int64} (hb : 0 < b.toInt) (h : -9223372036854775808 < t.toInt ∨ t - t / b * b = 0) : ∃ n, n ≤ 126 ∧ EuE (gd9 t b) n (abv9 t) b ∧ 0 < (gd9 t b).toInt := by
  by_cases q : -9223372036854775808 < t.toInt
  · exact gd9_e q hb
  · have h2 := (i64 t).1
    have ht : t.toInt = -9223372036854775808 := by omega
    have hr : t - t / b * b = 0 := h.resolve_left q
    have ea : abv9 t = t := by
      unfold abv9
      have z : (0 : Int64).toInt = 0 := rfl
      rw [if_neg (fun c => by have := Int64.lt_iff_toInt_lt.mp c; omega)]
      refine Int64.toInt_inj.mp ?_
      rw [Int64.toInt_neg, ht]
      decide
    have hE : EuE b 1 (abv9 t) b := ⟨fun z => by rw [z] at hb; exact absurd hb (by decide), by rw [ea]; exact hr, rfl⟩
    have e : gd9 t b = b := EuE.v 1 130 _ _ hE (by decide)
    rw [e]
    exact ⟨1, by decide, hE, hb⟩
theorem jd_eq {J : Jm} {o j : Nat} {v : Int64} : uJ J o j v o j = v := by rw [uJ_eq]; exact if_pos rfl
theorem jd_k {J : Jm} {o j k : Nat} {v : Int64} (h : ¬ k = j) : uJ J o j v o k = J o k := by rw [uJ_eq]; exact if_neg h
section FRA
variable {I : Im} {J : Jm} {R : Rm} {Q : Qt}
theorem px_cd {d n : Nat} {g x y : Int64} (h : EuE g n x y) (hn : n < 900) (hQ : Q 0 g I J R) : AM (d + 1) 168 112 [.long x, .long y] I J R Q := by
  refine am_X11_commonDivisor (fun P hc => sg_X11_commonDivisor_0 hc _ _ _ _ _ ?_)
  have L : ∀ (m i : Nat) (v4 v6 : Int64), EuE g m v4 v6 → i + m < 1000 → P 9 112 [(4, .long v4), (6, .long v6), (8, .int (nI i))] [] I J R := by
    intro m
    induction m with
    | zero =>
      intro i v4 v6 h hi
      obtain ⟨h0, rfl⟩ := h
      exact sg_X11_commonDivisor_9 hc _ _ _ _ _ _ ⟨fun _ => hQ, fun _ => ⟨fun _ => hQ, fun c => absurd ((lg_cmp_eq _ _).mpr h0) c⟩⟩
    | succ m ih =>
      intro i v4 v6 h hi
      refine sg_X11_commonDivisor_9 hc _ _ _ _ _ _ ⟨fun c => absurd ((nle_nI (a := 1000) (b := i) (by omega) (by omega)).mp c) (by omega), fun _ => ⟨fun c => absurd ((lg_cmp_eq _ _).mp c) h.1, fun _ => ⟨h.1, ?_⟩⟩⟩
      rw [nI_k1]
      exact ih (i + 1) _ _ h.2 (by omega)
  exact L n 0 x y h (by omega)
theorem px_tellM {d : Nat} {t b : Int64} (ht : -9223372036854775808 < t.toInt ∨ t - t / b * b = 0) (hb : 0 < b.toInt) (hQ : Q 1 0 (uI I 1 0 0) (uJ (uJ J 1 1 (t / gd9 t b)) 1 2 (b / gd9 t b)) R) : AM (d + 2) 155 112 [.ref 1, .long t, .long b] I J R Q := by
  obtain ⟨n, hn, he, hg⟩ := gd9_m hb ht
  have h0 : ¬ gd9 t b = 0 := fun z => by rw [z] at hg; exact absurd hg (by decide)
  refine w_X11_tell (px_cd he (by omega) ⟨fun c => ?_, fun _ => ⟨h0, h0, w_X11_allow ⟨Or.inr rfl, fun _ => ⟨Or.inr rfl, hQ⟩⟩⟩⟩)
  rw [lg_cmp_le] at c
  have c2 := cl_le rfl rfl c
  have z : (0 : Int64).toInt = 0 := rfl
  omega
theorem px_tell {d : Nat} {t b : Int64} (ht : -9223372036854775808 < t.toInt) (hb : 0 < b.toInt) (hQ : Q 1 0 (uI I 1 0 0) (uJ (uJ J 1 1 (t / gd9 t b)) 1 2 (b / gd9 t b)) R) : AM (d + 2) 155 112 [.ref 1, .long t, .long b] I J R Q := px_tellM (Or.inl ht) hb hQ
theorem px_fracM {d : Nat} {t b : Int64} (ht : -9223372036854775808 < t.toInt ∨ t - t / b * b = 0) (hb : 0 < b.toInt) (hQ : Q 1 0 I (uJ (uJ J 97 2 (t / gd9 t b)) 97 3 (b / gd9 t b)) R) : AM (d + 1) 179 112 [.ref 97, .long t, .long b] I J R Q := by
  obtain ⟨n, hn, he, hg⟩ := gd9_m hb ht
  have h0 : ¬ gd9 t b = 0 := fun z => by rw [z] at hg; exact absurd hg (by decide)
  refine am_X12_fraction (fun P hc => sg_X12_fraction_0 hc _ _ _ _ _ ?_)
  have L : ∀ (m : Nat) (v5 v7 : Int64), EuE (gd9 t b) m v5 v7 → P 9 112 [(0, .ref 97), (1, .long t), (3, .long b), (5, .long v5), (7, .long v7)] [] I J R := by
    intro m
    induction m with
    | zero =>
      intro v5 v7 h
      refine sg_X12_fraction_9 hc _ _ _ _ _ _ _ ⟨fun _ => ?_, fun c => absurd ((lg_cmp_eq _ _).mpr h.1) c⟩
      rw [h.2]
      exact ⟨h0, h0, Or.inr rfl, hQ⟩
    | succ m ih =>
      intro v5 v7 h
      exact sg_X12_fraction_9 hc _ _ _ _ _ _ _ ⟨fun c => absurd ((lg_cmp_eq _ _).mp c) h.1, fun _ => ⟨h.1, ih _ _ h.2⟩⟩
  exact L n _ _ he
theorem px_frac {d : Nat} {t b : Int64} (ht : -9223372036854775808 < t.toInt) (hb : 0 < b.toInt) (hQ : Q 1 0 I (uJ (uJ J 97 2 (t / gd9 t b)) 97 3 (b / gd9 t b)) R) : AM (d + 1) 179 112 [.ref 97, .long t, .long b] I J R Q := px_fracM (Or.inl ht) hb hQ
end FRA
/-- what a call tells: the fraction a / c where P, else what was told before -/
noncomputable def FrX (o i j : Nat) (P : Prop) (a c : Int) (J J2 : Jm) (x : Int32) : Prop := (x = 1 ∧ P ∧ J2 o i = Int64.ofInt a / gd9 (Int64.ofInt a) (Int64.ofInt c) ∧ J2 o j = Int64.ofInt c / gd9 (Int64.ofInt a) (Int64.ofInt c)) ∨ (x = 0 ∧ ¬ P ∧ J2 o i = J o i ∧ J2 o j = J o j)
noncomputable def FQ9 (J : Jm) : Prop := J 1 1 = J 97 2 ∧ J 1 2 = J 97 3
noncomputable def KFc (J J2 : Jm) : Prop := J2 1 1 = J 1 1 ∧ J2 1 2 = J 1 2
noncomputable def KFm (J J2 : Jm) : Prop := J2 97 2 = J 97 2 ∧ J2 97 3 = J 97 3
section FRB
variable {J J1 J2 J3 : Jm} {P : Prop} {a c : Int} {x x2 : Int32}
theorem FrX.yc {t b : Int64} (ht : t.toInt = a) (hb : b.toInt = c) (hP : P) : FrX 1 1 2 P a c J (uJ (uJ J1 1 1 (t / gd9 t b)) 1 2 (b / gd9 t b)) 1 := by
  subst ht; subst hb
  rw [FrX, Int64.ofInt_toInt, Int64.ofInt_toInt]
  exact Or.inl ⟨rfl, hP, (jd_k (by decide)).trans jd_eq, jd_eq⟩
theorem FrX.ym {t b : Int64} (ht : t.toInt = a) (hb : b.toInt = c) (hP : P) : FrX 97 2 3 P a c J (uJ (uJ J1 97 2 (t / gd9 t b)) 97 3 (b / gd9 t b)) 1 := by
  subst ht; subst hb
  rw [FrX, Int64.ofInt_toInt, Int64.ofInt_toInt]
  exact Or.inl ⟨rfl, hP, (jd_k (by decide)).trans jd_eq, jd_eq⟩
theorem FrX.n {o i j : Nat} (hP : ¬ P) : FrX o i j P a c J J 0 := Or.inr ⟨rfl, hP, rfl, rfl⟩
theorem FrX.n2 {o i j : Nat} (hP : ¬ P) (e1 : J2 o i = J o i) (e2 : J2 o j = J o j) : FrX o i j P a c J J2 0 := Or.inr ⟨rfl, hP, e1, e2⟩
theorem FQ9.kp (h : FQ9 J) (k1 : KFc J J1) (k2 : KFm J J1) : FQ9 J1 := ⟨k1.1.trans (h.1.trans k2.1.symm), k1.2.trans (h.2.trans k2.2.symm)⟩
theorem FQ9.two (h : FQ9 J) (h1 : FrX 1 1 2 P a c J J1 x) (k1 : KFm J J1) (h2 : FrX 97 2 3 P a c J1 J2 x2) (k2 : KFc J1 J2) : FQ9 J2 := by
  rcases h1 with ⟨-, p, e1, e2⟩ | ⟨-, p, e1, e2⟩ <;> rcases h2 with ⟨-, q, f1, f2⟩ | ⟨-, q, f1, f2⟩
  · exact ⟨k2.1.trans (e1.trans f1.symm), k2.2.trans (e2.trans f2.symm)⟩
  · exact absurd p q
  · exact absurd q p
  · exact ⟨k2.1.trans (e1.trans (h.1.trans (f1.trans k1.1).symm)), k2.2.trans (e2.trans (h.2.trans (f2.trans k1.2).symm))⟩
end FRB
