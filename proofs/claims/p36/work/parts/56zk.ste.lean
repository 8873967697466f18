section PT16x8
section TRR
variable {I : Im} {J : Jm} {R : Rm} {Q : Qt}
end TRR
end PT16x8
section PT16x9
/-! ===== the trays' numbers: copyStore(), pour(), the reference's ===== -/
noncomputable def HCq9 (I : Im) (J : Jm) (a b : Int32) (J1 : Jm) : Prop := (okCs9 (I 99) a b → (∀ k, k < 60 → J1 100 (60 * nn9 a + k) = if k < nn9 b then trm9 (I 98 (nn9 a)) (Int32.toInt64 (I 102 (4 + k))) else J 100 (60 * nn9 a + k)) ∧ (∀ i, ¬ (60 * nn9 a ≤ i ∧ i < 60 * nn9 a + 60) → J1 100 i = J 100 i) ∧ ∀ o, ¬ o = 100 → J1 o = J o) ∧ (¬ okCs9 (I 99) a b → J1 = J)
noncomputable def HPq9 (I : Im) (J : Jm) (a p b q n : Int32) (J1 : Jm) : Prop := (okU9 (I 99) (I 98) a p b q n → (∀ k, k < 60 → J1 100 (60 * nn9 b + k) = if nn9 q ≤ k ∧ k < nn9 q + nn9 n then J 100 (60 * nn9 a + (nn9 p + (k - nn9 q))) else J 100 (60 * nn9 b + k)) ∧ (∀ i, ¬ (60 * nn9 b ≤ i ∧ i < 60 * nn9 b + 60) → J1 100 i = J 100 i) ∧ ∀ o, ¬ o = 100 → J1 o = J o) ∧ (¬ okU9 (I 99) (I 98) a p b q n → J1 = J)
section TRV
variable {I : Im} {J : Jm} {R : Rm} {Q : Qt}
theorem mx_copy9 {d : Nat} {a b : Int32} (h60 : ∀ t, t < 4 → (I 99 t).toInt ≤ 60) : AM (d + 4) 254 112 [.ref 97, .int a, .int b] I J R (fun _ _ _ J1 _ => HCq9 I J a b J1) := by
  have z0 : (0 : Int32).toInt = 0 := rfl
  have z3 : (3 : Int32).toInt = 3 := rfl
  have z30 : (30 : Int32).toInt = 30 := rfl
  have e99 : uI (uI I 97 1 0) 97 0 0 99 = I 99 := (uI_ne (by decide)).trans (uI_ne (by decide))
  have e98 : uI (uI I 97 1 0) 97 0 0 98 = I 98 := (uI_ne (by decide)).trans (uI_ne (by decide))
  have e102 : uI (uI I 97 1 0) 97 0 0 102 = I 102 := (uI_ne (by decide)).trans (uI_ne (by decide))
  refine am_X12_copyStore (fun P hc => ?_)
  have no : ¬ okCs9 (I 99) a b → ∀ (s : Int32) (A : Im), AM (d + 3) 176 112 [.ref 97, .int s] A J R (fun _ _ _ J1 _ => HCq9 I J a b J1) := fun hn s A => w_X12_refuse ⟨fun z => absurd z hn, fun _ => rfl⟩
  refine sg_X12_copyStore_0 hc _ _ _ _ _ (w_X12_isTray (px_isInI (lo := 0) (hi := 3) (fun l1 l2 _ => ⟨Or.inr rfl, fun _ => ⟨fun _ => ?_, fun z => absurd z (by decide)⟩⟩) (fun m1 _ => ⟨Or.inl rfl, fun _ => ⟨fun z => absurd rfl z, fun _ => no (fun z => ?_) 1 _⟩⟩)))
  · rw [le_i, z0] at l1
    rw [le_i, z3] at l2
    have ht : tr9 a := ⟨l1, l2⟩
    obtain ⟨n4, v4⟩ := tr9_n ht
    have l := h60 _ n4
    have e99t : uI (uI I 97 1 0) 97 0 0 99 (Int32.toNatClampNeg a) = I 99 (nn9 a) := congrFun e99 _
    refine ⟨v4, fun c1 => ⟨v4, fun c2 => ?_, fun c2 => no (fun z => c2 ?_) 4 _⟩, fun c1 => no (fun z => c1 ?_) 3 _⟩
    · rw [e99t, le_i] at c2
      refine px_isInI (lo := 0) (hi := 30) (fun k1 k2 _ => ⟨fun _ => ?_, fun z => absurd z (by decide)⟩) (fun m2 _ => ⟨fun z => absurd rfl z, fun _ => no (fun z => ?_) 5 _⟩)
      · rw [le_i, z0] at k1
        rw [le_i, z30] at k2
        have hk : okCs9 (I 99) a b := ⟨ht, ⟨k1, k2⟩, c2⟩
        have nb : (nn9 b : Int) = b.toInt := by show (b.toInt.toNat : Int) = b.toInt; omega
        have eb : b = nI (nn9 b) := Int32.toInt_inj.mp (by rw [nI_toInt (by omega)]; omega)
        have L : ∀ (f : Nat) (A : Im) (M : Jm), f ≤ nn9 b → A 99 = I 99 → A 98 = I 98 → A 102 = I 102 → (∀ k, k < 60 → M 100 (60 * nn9 a + k) = if k < nn9 b - f then trm9 (I 98 (nn9 a)) (Int32.toInt64 (I 102 (4 + k))) else J 100 (60 * nn9 a + k)) → (∀ i, ¬ (60 * nn9 a ≤ i ∧ i < 60 * nn9 a + 60) → M 100 i = J 100 i) → (∀ o, ¬ o = 100 → M o = J o) → P 75 112 [(0, .ref 97), (1, .int a), (2, .int b), (3, .int (nI (nn9 b - f)))] [] A M R := by
          intro f
          induction f with
          | zero =>
            intro A M _ _ _ _ h1 h2 h3
            refine sg_X12_copyStore_75 hc _ _ _ _ _ _ ⟨fun _ => ⟨fun _ => ⟨h1, h2, h3⟩, fun z => absurd hk z⟩, fun y => absurd ?_ y⟩
            rw [le_i, nI_toInt (show nn9 b - 0 < 2 ^ 31 by omega)]
            omega
          | succ f ih =>
            intro A M hf g99 g98 g102 h1 h2 h3
            have tn : (nI (nn9 b - (f + 1))).toInt = ((nn9 b - (f + 1) : Nat) : Int) := nI_toInt (by omega)
            have nn : nn9 (nI (nn9 b - (f + 1))) = nn9 b - (f + 1) := tn_nI (by omega)
            have i4 : (4 + nI (nn9 b - (f + 1)) : Int32).toInt = 4 + ((nn9 b - (f + 1) : Nat) : Int) := ti_add (show (4 : Int32).toInt = 4 from rfl) tn (by omega)
            have i5 : Int32.toNatClampNeg (4 + nI (nn9 b - (f + 1))) = 4 + (nn9 b - (f + 1)) := by
              have e3 : Int32.toNatClampNeg (4 + nI (nn9 b - (f + 1))) = (4 + nI (nn9 b - (f + 1)) : Int32).toInt.toNat := rfl
              rw [e3, i4]; omega
            have en : nI (nn9 b - (f + 1)) + 1 = nI (nn9 b - f) := by rw [nI_k1]; exact congrArg nI (by omega)
            refine sg_X12_copyStore_75 hc _ _ _ _ _ _ ⟨fun y => ?_, fun _ => ⟨vp_of i4 (by omega) (by omega), ?_⟩⟩
            · rw [le_i, tn] at y; omega
            · rw [i5, en]
              refine px_wrR9 (fun t ht => by rw [g99]; exact h60 t ht) (fun _ => fun _ => ?_) (fun hn => absurd ⟨ht, by rw [tn]; omega, by rw [tn, g99]; omega⟩ hn)
              rw [nn, g98, g102]
              refine ih _ _ (by omega) ((uI_ne (by decide)).trans ((uI_ne (by decide)).trans g99)) ((uI_ne (by decide)).trans ((uI_ne (by decide)).trans g98)) ((uI_ne (by decide)).trans ((uI_ne (by decide)).trans g102)) (fun k hk6 => ?_) (fun i hi => ?_) (fun o ho => (uJ_ne ho).trans (h3 o ho))
              · by_cases q : k = nn9 b - (f + 1)
                · subst q
                  rw [rj_eq, if_pos (by omega)]
                · rw [rj_k (by omega), h1 k hk6]
                  by_cases y : k < nn9 b - (f + 1)
                  · rw [if_pos y, if_pos (by omega)]
                  · rw [if_neg y, if_neg (by omega)]
              · rw [rj_k (by omega)]; exact h2 i hi
        have k := L (nn9 b) (uI (uI I 97 1 0) 97 0 0) J (Nat.le_refl _) e99 e98 e102 (fun k _ => by rw [Nat.sub_self, if_neg (by omega)]) (fun _ _ => rfl) (fun _ _ => rfl)
        rw [Nat.sub_self] at k
        exact k
      · have := z.2.1.1
        have := z.2.1.2
        rcases m2 with m2 | m2
        · rw [Int32.lt_iff_toInt_lt, z0] at m2; omega
        · rw [le_i, z30] at m2; omega
    · rw [e99t, le_i]; exact z.2.2
    · rw [e99t, le_i, z0]
      have := z.2.1.1
      have := z.2.2
      omega
  · have := z.1.1
    have := z.1.2
    rcases m1 with m1 | m1
    · rw [Int32.lt_iff_toInt_lt, z0] at m1; omega
    · rw [le_i, z3] at m1; omega
theorem ix60b {a p x : Int32} (h : tr9 a) (hp : 0 ≤ p.toInt) (hx : 0 ≤ x.toInt) (h2 : p.toInt + x.toInt < 60) : Int32.toNatClampNeg ((60 * a + p) + x) = 60 * nn9 a + (nn9 p + nn9 x) ∧ vp_in ((60 * a + p) + x) 240 := by
  obtain ⟨a1, a2⟩ := h
  have e60 : (60 : Int32).toInt = 60 := rfl
  have em : (60 * a : Int32).toInt = 60 * a.toInt := ti_mul e60 rfl (by omega)
  have es : (60 * a + p : Int32).toInt = 60 * a.toInt + p.toInt := ti_add em rfl (by omega)
  have et : ((60 * a + p) + x : Int32).toInt = 60 * a.toInt + p.toInt + x.toInt := ti_add es rfl (by omega)
  have ea : nn9 a = a.toInt.toNat := rfl
  have ep : nn9 p = p.toInt.toNat := rfl
  have ex : nn9 x = x.toInt.toNat := rfl
  have e3 : Int32.toNatClampNeg ((60 * a + p) + x) = ((60 * a + p) + x : Int32).toInt.toNat := rfl
  exact ⟨by rw [e3, et, ea, ep, ex]; omega, vp_of et (by omega) (by omega)⟩
theorem mx_pour9 {d : Nat} {a p b q n : Int32} (h60 : ∀ t, t < 4 → (I 99 t).toInt ≤ 60) : AM (d + 2) 186 112 [.ref 97, .int a, .int p, .int b, .int q, .int n] I J R (fun _ _ _ J1 _ => HPq9 I J a p b q n J1) := by
  have z0 : (0 : Int32).toInt = 0 := rfl
  have z1 : (1 : Int32).toInt = 1 := rfl
  have z4 : (4 : Int32).toInt = 4 := rfl
  have e99 : uI (uI I 97 1 0) 97 0 0 99 = I 99 := (uI_ne (by decide)).trans (uI_ne (by decide))
  have e98 : uI (uI I 97 1 0) 97 0 0 98 = I 98 := (uI_ne (by decide)).trans (uI_ne (by decide))
  refine am_X12_pour (fun P hc => ?_)
  have no : ¬ okU9 (I 99) (I 98) a p b q n → ∀ (s : Int32) (A : Im), AM (d + 1) 177 112 [.ref 97, .int s] A J R (fun x _ _ J1 _ => (x = 0 ∨ x = 1) → (((x : Int32) = 0 ∨ (x : Int32) = 1) ∧ HPq9 I J a p b q n J1)) := fun hn s A => w_X12_no ⟨Or.inl rfl, fun _ => ⟨Or.inl rfl, fun z => absurd z hn, fun _ => rfl⟩⟩
  refine sg_X12_pour_0 hc _ _ _ _ _ _ _ _ ⟨fun c => no (fun z => ?_) 1 _, fun c1 => ⟨fun c => no (fun z => ?_) 1 _, fun c2 => ⟨fun c => no (fun z => ?_) 1 _, fun c3 => ⟨fun c4 => ?_, fun c => no (fun z => ?_) 1 _⟩⟩⟩⟩
  · rw [Int32.lt_iff_toInt_lt, z0] at c; have := z.1.1.1; omega
  · rw [le_i, z4] at c; have := z.1.1.2; omega
  · rw [Int32.lt_iff_toInt_lt, z0] at c; have := z.1.2.1; omega
  · rw [Int32.lt_iff_toInt_lt, z0] at c1 c3
    rw [le_i, z4] at c2
    rw [Int32.lt_iff_toInt_lt, z4] at c4
    have ha : tr9 a := ⟨by omega, by omega⟩
    have hb : tr9 b := ⟨by omega, by omega⟩
    obtain ⟨na, va⟩ := tr9_n ha
    obtain ⟨nb, vb⟩ := tr9_n hb
    have la := h60 _ na
    have lb := h60 _ nb
    have ea : uI (uI I 97 1 0) 97 0 0 99 (Int32.toNatClampNeg a) = I 99 (nn9 a) := congrFun e99 _
    have eb : uI (uI I 97 1 0) 97 0 0 99 (Int32.toNatClampNeg b) = I 99 (nn9 b) := congrFun e99 _
    have sa : uI (uI I 97 1 0) 97 0 0 98 (Int32.toNatClampNeg a) = I 98 (nn9 a) := congrFun e98 _
    have sb : uI (uI I 97 1 0) 97 0 0 98 (Int32.toNatClampNeg b) = I 98 (nn9 b) := congrFun e98 _
    have ip := i32 p
    have iq := i32 q
    have in_ := i32 n
    rw [ea, eb, sa, sb]
    have ell : ∀ x : Int32, (Int32.toInt64 x).toInt = x.toInt := fun x => tl_i2l rfl
    have e1 : (Int32.toInt64 p + Int32.toInt64 n).toInt = p.toInt + n.toInt := tl_add (ell p) (ell n) (by omega)
    have e2 : (Int32.toInt64 q + Int32.toInt64 n).toInt = q.toInt + n.toInt := tl_add (ell q) (ell n) (by omega)
    refine ⟨va, fun c => no (fun z => ?_) 3 _, fun c5 => ⟨vb, fun c6 => ⟨va, vb, fun c7 => ⟨fun c8 => ⟨fun c => no (fun z => ?_) 4 _, fun c9 => ⟨fun c => no (fun z => ?_) 4 _, fun c10 => ⟨va, fun c => no (fun z => ?_) 4 _, fun c11 => ⟨vb, fun c12 => ?_, fun c => no (fun z => ?_) 4 _⟩⟩⟩⟩, fun c => no (fun z => ?_) 6 _⟩, fun c => no (fun z => c z.2.1) 11 _⟩, fun c => no (fun z => ?_) 3 _⟩⟩
    · rw [Int32.lt_iff_toInt_lt, z0] at c
      have := z.2.2.1.1
      have := z.2.2.1.2.2
      have := z.2.2.2.1
      omega
    · rw [Int32.lt_iff_toInt_lt, z0] at c; have := z.2.2.1.1; omega
    · rw [Int32.lt_iff_toInt_lt, z0] at c; have := z.2.2.1.2.1; omega
    · rw [lg_cmp_gt] at c
      have := cl_lt (ell _) e1 c
      have := z.2.2.2.1
      omega
    · rw [le_i, z0] at c8
      rw [Int32.lt_iff_toInt_lt, z0] at c9 c10
      rw [lg_cmp_gt] at c11
      have k11 := cl_nlt (ell _) e1 c11
      rw [lg_cmp_le] at c12
      have k12 := cl_le e2 (ell _) c12
      have hk : okU9 (I 99) (I 98) a p b q n := ⟨⟨ha, hb⟩, c7, ⟨by omega, by omega, c8⟩, k11, k12⟩
      have np : (nn9 p : Int) = p.toInt := by show (p.toInt.toNat : Int) = p.toInt; omega
      have nq : (nn9 q : Int) = q.toInt := by show (q.toInt.toNat : Int) = q.toInt; omega
      have nn : (nn9 n : Int) = n.toInt := by show (n.toInt.toNat : Int) = n.toInt; omega
      have en : n = nI (nn9 n) := Int32.toInt_inj.mp (by rw [nI_toInt (by omega)]; omega)
      generalize uI (uI I 97 1 0) 97 0 0 = A
      have fin : ∀ M : Jm, (∀ j, j < nn9 n → M 100 (60 * nn9 b + (nn9 q + j)) = J 100 (60 * nn9 a + (nn9 p + j))) → (∀ i, (∀ j, j < nn9 n → ¬ i = 60 * nn9 b + (nn9 q + j)) → M 100 i = J 100 i) → (∀ o, ¬ o = 100 → M o = J o) → HPq9 I J a p b q n M := fun M h1 h2 h3 => by
        refine ⟨fun _ => ⟨fun k hk6 => ?_, fun i hi => h2 i (fun j hj y => hi (by omega)), h3⟩, fun z => absurd hk z⟩
        by_cases y : nn9 q ≤ k ∧ k < nn9 q + nn9 n
        · rw [if_pos y]
          have k2 := h1 (k - nn9 q) (by omega)
          rw [show nn9 q + (k - nn9 q) = k by omega] at k2
          exact k2
        · rw [if_neg y]
          exact h2 _ (fun j hj x => y (by omega))
      refine ⟨fun c13 => ?_, fun c13 => ?_⟩
      · rw [le_i] at c13
        have L : ∀ (f : Nat) (M : Jm), f ≤ nn9 n → (∀ j, j < nn9 n - f → M 100 (60 * nn9 b + (nn9 q + j)) = J 100 (60 * nn9 a + (nn9 p + j))) → (∀ i, (∀ j, j < nn9 n - f → ¬ i = 60 * nn9 b + (nn9 q + j)) → M 100 i = J 100 i) → (∀ o, ¬ o = 100 → M o = J o) → P 158 112 [(0, .ref 97), (1, .int a), (2, .int p), (3, .int b), (4, .int q), (5, .int n), (6, .int 0), (7, .int (nI (nn9 n - f)))] [] A M R := by
          intro f
          induction f with
          | zero =>
            intro M _ h1 h2 h3
            refine sg_X12_pour_158 hc _ _ _ _ _ _ _ _ _ _ ⟨fun _ => ⟨Or.inr rfl, fin M h1 h2 h3⟩, fun y => absurd ?_ y⟩
            rw [le_i, nI_toInt (show nn9 n - 0 < 2 ^ 31 by omega)]; omega
          | succ f ih =>
            intro M hf h1 h2 h3
            have tn : (nI (nn9 n - (f + 1))).toInt = ((nn9 n - (f + 1) : Nat) : Int) := nI_toInt (by omega)
            have nI9 : nn9 (nI (nn9 n - (f + 1))) = nn9 n - (f + 1) := tn_nI (by omega)
            obtain ⟨x1, w1⟩ := ix60b (a := a) (p := p) (x := nI (nn9 n - (f + 1))) ha (by omega) (by omega) (by omega)
            obtain ⟨x2, w2⟩ := ix60b (a := b) (p := q) (x := nI (nn9 n - (f + 1))) hb (by omega) (by omega) (by omega)
            refine sg_X12_pour_158 hc _ _ _ _ _ _ _ _ _ _ ⟨fun y => ?_, fun _ => ⟨fun _ => ⟨w1, w2, ?_⟩, fun z => absurd rfl z⟩⟩
            · rw [le_i, tn] at y; omega
            · rw [x1, x2, nI9, show nI (nn9 n - (f + 1)) + 1 = nI (nn9 n - f) from by rw [nI_k1]; exact congrArg nI (by omega)]
              have src : M 100 (60 * nn9 a + (nn9 p + (nn9 n - (f + 1)))) = J 100 (60 * nn9 a + (nn9 p + (nn9 n - (f + 1)))) := h2 _ (fun j hj y => by omega)
              refine ih _ (by omega) (fun j hj => ?_) (fun i hi => ?_) (fun o ho => (uJ_ne ho).trans (h3 o ho))
              · by_cases y : j = nn9 n - (f + 1)
                · subst y; rw [rj_eq, src]
                · rw [rj_k (by omega)]; exact h1 j (by omega)
              · rw [rj_k (hi (nn9 n - (f + 1)) (by omega))]
                exact h2 i (fun j hj => hi j (by omega))
        have k := L (nn9 n) J (Nat.le_refl _) (fun j hj => absurd hj (by omega)) (fun _ _ => rfl) (fun _ _ => rfl)
        rw [Nat.sub_self] at k
        exact k
      · rw [le_i] at c13
        have L : ∀ (f : Nat) (M : Jm), f ≤ nn9 n → (∀ j, f ≤ j → j < nn9 n → M 100 (60 * nn9 b + (nn9 q + j)) = J 100 (60 * nn9 a + (nn9 p + j))) → (∀ i, (∀ j, f ≤ j → j < nn9 n → ¬ i = 60 * nn9 b + (nn9 q + j)) → M 100 i = J 100 i) → (∀ o, ¬ o = 100 → M o = J o) → P 158 112 [(0, .ref 97), (1, .int a), (2, .int p), (3, .int b), (4, .int q), (5, .int n), (6, .int 1), (7, .int (nI (nn9 n - f)))] [] A M R := by
          intro f
          induction f with
          | zero =>
            intro M _ h1 h2 h3
            refine sg_X12_pour_158 hc _ _ _ _ _ _ _ _ _ _ ⟨fun _ => ⟨Or.inr rfl, fin M (fun j hj => h1 j (Nat.zero_le _) hj) (fun i hi => h2 i (fun j _ hj => hi j hj)) h3⟩, fun y => absurd ?_ y⟩
            rw [le_i, nI_toInt (show nn9 n - 0 < 2 ^ 31 by omega)]; omega
          | succ f ih =>
            intro M hf h1 h2 h3
            have tn : (nI (nn9 n - (f + 1))).toInt = ((nn9 n - (f + 1) : Nat) : Int) := nI_toInt (by omega)
            have t1 : (n - 1 : Int32).toInt = n.toInt - 1 := ti_sub rfl z1 (by omega)
            have t2 : ((n - 1) - nI (nn9 n - (f + 1)) : Int32).toInt = n.toInt - 1 - ((nn9 n - (f + 1) : Nat) : Int) := ti_sub t1 tn (by omega)
            have nI9 : nn9 ((n - 1) - nI (nn9 n - (f + 1))) = f := by
              have e3 : nn9 ((n - 1) - nI (nn9 n - (f + 1))) = ((n - 1) - nI (nn9 n - (f + 1)) : Int32).toInt.toNat := rfl
              rw [e3, t2]; omega
            obtain ⟨x1, w1⟩ := ix60b (a := a) (p := p) (x := (n - 1) - nI (nn9 n - (f + 1))) ha (by omega) (by omega) (by omega)
            obtain ⟨x2, w2⟩ := ix60b (a := b) (p := q) (x := (n - 1) - nI (nn9 n - (f + 1))) hb (by omega) (by omega) (by omega)
            refine sg_X12_pour_158 hc _ _ _ _ _ _ _ _ _ _ ⟨fun y => ?_, fun _ => ⟨fun z => absurd z (by decide), fun _ => ⟨w1, w2, ?_⟩⟩⟩
            · rw [le_i, tn] at y; omega
            · rw [x1, x2, nI9, show nI (nn9 n - (f + 1)) + 1 = nI (nn9 n - f) from by rw [nI_k1]; exact congrArg nI (by omega)]
              have src : M 100 (60 * nn9 a + (nn9 p + f)) = J 100 (60 * nn9 a + (nn9 p + f)) := h2 _ (fun j hj1 hj y => by omega)
              refine ih _ (by omega) (fun j hj1 hj => ?_) (fun i hi => ?_) (fun o ho => (uJ_ne ho).trans (h3 o ho))
              · by_cases y : j = f
                · subst y; rw [rj_eq, src]
                · rw [rj_k (by omega)]; exact h1 j (by omega) hj
              · rw [rj_k (hi f (Nat.le_refl _) (by omega))]
                exact h2 i (fun j hj1 hj => hi j (by omega) hj)
        have k := L (nn9 n) J (Nat.le_refl _) (fun j hj1 hj => absurd hj (by omega)) (fun _ _ => rfl) (fun _ _ => rfl)
        rw [Nat.sub_self] at k
        exact k
    · rw [lg_cmp_le] at c
      have := cl_nle e2 (ell _) c
      have := z.2.2.2.2
      omega
    · rw [le_i, z0] at c; exact c z.2.2.1.2.2
    · rw [le_i, z0] at c
      have := z.2.2.1.2.1
      have := z.2.2.1.2.2
      have := z.2.2.2.2
      omega
  · rw [Int32.lt_iff_toInt_lt, z4] at c; have := z.1.2.2; omega
end TRV
end PT16x9
