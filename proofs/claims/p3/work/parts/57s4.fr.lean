/-! ===== burnt(): the odds that so many loaves burn, both sides, in longs as they wrap ===== -/
theorem i64_o_q10 {a : Int32} : Int32.toInt64 a = Int64.ofInt a.toInt := by
  have h : (Int32.toInt64 a).toInt = a.toInt := tl_i2l rfl
  rw [← h, Int64.ofInt_toInt]
noncomputable def pwV_q10 (a : Int32) : Nat → Int64 → Int64
  | 0, w => w
  | f + 1, w => pwV_q10 a f (w * Int32.toInt64 a)
theorem pwV_o_q10 {a : Int32} : ∀ (m : Nat) (W : Int), pwV_q10 a m (Int64.ofInt W) = Int64.ofInt (W * a.toInt ^ m) := by
  intro m
  induction m with
  | zero => intro W; rw [Int.pow_zero, Int.mul_one]; rfl
  | succ m ih =>
    intro W
    show pwV_q10 a m (Int64.ofInt W * Int32.toInt64 a) = _
    rw [i64_o_q10, ← Int64.ofInt_mul, ih, Int.pow_succ, Int.mul_assoc, Int.mul_comm a.toInt]
theorem cbn_0_q10 : ∀ n k, n < k → cbn_q10 n k = 0 := by
  intro n
  induction n with
  | zero =>
    intro k h
    cases k with
    | zero => omega
    | succ k => rfl
  | succ n ih =>
    intro k h
    cases k with
    | zero => omega
    | succ k =>
      show cbn_q10 n k + cbn_q10 n (k + 1) = 0
      rw [ih k (by omega), ih (k + 1) (by omega)]
theorem cbn_k0_q10 {n : Nat} : cbn_q10 n 0 = 1 := by cases n <;> rfl
noncomputable def tmZ_q10 (o q : Int) (n j : Nat) : Int := (cbn_q10 n j : Int) * o ^ j * q ^ (n - j)
theorem tmZ_0_q10 {o q : Int} {n j : Nat} (h : n < j) : tmZ_q10 o q n j = 0 := by unfold tmZ_q10; rw [cbn_0_q10 n j h]; simp
theorem tmZ_z_q10 {o q : Int} {n : Nat} : tmZ_q10 o q (n + 1) 0 = tmZ_q10 o q n 0 * q := by
  unfold tmZ_q10
  rw [cbn_k0_q10, cbn_k0_q10, Nat.sub_zero, Nat.sub_zero, Int.pow_succ]
  exact (Int.mul_assoc _ _ _).symm
theorem tmZ_s_q10 {o q : Int} {n i : Nat} : tmZ_q10 o q (n + 1) (i + 1) = tmZ_q10 o q n (i + 1) * q + tmZ_q10 o q n i * o := by
  have e0 : ((cbn_q10 (n + 1) (i + 1) : Nat) : Int) = (cbn_q10 n i : Int) + (cbn_q10 n (i + 1) : Int) := by
    rw [← Int.natCast_add]; rfl
  have e1 : n + 1 - (i + 1) = n - i := by omega
  unfold tmZ_q10
  rw [e0, e1, Int.pow_succ o i, Int.add_mul, Int.add_mul]
  generalize o ^ i = a
  have e2 : (cbn_q10 n i : Int) * (a * o) * q ^ (n - i) = (cbn_q10 n i : Int) * a * q ^ (n - i) * o := by
    rw [← Int.mul_assoc, Int.mul_right_comm]
  by_cases z : i + 1 ≤ n
  · have e3 : q ^ (n - i) = q ^ (n - (i + 1)) * q := by
      rw [← Int.pow_succ]; exact congrArg (fun z => q ^ z) (by omega)
    have e4 : (cbn_q10 n (i + 1) : Int) * (a * o) * q ^ (n - i) = (cbn_q10 n (i + 1) : Int) * (a * o) * q ^ (n - (i + 1)) * q := by
      rw [e3, ← Int.mul_assoc]
    rw [e2, e4]; exact Int.add_comm _ _
  · rw [e2, cbn_0_q10 n (i + 1) (by omega)]
    simp
/-- from 13 - g on -/
noncomputable def csZ_q10 (o q : Int) (n : Nat) : Nat → Int
  | 0 => 0
  | g + 1 => tmZ_q10 o q n (12 - g) + csZ_q10 o q n g
theorem csZ_0_q10 {o q : Int} {n : Nat} : ∀ g, g ≤ 13 → n < 13 - g → csZ_q10 o q n g = 0 := by
  intro g
  induction g with
  | zero => intro _ _; rfl
  | succ g ih =>
    intro hg h
    show tmZ_q10 o q n (12 - g) + csZ_q10 o q n g = 0
    have h1 := tmZ_0_q10 (o := o) (q := q) (n := n) (j := 12 - g) (by omega)
    have h2 := ih (by omega) (by omega)
    omega
theorem p16_c_q10 : ∀ n, n < 13 → (Int64.ofInt ((16 : Int) ^ n)).toInt = (16 : Int) ^ n ∧ 0 < (16 : Int) ^ n ∧ (-9223372036854775808 : Int64) - (-9223372036854775808) / Int64.ofInt ((16 : Int) ^ n) * Int64.ofInt ((16 : Int) ^ n) = 0 := by decide +kernel
theorem m16_q10 {n : Nat} {t : Int64} (hn : n ≤ 12) : -9223372036854775808 < t.toInt ∨ t - t / Int64.ofInt ((16 : Int) ^ n) * Int64.ofInt ((16 : Int) ^ n) = 0 := by
  by_cases q : -9223372036854775808 < t.toInt
  · exact Or.inl q
  · have h2 := (i64 t).1
    have e : t = -9223372036854775808 := Int64.toInt_inj.mp (by rw [show (-9223372036854775808 : Int64).toInt = -9223372036854775808 by decide]; omega)
    rw [e]
    exact Or.inr (p16_c_q10 n (by omega)).2.2
theorem o64_1_q10 : Int64.ofInt 1 = 1 := by decide
theorem o64_0_q10 : (0 : Int64) = Int64.ofInt 0 := by decide
theorem o64_16_q10 : (16 : Int64) = Int64.ofInt 16 := by decide
theorem o64_p_q10 : (1 : Int64) = Int64.ofInt ((16 : Int) ^ 0) := by decide
theorem nIdn_q10 : ∀ i, i < 13 → nI (i + 1) + (-1) = nI i ∧ nI (i + 1) - 1 = nI i := by decide +kernel
theorem nIdn0_q10 : nI 0 + (-1) = (-1 : Int32) := by decide
noncomputable def okB9_q10 (v1 v2 : Int32) : Prop := (0 ≤ v1.toInt ∧ v1.toInt ≤ 12) ∧ (0 ≤ v2.toInt ∧ v2.toInt ≤ 12)
noncomputable def buN9_q10 (od v1 v2 : Int32) : Int := (Int64.ofInt (csZ_q10 od.toInt (16 - od).toInt v1.toInt.toNat (13 - v2.toInt.toNat))).toInt
noncomputable def buB9_q10 (v1 : Int32) : Int := (16 : Int) ^ v1.toInt.toNat
theorem W9.odd {I : Im} {R : Rm} (h : W9 I R) : I (R 1 7) 1 = I 102 1 := h.1.2.1.1
section FRU
variable {I I1 : Im} {J J1 : Jm} {R : Rm} {Q : Qt}
theorem px_power_q10 {d m : Nat} {a : Int32} (hm : m ≤ 12) (hQ : Q 0 (pwV_q10 a m 1) I J R) : AM (d + 1) 169 112 [.int a, .int (nI m)] I J R Q := by
  refine am_X11_power (fun P hc => sg_X11_power_0 hc _ _ _ _ _ ?_)
  have L : ∀ (f i : Nat) (w : Int64), i + f = m → Q 0 (pwV_q10 a f w) I J R → P 5 112 [(0, .int a), (1, .int (nI m)), (2, .long w), (4, .int (nI i))] [] I J R := by
    intro f
    induction f with
    | zero =>
      intro i w hi hQ2
      have e : i = m := by omega
      subst e
      exact sg_X11_power_5 hc _ _ _ _ _ _ _ ⟨fun _ => hQ2, fun c => absurd (Int32.le_refl _) c⟩
    | succ f ih =>
      intro i w hi hQ
      refine sg_X11_power_5 hc _ _ _ _ _ _ _ ⟨fun c => absurd ((nle_nI (by omega) (by omega)).mp c) (by omega), fun _ => ?_⟩
      rw [nI_k1]
      exact ih (i + 1) _ (by omega) hQ
  exact L m 0 1 (by omega) hQ
theorem cf_burnt {d : Nat} {v1 v2 : Int32} (hR : RI R) (eo : I (R 1 7) 1 = I 102 1) : AM (d + 4) 143 112 [.ref 1, .int v1, .int v2] I J R (fun x _ _ J2 _ => FrX 1 1 2 (okB9_q10 v1 v2) (buN9_q10 (I 102 1) v1 v2) (buB9_q10 v1) J J2 x) := by
  have hO := hR.now.1
  have z0 : (0 : Int32).toInt = 0 := rfl
  have z12 : (12 : Int32).toInt = 12 := rfl
  have no : ∀ (z : Int32) (I9 : Im), ¬ okB9_q10 v1 v2 → AM (d + 3) 150 112 [.ref 1, .int z] I9 J R (fun x1 _ I1 J1 _ => (x1 = 0 ∨ x1 = 1) → (((x1 : Int32) = 0 ∨ (x1 : Int32) = 1) ∧ FrX 1 1 2 (okB9_q10 v1 v2) (buN9_q10 (I 102 1) v1 v2) (buB9_q10 v1) J J1 x1)) := fun z I9 hz => w_X11_deny ⟨Or.inl rfl, fun _ => ⟨Or.inl rfl, FrX.n hz⟩⟩
  refine am_X11_burnt (fun P hc => sg_X11_burnt_0 hc _ _ _ _ _ ⟨fun c => no 5 I (fun z => ?_), fun c1 => ⟨fun c => no 5 I (fun z => ?_), fun c2 => ⟨fun c => no 5 I (fun z => ?_), fun c3 => ⟨fun c4 => ?_, fun c => no 5 I (fun z => c ?_)⟩⟩⟩⟩)
  · have := ci_lt rfl z0 c
    have := z.1.1
    omega
  · have := ci_lt z12 rfl c
    have := z.1.2
    omega
  · have := ci_lt rfl z0 c
    have := z.2.1
    omega
  · have b1 := ci_nlt rfl z0 c1
    have b2 := ci_nlt z12 rfl c2
    have b3 := ci_nlt rfl z0 c3
    have b4 := ci_le rfl z12 c4
    have hok : okB9_q10 v1 v2 := ⟨⟨b1, b2⟩, b3, b4⟩
    obtain ⟨n, en, hn⟩ : ∃ n : Nat, v1 = nI n ∧ n ≤ 12 := ⟨v1.toInt.toNat, nI_ofN b1, by omega⟩
    obtain ⟨k, ek, hk⟩ : ∃ k : Nat, v2 = nI k ∧ k ≤ 12 := ⟨v2.toInt.toNat, nI_ofN b3, by omega⟩
    have tn' : v1.toInt.toNat = n := by rw [en, nI_toInt (by omega)]; omega
    have tk' : v2.toInt.toNat = k := by rw [ek, nI_toInt (by omega)]; omega
    have hN : buN9_q10 (I 102 1) v1 v2 = (Int64.ofInt (csZ_q10 (I 102 1).toInt (16 - I 102 1).toInt n (13 - k))).toInt := by unfold buN9_q10; rw [tn', tk']
    have hD : buB9_q10 v1 = (16 : Int) ^ n := by unfold buB9_q10; rw [tn']
    generalize ho : (I 102 1).toInt = o at hN
    generalize hq : (16 - I 102 1 : Int32).toInt = q at hN
    obtain ⟨p1, p2, -⟩ := p16_c_q10 n (by omega)
    subst en
    subst ek
    have fin : ∀ (x : Int64), x = Int64.ofInt (csZ_q10 o q n (13 - k)) → AM (d + 3) 169 112 [.int 16, .int (nI n)] I J R (fun _ y1 I1 J1 R1 => AM (d + 3) 155 112 [.ref 1, .long x, .long y1] I1 J1 R (fun x2 _ I2 J2 R2 => (x2 = 0 ∨ x2 = 1) → (((x2 : Int32) = 0 ∨ (x2 : Int32) = 1) ∧ FrX 1 1 2 (okB9_q10 (nI n) (nI k)) (buN9_q10 (I 102 1) (nI n) (nI k)) (buB9_q10 (nI n)) J J2 x2))) := fun x hx => by
      have h16 : pwV_q10 16 n 1 = Int64.ofInt ((16 : Int) ^ n) := by
        have h := pwV_o_q10 (a := 16) n 1
        rw [Int.one_mul, o64_1_q10, show (16 : Int32).toInt = 16 from rfl] at h
        exact h
      refine px_power_q10 hn ?_
      rw [h16]
      exact px_tellM (m16_q10 hn) (by rw [p1]; exact p2) (fun _ => ⟨Or.inr rfl, FrX.yc (by rw [hx]; exact hN.symm) (p1.trans hD.symm) hok⟩)
    have L : ∀ (g : Nat) (x : Int64) (a : Int), g ≤ 13 → x = Int64.ofInt a → a + csZ_q10 o q n g = csZ_q10 o q n (13 - k) → P 31 112 [(0, .ref 1), (1, .int (nI n)), (3, .long x), (5, .int (nI (13 - g)))] [] I J R := by
      intro g
      induction g with
      | zero =>
        intro x a _ hx ha
        have ha2 : a + 0 = csZ_q10 o q n (13 - k) := ha
        refine sg_X11_burnt_31 hc _ _ _ _ _ _ ⟨fun _ => fin x (by rw [hx, ← ha2, Int.add_zero]), fun c => absurd ((nlt_nI (b := 13 - 0) (by omega) (by omega)).mpr (by omega)) c⟩
      | succ g ih =>
        intro x a hg hx ha
        have ed : 13 - (g + 1) = 12 - g := by omega
        have ha2 : a + (tmZ_q10 o q n (12 - g) + csZ_q10 o q n g) = csZ_q10 o q n (13 - k) := ha
        rw [ed]
        refine sg_X11_burnt_31 hc _ _ _ _ _ _ ⟨fun c => fin x ?_, fun c => ?_⟩
        · have c' := (nlt_nI (by omega) (by omega)).mp c
          have z := csZ_0_q10 (o := o) (q := q) (n := n) (g + 1) hg (by omega)
          rw [z, Int.add_zero] at ha
          rw [hx, ha]
        · have c' : 12 - g ≤ n := Nat.le_of_not_lt (fun y => c ((nlt_nI (by omega) (by omega)).mpr y))
          have hch : chV_q10 (nI n) (nI (12 - g)) 13 1 1 = Int64.ofInt (cbn_q10 n (12 - g) : Int) := by
            rw [← (chV_c_q10 n (by omega) (12 - g) (by omega) c').1, Int64.ofInt_toInt]
          have pa : pwV_q10 (I 102 1) (12 - g) 1 = Int64.ofInt (o ^ (12 - g)) := by
            have h := pwV_o_q10 (a := I 102 1) (12 - g) 1
            rw [Int.one_mul, o64_1_q10, ho] at h
            exact h
          have pb : pwV_q10 (16 - I 102 1) (n - (12 - g)) 1 = Int64.ofInt (q ^ (n - (12 - g))) := by
            have h := pwV_o_q10 (a := 16 - I 102 1) (n - (12 - g)) 1
            rw [Int.one_mul, o64_1_q10, hq] at h
            exact h
          refine px_cchoose_q10 (by rw [nI_toInt (by omega)]; omega) ⟨hR.now.2, bif_t hO ?_⟩
          rw [eo]
          refine px_power_q10 (by omega) ⟨hR.now.2, bif_t hO ?_⟩
          rw [eo, nI_sub (by omega) c']
          refine px_power_q10 (by omega) ?_
          rw [nI_k1, show 12 - g + 1 = 13 - g by omega]
          refine ih _ (a + tmZ_q10 o q n (12 - g)) (by omega) ?_ (by omega)
          rw [hx, hch, pa, pb, ← Int64.ofInt_mul, ← Int64.ofInt_mul, ← Int64.ofInt_add]; rfl
    have := L (13 - k) 0 0 (by omega) o64_0_q10 (by omega)
    rw [show 13 - (13 - k) = k by omega] at this
    exact this
  · rw [le_i, z12]; exact z.2.2
theorem mf_burnt {d : Nat} {v1 v2 : Int32} (e102 : I1 102 = I 102) : AM (d + 4) 303 112 [.ref 97, .int v1, .int v2] I1 J1 R (fun x _ _ J2 _ => FrX 97 2 3 (okB9_q10 v1 v2) (buN9_q10 (I 102 1) v1 v2) (buB9_q10 v1) J1 J2 x) := by
  have z0 : (0 : Int32).toInt = 0 := rfl
  have z12 : (12 : Int32).toInt = 12 := rfl
  have e : uI (uI I1 97 1 0) 97 0 0 102 = I 102 := ((uI_ne (by decide)).trans (uI_ne (by decide))).trans e102
  have no : ∀ (z : Int32), ¬ okB9_q10 v1 v2 → AM (d + 3) 177 112 [.ref 97, .int z] (uI (uI I1 97 1 0) 97 0 0) J1 R (fun x1 _ _ J9 _ => (x1 = 0 ∨ x1 = 1) → (((x1 : Int32) = 0 ∨ (x1 : Int32) = 1) ∧ FrX 97 2 3 (okB9_q10 v1 v2) (buN9_q10 (I 102 1) v1 v2) (buB9_q10 v1) J1 J9 x1)) := fun z hz => w_X12_no ⟨Or.inl rfl, fun _ => ⟨Or.inl rfl, FrX.n hz⟩⟩
  refine am_X12_burnt (fun P hc => sg_X12_burnt_0 hc _ _ _ _ _ (px_isInI (lo := 0) (hi := 12) (fun l1 l2 _ => ⟨fun z => absurd z (by decide), fun _ => px_isInI (lo := 0) (hi := 12) (fun l3 l4 _ => ⟨fun _ => ?_, fun z => absurd z (by decide)⟩) (fun n1 _ => ⟨fun z => absurd rfl z, fun _ => no 5 (fun z => n1.elim (fun y => ?_) (fun y => y ?_))⟩)⟩) (fun n1 _ => ⟨fun _ => no 5 (fun z => n1.elim (fun y => ?_) (fun y => y ?_)), fun z => absurd rfl z⟩)))
  · have b1 := ci_le z0 rfl l1
    have b2 := ci_le rfl z12 l2
    have b3 := ci_le z0 rfl l3
    have b4 := ci_le rfl z12 l4
    have hok : okB9_q10 v1 v2 := ⟨⟨b1, b2⟩, b3, b4⟩
    obtain ⟨n, en, hn⟩ : ∃ n : Nat, v1 = nI n ∧ n ≤ 12 := ⟨v1.toInt.toNat, nI_ofN b1, by omega⟩
    obtain ⟨k, ek, hk⟩ : ∃ k : Nat, v2 = nI k ∧ k ≤ 12 := ⟨v2.toInt.toNat, nI_ofN b3, by omega⟩
    have tn' : v1.toInt.toNat = n := by rw [en, nI_toInt (by omega)]; omega
    have tk' : v2.toInt.toNat = k := by rw [ek, nI_toInt (by omega)]; omega
    have hN : buN9_q10 (I 102 1) v1 v2 = (Int64.ofInt (csZ_q10 (I 102 1).toInt (16 - I 102 1).toInt n (13 - k))).toInt := by unfold buN9_q10; rw [tn', tk']
    have hD : buB9_q10 v1 = (16 : Int) ^ n := by unfold buB9_q10; rw [tn']
    have t1 : Int32.toNatClampNeg 1 = 1 := rfl
    have hoI : Int32.toInt64 (I 102 1) = Int64.ofInt (I 102 1).toInt := i64_o_q10
    have hqI : Int32.toInt64 (16 - I 102 1) = Int64.ofInt (16 - I 102 1 : Int32).toInt := i64_o_q10
    generalize (I 102 1).toInt = o at hN hoI
    generalize (16 - I 102 1 : Int32).toInt = q at hN hqI
    subst en
    subst ek
    -- the sum
    have L3 : ∀ (JN : Jm) (v3 : Int64), v3 = Int64.ofInt ((16 : Int) ^ n) → (∀ i, i < 13 → JN 111 i = Int64.ofInt (tmZ_q10 o q n i)) → ∀ (g : Nat) (x : Int64) (a : Int), g ≤ 13 → x = Int64.ofInt a → a + csZ_q10 o q n g = csZ_q10 o q n (13 - k) → P 169 112 [(0, .ref 97), (3, .long v3), (5, .long x), (7, .int (nI (13 - g)))] [] (uI (uI I1 97 1 0) 97 0 0) JN R := by
      intro JN v3 h3 hJ g
      obtain ⟨p1, p2, -⟩ := p16_c_q10 n (by omega)
      induction g with
      | zero =>
        intro x a _ hx ha
        have ha2 : a + 0 = csZ_q10 o q n (13 - k) := ha
        refine sg_X12_burnt_169 hc _ _ _ _ _ _ ⟨fun _ => ?_, fun c => absurd ((nlt_nI (a := 12) (b := 13 - 0) (by omega) (by omega)).mpr (by omega)) c⟩
        rw [h3]
        exact px_fracM (m16_q10 hn) (by rw [p1]; exact p2) (fun _ => ⟨Or.inr rfl, FrX.ym (by rw [hx, hN, ← ha2, Int.add_zero]) (p1.trans hD.symm) hok⟩)
      | succ g ih =>
        intro x a hg hx ha
        have ed : 13 - (g + 1) = 12 - g := by omega
        have ha2 : a + (tmZ_q10 o q n (12 - g) + csZ_q10 o q n g) = csZ_q10 o q n (13 - k) := ha
        rw [ed]
        refine sg_X12_burnt_169 hc _ _ _ _ _ _ ⟨fun c => absurd ((nlt_nI (a := 12) (by omega) (by omega)).mp c) (by omega), fun _ => ⟨vp_nI (by omega) (by omega), ?_⟩⟩
        rw [tn_nI (by omega), nI_k1, show 12 - g + 1 = 13 - g by omega]
        refine ih _ (a + tmZ_q10 o q n (12 - g)) (by omega) ?_ (by omega)
        rw [hx, hJ _ (by omega), ← Int64.ofInt_add]
    -- one loaf more
    have L2 : ∀ (f j : Nat) (JN : Jm) (v3 : Int64), j + f = n → v3 = Int64.ofInt ((16 : Int) ^ j) → (∀ i, i < 13 → JN 111 i = Int64.ofInt (tmZ_q10 o q j i)) → P 78 112 [(0, .ref 97), (1, .int (nI n)), (2, .int (nI k)), (3, .long v3), (5, .int (nI j))] [] (uI (uI I1 97 1 0) 97 0 0) JN R := by
      intro f
      induction f with
      | zero =>
        intro j JN v3 hj h3 hJ
        have e : j = n := by omega
        subst e
        refine sg_X12_burnt_78 hc _ _ _ _ _ _ _ ⟨fun _ => ?_, fun c => absurd (Int32.le_refl _) c⟩
        have := L3 JN v3 h3 hJ (13 - k) 0 0 (by omega) o64_0_q10 (by omega)
        rw [show 13 - (13 - k) = k by omega] at this
        exact this
      | succ f ih =>
        intro j JN v3 hj h3 hJ
        refine sg_X12_burnt_78 hc _ _ _ _ _ _ _ ⟨fun c => absurd ((nle_nI (by omega) (by omega)).mp c) (by omega), fun _ => ?_⟩
        have nx : ∀ (JM : Jm), (∀ i, i < 13 → JM 111 i = Int64.ofInt (tmZ_q10 o q (j + 1) i)) → P 88 112 [(0, .ref 97), (1, .int (nI n)), (2, .int (nI k)), (3, .long v3), (5, .int (nI j)), (6, .int (-1))] [] (uI (uI I1 97 1 0) 97 0 0) JM R := fun JM hM => by
          refine sg_X12_burnt_88 hc _ _ _ _ _ _ _ _ ⟨fun _ => ?_, fun c => absurd (show (-1 : Int32) < 0 by decide) c⟩
          rw [nI_k1]
          refine ih (j + 1) JM _ (by omega) ?_ hM
          rw [h3, o64_16_q10, ← Int64.ofInt_mul, Int.pow_succ]
        have L88 : ∀ (i : Nat) (JM : Jm), i < 13 → (∀ t, t ≤ i → JM 111 t = Int64.ofInt (tmZ_q10 o q j t)) → (∀ t, i < t → t < 13 → JM 111 t = Int64.ofInt (tmZ_q10 o q (j + 1) t)) → P 88 112 [(0, .ref 97), (1, .int (nI n)), (2, .int (nI k)), (3, .long v3), (5, .int (nI j)), (6, .int (nI i))] [] (uI (uI I1 97 1 0) 97 0 0) JM R := by
          intro i
          induction i with
          | zero =>
            intro JM _ h1 h2
            refine sg_X12_burnt_88 hc _ _ _ _ _ _ _ _ ⟨fun c => absurd c (by decide), fun _ => ⟨vp_nI (by omega) (by omega), vp_of (a := 1) rfl (by decide) (by decide), fun _ => ⟨vp_nI (by omega) (by omega), ?_⟩, fun c => absurd (Int32.le_refl _) c⟩⟩
            rw [tn_nI (by omega), t1, e, nIdn0_q10]
            refine nx _ (fun t ht => ?_)
            by_cases w : t = 0
            · subst w
              rw [jd_eq, h1 0 (Nat.le_refl _), hqI, Int64.add_zero, ← Int64.ofInt_mul, tmZ_z_q10]
            · rw [jd_k w]; exact h2 t (by omega) ht
          | succ i ih2 =>
            intro JM hi h1 h2
            obtain ⟨d1, d2⟩ := nIdn_q10 i (by omega)
            refine sg_X12_burnt_88 hc _ _ _ _ _ _ _ _ ⟨fun c => absurd c ?_, fun _ => ⟨vp_nI (by omega) (by omega), vp_of (a := 1) rfl (by decide) (by decide), fun c => absurd c ?_, fun _ => ?_⟩⟩
            · rw [Int32.lt_iff_toInt_lt, nI_toInt (by omega)]; omega
            · rw [le_i, nI_toInt (by omega)]; omega
            rw [d2, d1, tn_nI (by omega), tn_nI (by omega), t1, e]
            refine ⟨vp_nI (by omega) (by omega), vp_of (a := 1) rfl (by decide) (by decide), vp_nI (by omega) (by omega), ih2 _ (by omega) (fun t ht => ?_) (fun t ht1 ht2 => ?_)⟩
            · rw [jd_k (by omega)]; exact h1 t (by omega)
            · by_cases w : t = i + 1
              · subst w
                rw [jd_eq, h1 (i + 1) (Nat.le_refl _), h1 i (by omega), hqI, hoI, ← Int64.ofInt_mul, ← Int64.ofInt_mul, ← Int64.ofInt_add, tmZ_s_q10]
              · rw [jd_k w]; exact h2 t (by omega) ht2
        exact L88 12 JN (by decide) (fun t ht => hJ t (by omega)) (fun t h1 h2 => by omega)
    -- none yet
    have L1 : ∀ (f i : Nat) (JN : Jm), i + f = 13 → (∀ t, t < i → JN 111 t = Int64.ofInt (tmZ_q10 o q 0 t)) → P 45 112 [(0, .ref 97), (1, .int (nI n)), (2, .int (nI k)), (3, .long 1), (5, .int (nI i))] [] (uI (uI I1 97 1 0) 97 0 0) JN R := by
      intro f
      induction f with
      | zero =>
        intro i JN hi hJ
        exact sg_X12_burnt_45 hc _ _ _ _ _ _ _ ⟨fun _ => L2 n 0 JN 1 (by omega) o64_p_q10 (fun t ht => hJ t (by omega)), fun c => absurd ((nlt_nI (a := 12) (by omega) (by omega)).mpr (by omega)) c⟩
      | succ f ih =>
        intro i JN hi hJ
        refine sg_X12_burnt_45 hc _ _ _ _ _ _ _ ⟨fun c => absurd ((nlt_nI (a := 12) (by omega) (by omega)).mp c) (by omega), fun _ => ⟨fun c => ⟨vp_nI (by omega) (by omega), ?_⟩, fun c => ⟨vp_nI (by omega) (by omega), ?_⟩⟩⟩
        · rw [tn_nI (by omega), nI_k1]
          refine ih (i + 1) _ (by omega) (fun t ht => ?_)
          have hi0 : ¬ i = 0 := fun z => c (by rw [z]; rfl)
          by_cases w : t = i
          · subst w
            rw [jd_eq, tmZ_0_q10 (by omega)]
            all_goals exact o64_0_q10
          · rw [jd_k w]; exact hJ t (by omega)
        · rw [tn_nI (by omega), nI_k1]
          have hi0 : i = 0 := (nI_z9 (by omega)).mp c
          refine ih (i + 1) _ (by omega) (fun t ht => ?_)
          have ht0 : t = 0 := by omega
          subst ht0
          subst hi0
          have e0 : tmZ_q10 o q 0 0 = 1 := by unfold tmZ_q10; simp [cbn_q10]
          rw [jd_eq, e0]
          all_goals exact o64_1_q10.symm
    exact L1 13 0 J1 (by decide) (fun t ht => by omega)
  · have := ci_lt rfl z0 y
    have := z.2.1
    omega
  · rw [le_i, z12]; exact z.2.2
  · have := ci_lt rfl z0 y
    have := z.1.1
    omega
  · rw [le_i, z12]; exact z.1.2
end FRU
