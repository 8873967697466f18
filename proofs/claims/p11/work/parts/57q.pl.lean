/-! ===== the reference's table ===== -/
set_option maxHeartbeats 400000 in
/-- from the last member to the first -/
theorem pl_D {d : Nat} {Q : Nat → Qt} {P : Kt} (hc : Cl (AM (d + 1)) true false 0 (fun _ => 0) 1 112 kX12_plates Q P) {J : Jm} {R : Rm} {f : Nat → Int32} {n m : Nat} {v4 : Int64} {N : Im} (hn12 : n ≤ 12) (hm : m < 2 ^ n) (h4096 : 2 ^ n ≤ 4096) (hmb : ∀ k, k < n → N 109 k = f k) (hf : ∀ k, k < n → 1 ≤ (f k).toInt) (hv4 : v4.toInt = 2329089562800 - smN f n m) (fin : ∀ (N2 : Im), Bd N2 → (∀ o j, ¬ (o = 110 ∧ j = m) → N2 o j = N o j) → (∃ y, LWk 0 n (rc f n N m) y ∧ stY f (N2 110 m) y) → P 45 112 [(0, .ref 97), (2, .int (nI n)), (3, .int (nI m + (-1)))] [] N2 J R) : ∀ (kk : Nat) (v6 : Int32) (N2 : Im), Bd N2 → kk ≤ n → v6.toInt = (kk : Int) - 1 → (∀ o j, ¬ (o = 110 ∧ j = m) → N2 o j = N o j) → (∃ y, LWk kk n (rc f n N m) y ∧ stY f (N2 110 m) y) → P 109 112 [(0, .ref 97), (2, .int (nI n)), (3, .int (nI m)), (4, .long v4), (6, .int v6)] [] N2 J R := by
  intro kk
  induction kk with
  | zero =>
    intro v6 N2 hB2 _ h6 hN2 hy
    exact sg_X12_plates_109 hc _ _ _ _ _ _ _ ⟨fun c3 => fin N2 hB2 hN2 hy, fun c3 => absurd (ci_nlt h6 (show (0 : Int32).toInt = 0 from rfl) c3) (by omega)⟩
  | succ kk ihk =>
    intro v6 N2 hB2 hkk h6 hN2 hy
    have e6 : v6 = nI kk := Int32.toInt_inj.mp (by rw [h6, nI_toInt (by omega)]; omega)
    subst e6
    obtain ⟨y, y1, y2⟩ := hy
    have hmI : (nI m).toInt = (m : Int) := nI_toInt (by omega)
    have hkkI : (nI kk).toInt = (kk : Int) := nI_toInt (by omega)
    have hdec : (nI kk + (-1)).toInt = (kk : Int) - 1 := by rw [ti_add hkkI (show (-1 : Int32).toInt = -1 from rfl) (by omega)]; omega
    have hkn : kk ≤ n := by omega
    have no : ¬ rc f n N m kk → P 109 112 [(0, .ref 97), (2, .int (nI n)), (3, .int (nI m)), (4, .long v4), (6, .int (nI kk + (-1)))] [] N2 J R := fun q => ihk _ N2 hB2 hkn hdec hN2 ⟨y, y1.no q, y2⟩
    have hif := isOf_iff (v1 := nI m) (v2 := nI kk) (by omega) (by omega)
    have hor := orI (v1 := nI m) (v2 := nI kk) (by omega) (by omega)
    rw [hmI, hkkI, Int.toNat_natCast, Int.toNat_natCast] at hif hor
    have hX := or_lt (M := m) (k := kk) (n := n) (by omega) (by omega)
    have hXI : (nI (m ||| 2 ^ kk)).toInt = ((m ||| 2 ^ kk : Nat) : Int) := nI_toInt (by omega)
    have hX1 : vp_in (nI (m ||| 2 ^ kk)) 4096 := vp_of hXI (by omega) (by omega)
    have hk1 : vp_in (nI kk) 12 := vp_of hkkI (by omega) (by omega)
    have hm1 : vp_in (nI m) 4096 := vp_of hmI (by omega) (by omega)
    have t1 : Int32.toNatClampNeg (nI kk) = kk := tn_nI (by omega)
    have t2 : Int32.toNatClampNeg (nI m) = m := tn_nI (by omega)
    have t3 : Int32.toNatClampNeg (nI (m ||| 2 ^ kk)) = m ||| 2 ^ kk := tn_nI (by omega)
    have h109 : N2 109 kk = f kk := by rw [hN2 109 kk (by omega)]; exact hmb kk (by omega)
    have hs := hf kk (by omega)
    have hne : ¬ Int32.toInt64 (f kk) = 0 := fun z => by
      have z2 : ((f kk).toInt : Int) = 0 := cl_eq (tl_i2l rfl) rfl z
      omega
    refine sg_X12_plates_109 hc _ _ _ _ _ _ _ ⟨fun c3 => absurd (ci_lt hkkI (show (0 : Int32).toInt = 0 from rfl) c3) (by omega), fun c3 => ?_⟩
    refine w_X12_isOf ⟨fun c4 => ⟨Or.inl rfl, fun _ => ⟨fun q => absurd rfl q, fun _ => ?_⟩⟩, fun c4 => ⟨Or.inr rfl, fun _ => ⟨fun _ => ?_, fun q => absurd q (by decide)⟩⟩⟩
    · have hb : m.testBit kk = false := by
        cases e : m.testBit kk with
        | false => rfl
        | true => exact absurd (hif.mpr e) c4
      have hsm := smN_or (f := f) hb n
      rw [if_pos (show kk < n by omega)] at hsm
      have hgt := or_gt hb
      refine ⟨hk1, ?_⟩
      rw [t1, h109]
      refine w_X12_partsOf ⟨hne, ?_⟩
      refine ⟨fun c5 => ?_, fun c5 => ?_⟩
      · rw [lg_cmp_gt] at c5
        have d5 := cl_lt hv4 (prt_l hs) c5
        exact no (fun q => by have := q.2.1; omega)
      · rw [lg_cmp_gt] at c5
        have d5 := cl_nlt hv4 (prt_l hs) c5
        rw [hor, t3, hN2 110 (m ||| 2 ^ kk) (by omega)]
        refine ⟨hX1, fun c6 => ?_, fun c6 => ⟨hk1, hm1, ?_⟩⟩
        · have d6 := ci_le (show (0 : Int32).toInt = 0 from rfl) rfl c6
          exact no (fun q => by have := q.2.2; omega)
        · have d6 := ci_nle (show (0 : Int32).toInt = 0 from rfl) rfl c6
          rw [h109, t2]
          refine ihk _ _ (Bd.a0 hB2 (show isA 112 110 0 = true from rfl) (show bna 110 = none from rfl)) hkn hdec (fun o j hoj => ?_) ⟨(kk : Int), LWk.yes (by omega) ⟨hb, by omega, d6⟩, Or.inr ⟨by omega, ?_⟩⟩
          · rw [← hN2 o j hoj]
            by_cases e : o = 110
            · subst e
              have : ¬ j = m := fun z => hoj ⟨rfl, z⟩
              simp [uI, upd, this]
            · rw [uI_ne e]
          · rw [rd_eq, Int.toNat_natCast]
    · exact no (fun q => by have z := q.1; rw [hif.mp c4] at z; cases z)
set_option maxHeartbeats 400000 in
/-- the room that is left -/
theorem pl_C {d : Nat} {Q : Nat → Qt} {P : Kt} (hc : Cl (AM (d + 1)) true false 0 (fun _ => 0) 1 112 kX12_plates Q P) {J : Jm} {R : Rm} {f : Nat → Int32} {n m : Nat} {N : Im} (hn12 : n ≤ 12) (hm : m < 2 ^ n) (h4096 : 2 ^ n ≤ 4096) (hmb : ∀ k, k < n → N 109 k = f k) (hf : ∀ k, k < n → 1 ≤ (f k).toInt) (fin : ∀ v4 : Int64, v4.toInt = 2329089562800 - smN f n m → P 109 112 [(0, .ref 97), (2, .int (nI n)), (3, .int (nI m)), (4, .long v4), (6, .int (nI n - 1))] [] (uI N 110 m (-1)) J R) : ∀ (g k : Nat) (v4 : Int64), n - k < g → k ≤ n → v4.toInt = 2329089562800 - smN f k m → P 57 112 [(0, .ref 97), (2, .int (nI n)), (3, .int (nI m)), (4, .long v4), (6, .int (nI k))] [] N J R := by
  intro g
  induction g with
  | zero => intro k v4 q1 q2; omega
  | succ g ihg =>
    intro k v4 hg hk hv4
    have hnI : (nI n).toInt = (n : Int) := nI_toInt (by omega)
    have hmI : (nI m).toInt = (m : Int) := nI_toInt (by omega)
    have hkI : (nI k).toInt = (k : Int) := nI_toInt (by omega)
    have hm1 : vp_in (nI m) 4096 := vp_of hmI (by omega) (by omega)
    have t2 : Int32.toNatClampNeg (nI m) = m := tn_nI (by omega)
    refine sg_X12_plates_57 hc _ _ _ _ _ _ _ ⟨fun c2 => ⟨hm1, ?_⟩, fun c2 => ?_⟩
    · have d2 := ci_le hnI hkI c2
      have hkn : k = n := by omega
      rw [t2]
      rw [hkn] at hv4
      exact fin v4 hv4
    · have d2 := ci_nle hnI hkI c2
      have hkn : k < n := by omega
      have hif := isOf_iff (v1 := nI m) (v2 := nI k) (by omega) (by omega)
      rw [hmI, hkI, Int.toNat_natCast, Int.toNat_natCast] at hif
      have hs := hf k hkn
      have hb1 := smN_in f k m
      have hb2 := prt_in (f k)
      have hk1 : vp_in (nI k) 12 := vp_of hkI (by omega) (by omega)
      have t1 : Int32.toNatClampNeg (nI k) = k := tn_nI (by omega)
      have hne : ¬ Int32.toInt64 (f k) = 0 := fun z => by
        have z2 : ((f k).toInt : Int) = 0 := cl_eq (tl_i2l rfl) rfl z
        omega
      have hst : smN f (k + 1) m = smN f k m + (if m.testBit k then prt (f k) else 0) := rfl
      refine w_X12_isOf ⟨fun c4 => ⟨Or.inl rfl, fun _ => ⟨fun _ => ?_, fun q => absurd rfl q⟩⟩, fun c4 => ⟨Or.inr rfl, fun _ => ⟨fun q => absurd q (by decide), fun _ => ⟨hk1, ?_⟩⟩⟩⟩
      · rw [nI_k1]
        refine ihg (k + 1) _ (by omega) (by omega) ?_
        rw [if_neg (fun q => c4 (hif.mpr q))] at hst
        rw [tl_sub hv4 (show (0 : Int64).toInt = 0 from rfl) (by omega)]
        omega
      · rw [t1, hmb k hkn, nI_k1]
        refine w_X12_partsOf ⟨hne, ?_⟩
        refine ihg (k + 1) _ (by omega) (by omega) ?_
        rw [if_pos (hif.mp c4)] at hst
        rw [tl_sub hv4 (prt_l hs) (by omega)]
        omega
theorem EM_at {f : Nat → Int32} {n m : Nat} {N N2 : Im} (hN2 : ∀ o j, ¬ (o = 110 ∧ j = m) → N2 o j = N o j) (h : ∃ y, LWk 0 n (rc f n N m) y ∧ stY f (N2 110 m) y) : EM f n N2 m := by
  obtain ⟨y, y1, y2⟩ := h
  refine ⟨y, y1.z.mono (fun j hj => ?_), y2⟩
  unfold rc
  constructor
  · rintro ⟨a, b, c⟩
    have := or_gt a
    exact ⟨a, b, by rw [hN2 110 (m ||| 2 ^ j) (by omega)]; exact c⟩
  · rintro ⟨a, b, c⟩
    have := or_gt a
    rw [hN2 110 (m ||| 2 ^ j) (by omega)] at c
    exact ⟨a, b, c⟩
set_option maxHeartbeats 400000 in
/-- from the fullest plate down -/
theorem pl_B {d : Nat} {Q : Nat → Qt} {P : Kt} (hc : Cl (AM (d + 1)) true false 0 (fun _ => 0) 1 112 kX12_plates Q P) {J : Jm} {R : Rm} {f : Nat → Int32} {n : Nat} (hn12 : n ≤ 12) (h4096 : 2 ^ n ≤ 4096) (hf : ∀ k, k < n → 1 ≤ (f k).toInt) (fin : ∀ N : Im, Bd N → (∀ M, M < 2 ^ n → EM f n N M) → Q 112 (N 110 0) 0 N J R) : ∀ (m : Nat) (v3 : Int32) (N : Im), Bd N → v3.toInt = (m : Int) - 1 → m ≤ 2 ^ n → (∀ k, k < n → N 109 k = f k) → (∀ M, m ≤ M → M < 2 ^ n → EM f n N M) → P 45 112 [(0, .ref 97), (2, .int (nI n)), (3, .int v3)] [] N J R := by
  have hnI : (nI n).toInt = (n : Int) := nI_toInt (by omega)
  intro m
  induction m with
  | zero =>
    intro v3 N hB h3 hm hmb hT
    exact sg_X12_plates_45 hc _ _ _ _ _ ⟨fun c1 => ⟨vp_of (show (0 : Int32).toInt = 0 from rfl) (by omega) (by omega), fin N hB (fun M q => hT M (Nat.zero_le _) q)⟩, fun c1 => absurd (ci_nlt h3 (show (0 : Int32).toInt = 0 from rfl) c1) (by omega)⟩
  | succ m ih =>
    intro v3 N hB h3 hm hmb hT
    have e3 : v3 = nI m := Int32.toInt_inj.mp (by rw [h3, nI_toInt (by omega)]; omega)
    subst e3
    have hmI : (nI m).toInt = (m : Int) := nI_toInt (by omega)
    have hdec : (nI m + (-1)).toInt = (m : Int) - 1 := by rw [ti_add hmI (show (-1 : Int32).toInt = -1 from rfl) (by omega)]; omega
    have hm2 : m < 2 ^ n := by omega
    have hm3 : m ≤ 2 ^ n := by omega
    refine sg_X12_plates_45 hc _ _ _ _ _ ⟨fun c1 => absurd (ci_lt hmI (show (0 : Int32).toInt = 0 from rfl) c1) (by omega), fun c1 => ?_⟩
    have step : ∀ (N2 : Im), Bd N2 → (∀ o j, ¬ (o = 110 ∧ j = m) → N2 o j = N o j) → (∃ y, LWk 0 n (rc f n N m) y ∧ stY f (N2 110 m) y) → P 45 112 [(0, .ref 97), (2, .int (nI n)), (3, .int (nI m + (-1)))] [] N2 J R := fun N2 hB2 hN2 hy => by
      refine ih _ N2 hB2 hdec hm3 (fun j hj => by rw [hN2 109 j (by omega)]; exact hmb j hj) (fun M q1 q2 => ?_)
      by_cases e : M = m
      · rw [e]; exact EM_at hN2 hy
      · exact EM_up (fun M' q => hN2 110 M' (by omega)) (hT M (by omega) q2)
    have frame : ∀ o j, ¬ (o = 110 ∧ j = m) → uI N 110 m (-1) o j = N o j := fun o j hoj => by
      by_cases e : o = 110
      · subst e
        have : ¬ j = m := fun z => hoj ⟨rfl, z⟩
        simp [uI, upd, this]
      · rw [uI_ne e]
    refine pl_C hc hn12 hm2 h4096 hmb hf (fun v4 hv4 => ?_) (n + 1) 0 _ (by omega) (Nat.zero_le _) (by
      show (2329089562800 : Int64).toInt = 2329089562800 - 0
      decide)
    exact pl_D hc hn12 hm2 h4096 hmb hf hv4 step n _ _ (Bd.a0 hB (show isA 112 110 0 = true from rfl) (show bna 110 = none from rfl)) (Nat.le_refl _) (by rw [ti_sub hnI (show (1 : Int32).toInt = 1 from rfl) (by omega)]) frame ⟨-1, Or.inl ⟨rfl, fun j q1 q2 => by omega⟩, Or.inl ⟨rfl, rd_eq⟩⟩
set_option maxHeartbeats 400000 in
theorem px_plates {d : Nat} {Q : Qt} {v1 : Int32} {I : Im} {J : Jm} {R : Rm} (hB0 : Bd I) (h0 : 0 ≤ v1.toInt) (h12 : pcn v1 30 ≤ 12) (hQ : ∀ (x : Int32) (I2 : Im), Bd I2 → (∃ (n : Nat) (W : Nat → Prop) (y : Int), (n : Int) = pcn v1 30 ∧ WinR (msF v1 30) n W ∧ LW n (fun k => smN (msF v1 30) n (2 ^ k) ≤ 2329089562800 ∧ ¬ W (2 ^ k)) y ∧ stY (msF v1 30) x y) → Q x 0 I2 J R) : AM (d + 2) 299 112 [.ref 97, .int v1] I J R Q := by
  refine am_X12_plates (fun P hc => ?_)
  have B : ∀ n : Nat, (n : Int) = pcn v1 30 → ∀ N : Im, Bd N → (∀ k, k < n → N 109 k = msF v1 30 k) → P 45 112 [(0, .ref 97), (2, .int (nI n)), (3, .int (nI (2 ^ n) - 1))] [] N J R := by
    intro n hn N hBN hmN
    have hn12 : n ≤ 12 := by omega
    have h4096 := p2_12 hn12
    have hp : 0 < 2 ^ n := Nat.pow_pos (by decide)
    have hf : ∀ k, k < n → 1 ≤ (msF v1 30 k).toInt := fun k hk => (msF_in v1 30 k (by omega) (by omega)).1
    refine pl_B hc hn12 h4096 hf (fun N2 hB2 hE => ?_) (2 ^ n) _ N hBN (by
      rw [ti_sub (nI_toInt (by omega)) (show (1 : Int32).toInt = 1 from rfl) (by omega)]) (Nat.le_refl _) hmN (fun M q1 q2 => by omega)
    obtain ⟨y, h1, h2⟩ := hE 0 hp
    refine hQ _ N2 hB2 ⟨n, fun M => ¬ (N2 110 M).toInt < 0, y, hn, fun M q1 q2 q3 => EM_win hf (hE M q2), h1.mono (fun k hk => ?_), h2⟩
    unfold rc
    rw [Nat.zero_or, Nat.zero_testBit]
    exact ⟨fun q => ⟨q.2.1, fun z => z q.2.2⟩, fun q => ⟨rfl, q.1, Classical.byContradiction q.2⟩⟩
  have A : ∀ (m dd c : Nat) (N : Im), dd ≤ 30 → 30 - dd < m → Bd N → (c : Int) = pcn v1 dd → (∀ k, k < c → N 109 k = msF v1 dd k) → P 4 112 [(0, .ref 97), (1, .int v1), (2, .int (nI c)), (3, .int (nI (dd + 1)))] [] N J R := by
    intro m
    induction m with
    | zero => intro dd c N h1 h2; omega
    | succ m ih =>
      intro dd c N hdd hm hB hcn hmb
      have h2I : (nI (dd + 1)).toInt = ((dd + 1 : Nat) : Int) := nI_toInt (by omega)
      have hle := pcn_le (s := v1) hdd
      have hcI : (nI c).toInt = (c : Int) := nI_toInt (by omega)
      refine sg_X12_plates_4 hc _ _ _ _ _ _ ⟨fun c1 => ?_, fun c1 => ?_⟩
      · have d1 := ci_lt (show (30 : Int32).toInt = 30 from rfl) h2I c1
        have e : dd = 30 := by omega
        subst e
        rw [sh1_N c (by omega)]
        exact B c hcn N hB hmb
      · have d1 := ci_nlt (show (30 : Int32).toInt = 30 from rfl) h2I c1
        have hb := pcb_tb (v := v1) (i := dd) h0 (by omega)
        have hst : pcn v1 (dd + 1) = pcn v1 dd + pcb v1 (Int32.ofNat dd) := rfl
        have hle2 := pcn_le (s := v1) (a := dd + 1) (b := 30) (by omega)
        have hsub : nI (dd + 1) - 1 = nI dd := Int32.toInt_inj.mp (by
          rw [ti_sub h2I (show (1 : Int32).toInt = 1 from rfl) (by omega), nI_toInt (by omega)]; omega)
        have hif := isOf_iff (v1 := v1) (v2 := nI dd) h0 (by rw [nI_toInt (by omega)]; omega)
        rw [nI_toInt (by omega), Int.toNat_natCast] at hif
        rw [hsub]
        refine w_X12_isOf ⟨fun c4 => ⟨Or.inl rfl, fun _ => ⟨fun q => absurd rfl q, fun _ => ?_⟩⟩, fun c4 => ⟨Or.inr rfl, fun _ => ⟨fun _ => ?_, fun q => absurd q (by decide)⟩⟩⟩
        · rw [if_neg (fun q => c4 (hif.mpr q))] at hb
          rw [nI_k1]
          exact ih (dd + 1) c N (by omega) (by omega) hB (by omega) (fun k hk => by rw [hmb k hk, msF_old (by omega)])
        · rw [if_pos (hif.mp c4)] at hb
          have hf : msF v1 (dd + 1) c = nI (dd + 1) := by
            have := msF_new (v := v1) (d := dd) hb
            rwa [show (pcn v1 dd).toNat = c by omega] at this
          refine ⟨vp_of hcI (by omega) (by omega), ?_⟩
          rw [tn_nI (by omega), nI_k1, nI_k1]
          refine ih (dd + 1) (c + 1) _ (by omega) (by omega) (Bd.a0 hB (show isA 112 109 0 = true from rfl) (show bna 109 = none from rfl)) (by omega) (fun k hk => ?_)
          by_cases e : k = c
          · subst e; rw [rd_eq]; exact hf.symm
          · rw [msF_old (by omega), ← hmb k (by omega)]
            simp [uI, upd, e]
  refine sg_X12_plates_0 hc _ _ _ _ ?_
  exact A 31 0 0 I (by omega) (by omega) hB0 rfl (fun k hk => by omega)
