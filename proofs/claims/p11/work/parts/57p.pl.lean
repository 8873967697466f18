/-! ===== the plate: the scribe's table ===== -/
def wc (f : Nat → Int32) (n : Nat) (I : Im) (M k : Nat) : Prop := M.testBit k = false ∧ smN f n (M ||| 2 ^ k) ≤ 2329089562800 ∧ I 48 (M ||| 2 ^ k) = 0
theorem p2_12 {n : Nat} (h : n ≤ 12) : 2 ^ n ≤ 4096 := Nat.pow_le_pow_right (by decide) h
theorem px_winningPlace {d n M : Nat} {f : Nat → Int32} {Q : Qt} {v1 : Int32} {I : Im} {J : Jm} {R : Rm} (hn : (I 45 1).toInt = n) (hn12 : n ≤ 12) (hJ : ∀ m, m < 2 ^ n → (J 47 m).toInt = smN f n m) (hv : v1.toInt = M) (hM : M < 2 ^ n) (hQ : ∀ x : Int32, LW n (wc f n I M) x.toInt → Q x 0 I J R) : AM (d + 1) 92 112 [.ref 45, .int v1] I J R Q := by
  have h4096 := p2_12 hn12
  refine am_X9_winningPlace (fun P hc => ?_)
  have L : ∀ m k : Nat, k ≤ n → n - k < m → (∀ j, j < k → ¬ wc f n I M j) → P 2 112 [(0, .ref 45), (1, .int v1), (2, .int (nI k))] [] I J R := by
    intro m
    induction m with
    | zero => intro k h1 h2; omega
    | succ m ih =>
      intro k hk hm hc0
      have hkI : (nI k).toInt = k := nI_toInt (by omega)
      have next : k < n → ¬ wc f n I M k → P 2 112 [(0, .ref 45), (1, .int v1), (2, .int (nI k + 1))] [] I J R := fun hlt q => by
        rw [nI_k1]
        exact ih (k + 1) (by omega) (by omega) (fun j hj => by
          by_cases e : j = k
          · rw [e]; exact q
          · exact hc0 j (by omega))
      refine sg_X9_winningPlace_2 hc _ _ _ _ _ ⟨fun c1 => ?_, fun c1 => ?_⟩
      · have d1 := ci_le hn hkI c1
        exact hQ _ (Or.inl ⟨rfl, fun j hj => hc0 j (by omega)⟩)
      · have d1 := ci_nle hn hkI c1
        have hkn : k < n := by omega
        have hor := orI (v1 := v1) (v2 := nI k) (by omega) (by omega)
        have hif := orI_iff (v1 := v1) (v2 := nI k) (by omega) (by omega)
        rw [hv, hkI, Int.toNat_natCast, Int.toNat_natCast] at hor hif
        have hX := or_lt hM hkn
        refine ⟨fun c2 => next hkn (fun q => ?_), fun c2 => ?_⟩
        · have := hif.mp c2
          rw [q.1] at this; cases this
        · have hb : M.testBit k = false := by
            cases e : M.testBit k with
            | false => rfl
            | true => exact absurd (hif.mpr e) c2
          rw [hor, tn_nI (by omega)]
          have hXi : (nI (M ||| 2 ^ k)).toInt = ((M ||| 2 ^ k : Nat) : Int) := nI_toInt (by omega)
          refine ⟨vp_of hXi (by omega) (by omega), fun c3 => next hkn (fun q => ?_), fun c3 => ⟨vp_of hXi (by omega) (by omega), fun c4 => next hkn (fun q => c4 q.2.2), fun c4 => ?_⟩⟩
          · rw [lg_cmp_gt] at c3
            have d2 := cl_lt (show (2329089562800 : Int64).toInt = 2329089562800 from rfl) (hJ _ hX) c3
            have := q.2.1
            omega
          · rw [lg_cmp_gt] at c3
            have d2 := cl_nlt (show (2329089562800 : Int64).toInt = 2329089562800 from rfl) (hJ _ hX) c3
            refine hQ _ (Or.inr ⟨by omega, by omega, ?_, ?_⟩)
            · rw [hkI, Int.toNat_natCast]; exact ⟨hb, d2, c4⟩
            · rw [hkI, Int.toNat_natCast]; exact hc0
  refine sg_X9_winningPlace_0 hc _ _ _ _ ?_
  exact L (n + 1) 0 (by omega) (by omega) (fun j hj => by omega)
theorem LW.none {n : Nat} {c : Nat → Prop} {x : Int} (h : LW n c x) : x = -1 ↔ ∀ k, k < n → ¬ c k := by
  rcases h with ⟨h1, h2⟩ | ⟨h1, h2, h3, h4⟩
  · exact ⟨fun _ => h2, fun _ => h1⟩
  · exact ⟨fun q => by omega, fun q => absurd h3 (q _ (by omega))⟩
theorem LW.mono {n : Nat} {c e : Nat → Prop} {x : Int} (h : LW n c x) (q : ∀ k, k < n → (c k ↔ e k)) : LW n e x := by
  rcases h with ⟨h1, h2⟩ | ⟨h1, h2, h3, h4⟩
  · exact Or.inl ⟨h1, fun k hk => fun z => h2 k hk ((q k hk).mpr z)⟩
  · exact Or.inr ⟨h1, h2, (q _ (by omega)).mp h3, fun k hk => fun z => h4 k hk ((q k (by omega)).mpr z)⟩
theorem px_firstWinning {d n : Nat} {f : Nat → Int32} {Q : Qt} {I : Im} {J : Jm} {R : Rm} (hB0 : Bd I) (hn : (I 45 1).toInt = n) (hn12 : n ≤ 12) (hJ : ∀ m, m < 2 ^ n → (J 47 m).toInt = smN f n m) (hQ : ∀ (x : Int32) (I2 : Im), Bd I2 → (∀ o, ¬ o = 48 → I2 o = I o) → (∃ W, WinR f n W ∧ LW n (fun k => smN f n (2 ^ k) ≤ 2329089562800 ∧ ¬ W (2 ^ k)) x.toInt) → Q x 0 I2 J R) : AM (d + 2) 91 112 [.ref 45] I J R Q := by
  have h4096 := p2_12 hn12
  refine am_X9_firstWinning (fun P hc => ?_)
  have L : ∀ (m : Nat) (N : Im), Bd N → m < 2 ^ n → (∀ o, ¬ o = 48 → N o = I o) → (∀ M, m < M → M < 2 ^ n → smN f n M ≤ 2329089562800 → (N 48 M = 0 ↔ ∀ k, k < n → ¬ wc f n N M k)) → P 9 112 [(0, .ref 45), (1, .int (nI m))] [] N J R := by
    intro m
    induction m with
    | zero =>
      intro N hB hm hN hT
      have hnN : (N 45 1).toInt = n := by rw [hN 45 (by decide)]; exact hn
      refine sg_X9_firstWinning_9 hc _ _ _ _ ⟨fun c1 => ?_, fun c1 => absurd (show nI 0 ≤ 0 by decide) c1⟩
      refine px_winningPlace (M := 0) hnN hn12 hJ rfl (by omega) (fun x hx => ?_)
      refine hQ x N hB hN ⟨fun M => ¬ N 48 M = 0, fun M h1 h2 h3 => ?_, hx.mono (fun k hk => ?_)⟩
      · show ¬ N 48 M = 0 ↔ ∃ k, k < n ∧ M.testBit k = false ∧ smN f n (M ||| 2 ^ k) ≤ 2329089562800 ∧ ¬ ¬ N 48 (M ||| 2 ^ k) = 0
        rw [hT M h1 h2 h3]
        constructor
        · intro q
          refine Classical.byContradiction (fun z => q (fun k hk w => z ⟨k, hk, w.1, w.2.1, fun y => y w.2.2⟩))
        · rintro ⟨k, hk, a, b, c⟩ q
          exact q k hk ⟨a, b, Classical.byContradiction c⟩
      · unfold wc
        rw [Nat.zero_or, Nat.zero_testBit]
        exact ⟨fun q => ⟨q.2.1, fun z => z q.2.2⟩, fun q => ⟨rfl, q.1, Classical.byContradiction q.2⟩⟩
    | succ m ih =>
      intro N hB hm hN hT
      have hnN : (N 45 1).toInt = n := by rw [hN 45 (by decide)]; exact hn
      have hmI : (nI (m + 1)).toInt = ((m + 1 : Nat) : Int) := nI_toInt (by omega)
      have hdec : nI (m + 1) + (-1) = nI m := Int32.toInt_inj.mp (by
        rw [ti_add hmI (show (-1 : Int32).toInt = -1 from rfl) (by omega), nI_toInt (by omega)]; omega)
      refine sg_X9_firstWinning_9 hc _ _ _ _ ⟨fun c1 => ?_, fun c1 => ?_⟩
      · have := ci_le hmI (show (0 : Int32).toInt = 0 from rfl) c1
        omega
      · rw [tn_nI (by omega), hdec]
        refine ⟨vp_of hmI (by omega) (by omega), fun c2 => ?_, fun c2 => ?_⟩
        · rw [lg_cmp_gt] at c2
          have d2 := cl_lt (show (2329089562800 : Int64).toInt = 2329089562800 from rfl) (hJ _ hm) c2
          refine ih N hB (by omega) hN (fun M h1 h2 h3 => ?_)
          by_cases e : M = m + 1
          · subst e; omega
          · exact hT M (by omega) h2 h3
        · have wr : ∀ v : Int32, (v = 0 ↔ ∀ k, k < n → ¬ wc f n N (m + 1) k) → P 9 112 [(0, .ref 45), (1, .int (nI m))] [] (uI N 48 (m + 1) v) J R := fun v hv => by
            refine ih _ (Bd.a0 hB (show isA 112 48 2 = true from rfl) (show bna 48 = none from rfl)) (by omega) (fun o ho => ?_) (fun M h1 h2 h3 => ?_)
            · rw [uI_ne ho]; exact hN o ho
            · have e1 : ∀ M', ¬ M' = m + 1 → uI N 48 (m + 1) v 48 M' = N 48 M' := fun M' q => by simp [uI, upd, q]
              have e2 : ∀ k, k < n → (wc f n (uI N 48 (m + 1) v) M k ↔ wc f n N M k) := fun k hk => by
                unfold wc
                constructor
                · rintro ⟨a, b, c⟩
                  have := or_gt a
                  rw [e1 _ (by omega)] at c
                  exact ⟨a, b, c⟩
                · rintro ⟨a, b, c⟩
                  have := or_gt a
                  refine ⟨a, b, ?_⟩
                  rw [e1 _ (by omega)]; exact c
              by_cases e : M = m + 1
              · subst e
                rw [rd_eq, hv]
                exact ⟨fun q k hk z => q k hk ((e2 k hk).mp z), fun q k hk z => q k hk ((e2 k hk).mpr z)⟩
              · rw [e1 M e, hT M (by omega) h2 h3]
                exact ⟨fun q k hk z => q k hk ((e2 k hk).mp z), fun q k hk z => q k hk ((e2 k hk).mpr z)⟩
          refine px_winningPlace (M := m + 1) hnN hn12 hJ hmI hm (fun x hx => ⟨fun c3 => ⟨vp_of hmI (by omega) (by omega), wr _ ?_⟩, fun c3 => ⟨vp_of hmI (by omega) (by omega), wr _ ?_⟩⟩)
          · refine ⟨fun q => absurd q (by decide), fun q => absurd (Int32.toInt_inj.mp (hx.none.mpr q)) c3⟩
          · refine ⟨fun _ => hx.none.mp (congrArg Int32.toInt c3), fun _ => by decide⟩
  refine sg_X9_firstWinning_0 hc _ _ _ ?_
  have hp : 0 < 2 ^ n := Nat.pow_pos (by decide)
  have e : (1 <<< ((I 45 1) &&& 31)) - 1 = nI (2 ^ n - 1) := by
    have e1 : I 45 1 = nI n := Int32.toInt_inj.mp (by rw [hn, nI_toInt (by omega)])
    rw [e1, sh1_N n (by omega)]
    refine Int32.toInt_inj.mp ?_
    rw [ti_sub (nI_toInt (by omega)) (show (1 : Int32).toInt = 1 from rfl) (by omega), nI_toInt (by omega)]
    omega
  rw [e]
  exact L _ I hB0 (by omega) (fun _ _ => rfl) (fun M h1 h2 => by omega)
theorem prt_l {s : Int32} (h : 1 ≤ s.toInt) : ((2329089562800 : Int64) / Int32.toInt64 s).toInt = prt s := by
  have h2 := i32 s
  unfold prt
  rw [if_pos h]
  rw [Int64.toInt_div_of_ne_left _ _ (by decide), show (2329089562800 : Int64).toInt = 2329089562800 from rfl, show (Int32.toInt64 s).toInt = s.toInt from tl_i2l rfl, Int.tdiv_eq_ediv_of_nonneg (by decide)]
/-- a slice more -/
theorem px_addSlice {d j : Nat} {f : Nat → Int32} {Q : Qt} {v1 : Int32} {I : Im} {J : Jm} {R : Rm} (hB0 : Bd I) (hn : (I 45 1).toInt = j) (hj : j ≤ 11) (hJ : ∀ m, m < 2 ^ j → (J 47 m).toInt = smN f j m) (hv : 1 ≤ v1.toInt) (hf : f j = v1) (hQ : ∀ (I2 : Im) (J2 : Jm), Bd I2 → (I2 45 1).toInt = j + 1 → (∀ k, I2 46 k = if k = j then v1 else I 46 k) → (∀ m, m < 2 ^ (j + 1) → (J2 47 m).toInt = smN f (j + 1) m) → Q 0 0 I2 J2 R) : AM (d + 2) 90 112 [.ref 45, .int v1] I J R Q := by
  have h2048 : 2 ^ j ≤ 2048 := Nat.pow_le_pow_right (by decide) hj
  have hp : 0 < 2 ^ j := Nat.pow_pos (by decide)
  have h2 : 2 ^ (j + 1) = 2 ^ j + 2 ^ j := by rw [Nat.pow_succ]; omega
  have hI : I 45 1 = nI j := Int32.toInt_inj.mp (by rw [hn, nI_toInt (by omega)])
  have hsj := smN_in f j
  have hpr := prt_in v1
  refine am_X9_addSlice (fun P hc => ?_)
  have L : ∀ m p : Nat, p ≤ 2 ^ j → 2 ^ j - p < m → ∀ N : Jm, (∀ q, q < 2 ^ j → (N 47 q).toInt = smN f j q) → (∀ q, q < p → (N 47 (2 ^ j + q)).toInt = smN f j q + prt v1) → P 9 112 [(0, .ref 45), (1, .int v1), (2, .int (nI (2 ^ j))), (3, .int (nI p))] [] I N R := by
    intro m
    induction m with
    | zero => intro p h1 h2; omega
    | succ m ih =>
      intro p hp1 hm N hN1 hN2
      have hpI : (nI p).toInt = p := nI_toInt (by omega)
      have hPI : (nI (2 ^ j)).toInt = ((2 ^ j : Nat) : Int) := nI_toInt (by omega)
      refine sg_X9_addSlice_9 hc _ _ _ _ _ _ ⟨fun c1 => ?_, fun c1 => ?_⟩
      · have d1 := ci_le hPI hpI c1
        refine ⟨vp_of hn (by omega) (by omega), ?_⟩
        have hB4 : Bd (uI I 46 (Int32.toNatClampNeg (I 45 1)) v1) := Bd.a0 hB0 (show isA 112 46 0 = true from rfl) (show bna 46 = none from rfl)
        have e6 : (((uI I 46 (Int32.toNatClampNeg (I 45 1)) v1) 45 1) : Int32).toInt = j := Eq.trans (congrArg Int32.toInt (rd_ne (by omega))) hn
        have e7 : ((((uI I 46 (Int32.toNatClampNeg (I 45 1)) v1) 45 1) + 1) : Int32).toInt = (j : Int) + 1 := ti_add e6 rfl (by omega)
        refine hQ _ _ (Bd.o1 hB4 (show isO 112 45 9 = true from rfl) (by omega) (show bnd 9 1 = some _ from rfl) e7 (by omega)) ?_ (fun k => ?_) (fun q hq => ?_)
        · rw [rd_eq]; exact e7
        · rw [rd_ne (by omega), hI, tn_nI (by omega)]
          by_cases q : k = j
          · rw [if_pos q, q, rd_eq]
          · rw [if_neg q]; simp [uI, upd, q]
        · by_cases q2 : q < 2 ^ j
          · rw [smN_old q2]; exact hN1 q q2
          · obtain ⟨r, rfl⟩ : ∃ r, q = 2 ^ j + r := ⟨q - 2 ^ j, by omega⟩
            rw [smN_new (by omega), hf]; exact hN2 r (by omega)
      · have d1 := ci_nle hPI hpI c1
        have hlt : p < 2 ^ j := by omega
        refine ⟨vp_of hpI (by omega) (by omega), ?_⟩
        refine w_X11_crumbs ⟨fun c2 => ⟨(fun z => by have z2 : (v1.toInt : Int) = 0 := cl_eq (tl_i2l rfl) rfl z; omega), ?_⟩, fun c2 => absurd (ci_nle (show (1 : Int32).toInt = 1 from rfl) rfl c2) (by omega)⟩
        have e11 : nI (2 ^ j) + nI p = nI (2 ^ j + p) := nI_add _ _
        rw [e11, tn_nI (by omega), tn_nI (by omega), nI_k1]
        refine ⟨vp_of (nI_toInt (by omega)) (by omega) (by omega), ?_⟩
        have hs1 := hN1 p hlt
        have hs2 := hsj p
        have hval : ((N 47 p) + ((Int32.toInt64 1) * ((2329089562800 : Int64) / Int32.toInt64 v1))).toInt = smN f j p + prt v1 := by
          rw [show (Int32.toInt64 1) * ((2329089562800 : Int64) / Int32.toInt64 v1) = (2329089562800 : Int64) / Int32.toInt64 v1 from Int64.one_mul _]
          refine tl_add hs1 (prt_l hv) ?_
          omega
        have ne : ∀ q, ¬ q = 2 ^ j + p → uJ N 47 (2 ^ j + p) ((N 47 p) + ((Int32.toInt64 1) * ((2329089562800 : Int64) / Int32.toInt64 v1))) 47 q = N 47 q := fun q h => by simp [uJ, vp_updL, h]
        refine ih (p + 1) (by omega) (by omega) _ (fun q hq => ?_) (fun q hq => ?_)
        · rw [ne q (by omega)]; exact hN1 q hq
        · by_cases e : q = p
          · subst e
            rw [show uJ N 47 (2 ^ j + q) ((N 47 q) + ((Int32.toInt64 1) * ((2329089562800 : Int64) / Int32.toInt64 v1))) 47 (2 ^ j + q) = (N 47 q) + ((Int32.toInt64 1) * ((2329089562800 : Int64) / Int32.toInt64 v1)) by simp [uJ, vp_updL]]
            exact hval
          · rw [ne _ (by omega)]; exact hN2 q (by omega)
  refine sg_X9_addSlice_0 hc _ _ _ _ ?_
  rw [hI, sh1_N j (by omega)]
  exact L _ 0 (by omega) (Nat.lt_succ_self _) J hJ (fun q hq => by omega)
theorem px_lay {d : Nat} {Q : Qt} {v1 : Int32} {I : Im} {J : Jm} {R : Rm} (hB0 : Bd I) (h0 : 0 ≤ v1.toInt) (h12 : pcn v1 30 ≤ 12) (hJ0 : J 47 0 = 0) (hQ : ∀ (I2 : Im) (J2 : Jm) (n : Nat), Bd I2 → (n : Int) = pcn v1 30 → (I2 45 1).toInt = n → (∀ k, k < n → I2 46 k = msF v1 30 k) → (∀ m, m < 2 ^ n → (J2 47 m).toInt = smN (msF v1 30) n m) → Q 0 0 I2 J2 R) : AM (d + 3) 89 112 [.ref 45, .int v1] I J R Q := by
  refine am_X9_lay (fun P hc => ?_)
  have L : ∀ (m dd c : Nat) (N : Im) (JN : Jm), dd ≤ 30 → 30 - dd < m → Bd N → (c : Int) = pcn v1 dd → (N 45 1).toInt = c → (∀ k, k < c → N 46 k = msF v1 dd k) → (∀ q, q < 2 ^ c → (JN 47 q).toInt = smN (msF v1 dd) c q) → P 7 112 [(0, .ref 45), (1, .int v1), (2, .int (nI (dd + 1)))] [] N JN R := by
    intro m
    induction m with
    | zero => intro dd c N JN h1 h2; omega
    | succ m ih =>
      intro dd c N JN hdd hm hB hcn hsz hmb hJ
      have h2I : (nI (dd + 1)).toInt = ((dd + 1 : Nat) : Int) := nI_toInt (by omega)
      have fin : pcn v1 30 = pcn v1 dd → Q 0 0 N JN R := fun e => hQ N JN c hB (by omega) hsz (fun k hk => by rw [hmb k hk, msF_le hdd (by omega)]) (fun q hq => by rw [hJ q hq]; exact smN_c (fun k hk => (msF_le hdd (by omega)).symm))
      refine sg_X9_lay_7 hc _ _ _ _ _ ⟨fun c1 => ?_, fun c1 => ⟨fun c2 => ?_, fun c2 => ?_⟩⟩
      · have d1 := ci_lt (show (30 : Int32).toInt = 30 from rfl) h2I c1
        exact fin (by rw [show dd = 30 by omega])
      · have d2 := ci_le (show (12 : Int32).toInt = 12 from rfl) hsz c2
        have := pcn_le (s := v1) hdd
        exact fin (by omega)
      · have d1 := ci_nlt (show (30 : Int32).toInt = 30 from rfl) h2I c1
        have d2 := ci_nle (show (12 : Int32).toInt = 12 from rfl) hsz c2
        have hb := pcb_tb (v := v1) (i := dd) h0 (by omega)
        have hst : pcn v1 (dd + 1) = pcn v1 dd + pcb v1 (Int32.ofNat dd) := rfl
        have hsub : nI (dd + 1) - 1 = nI dd := Int32.toInt_inj.mp (by
          rw [ti_sub h2I (show (1 : Int32).toInt = 1 from rfl) (by omega), nI_toInt (by omega)]; omega)
        have hif := isIn_iff (v1 := v1) (v2 := nI dd) h0 (by rw [nI_toInt (by omega)]; omega)
        rw [nI_toInt (by omega), Int.toNat_natCast] at hif
        refine w_X11_isIn ⟨fun c9 => ⟨Or.inl rfl, fun _ => ⟨fun _ => ?_, fun q => absurd rfl q⟩⟩, fun c9 => ⟨Or.inr rfl, fun _ => ⟨fun q => absurd q (by decide), fun _ => ?_⟩⟩⟩
        · rw [hsub] at c9
          rw [if_neg (by rw [hif.mp c9]; decide)] at hb
          rw [nI_k1]
          exact ih (dd + 1) c N JN (by omega) (by omega) hB (by omega) hsz (fun k hk => by rw [hmb k hk, msF_old (by omega)]) (fun q hq => by rw [hJ q hq]; exact smN_c (fun k hk => (msF_old (by omega)).symm))
        · rw [hsub] at c9
          have ht : v1.toInt.toNat.testBit dd = true := by
            cases e : v1.toInt.toNat.testBit dd with
            | true => rfl
            | false => exact absurd (hif.mpr e) c9
          rw [if_pos ht] at hb
          have hf : msF v1 (dd + 1) c = nI (dd + 1) := by
            have := msF_new (v := v1) (d := dd) hb
            rwa [show (pcn v1 dd).toNat = c by omega] at this
          refine px_addSlice (f := msF v1 (dd + 1)) hB hsz (by omega) (fun q hq => by rw [hJ q hq]; exact smN_c (fun k hk => (msF_old (by omega)).symm)) (by rw [h2I]; omega) hf (fun I2 J2 hB2 hs2 hk2 hJ2 => ?_)
          rw [nI_k1]
          exact ih (dd + 1) (c + 1) I2 J2 (by omega) (by omega) hB2 (by omega) (by rw [hs2]; omega) (fun k hk => by
            rw [hk2]
            by_cases e : k = c
            · rw [if_pos e, e]; exact hf.symm
            · rw [if_neg e, hmb k (by omega), msF_old (by omega)]) hJ2
  refine sg_X9_lay_0 hc _ _ _ _ ?_
  have hB24 : Bd (uI I 45 1 0) := Bd.o1 hB0 (show isO 112 45 9 = true from rfl) (by omega) (show bnd 9 1 = some _ from rfl) (show (0 : Int32).toInt = 0 from rfl) (by omega)
  exact L 31 0 0 _ J (by omega) (by omega) hB24 rfl (by rw [rd_eq]; rfl) (fun k hk => by omega) (fun q hq => by
    rw [show q = 0 by omega, hJ0]; rfl)
/-! ===== and the reference's ===== -/
def rc (f : Nat → Int32) (n : Nat) (N : Im) (M k : Nat) : Prop := M.testBit k = false ∧ smN f n (M ||| 2 ^ k) ≤ 2329089562800 ∧ (N 110 (M ||| 2 ^ k)).toInt < 0
def LWk (kk n : Nat) (c : Nat → Prop) (y : Int) : Prop := (y = -1 ∧ ∀ k, kk ≤ k → k < n → ¬ c k) ∨ ((kk : Int) ≤ y ∧ y < n ∧ c y.toNat ∧ ∀ k, kk ≤ k → k < y.toNat → ¬ c k)
theorem LWk.z {n : Nat} {c : Nat → Prop} {y : Int} (h : LWk 0 n c y) : LW n c y := by
  rcases h with ⟨h1, h2⟩ | ⟨h1, h2, h3, h4⟩
  · exact Or.inl ⟨h1, fun k hk => h2 k (by omega) hk⟩
  · exact Or.inr ⟨by omega, h2, h3, fun k hk => h4 k (by omega) hk⟩
theorem LWk.no {kk n : Nat} {c : Nat → Prop} {y : Int} (h : LWk (kk + 1) n c y) (hc : ¬ c kk) : LWk kk n c y := by
  rcases h with ⟨h1, h2⟩ | ⟨h1, h2, h3, h4⟩
  · refine Or.inl ⟨h1, fun k hk hn => ?_⟩
    by_cases e : k = kk
    · rw [e]; exact hc
    · exact h2 k (by omega) hn
  · refine Or.inr ⟨by omega, h2, h3, fun k hk hn => ?_⟩
    by_cases e : k = kk
    · rw [e]; exact hc
    · exact h4 k (by omega) hn
theorem LWk.yes {kk n : Nat} {c : Nat → Prop} (hk : kk < n) (hc : c kk) : LWk kk n c (kk : Int) := Or.inr ⟨by omega, by omega, by rw [Int.toNat_natCast]; exact hc, fun k h1 h2 => by omega⟩
/-- what stands at a plate -/
def stY (f : Nat → Int32) (x : Int32) (y : Int) : Prop := (y = -1 ∧ x = -1) ∨ (0 ≤ y ∧ x = f y.toNat)
def EM (f : Nat → Int32) (n : Nat) (N : Im) (M : Nat) : Prop := ∃ y, LW n (rc f n N M) y ∧ stY f (N 110 M) y
theorem EM_up {f : Nat → Int32} {n : Nat} {N N2 : Im} {M : Nat} (h : ∀ M', M ≤ M' → N2 110 M' = N 110 M') (q : EM f n N M) : EM f n N2 M := by
  obtain ⟨y, h1, h2⟩ := q
  refine ⟨y, h1.mono (fun k hk => ?_), by rw [h M (Nat.le_refl _)]; exact h2⟩
  unfold rc
  rw [h (M ||| 2 ^ k) Nat.left_le_or]
theorem stY_lt {f : Nat → Int32} {n : Nat} {x : Int32} {y : Int} (hf : ∀ k, k < n → 1 ≤ (f k).toInt) (hy : y < n) (h : stY f x y) : x.toInt < 0 ↔ y = -1 := by
  rcases h with ⟨a, b⟩ | ⟨a, b⟩
  · rw [b]; exact ⟨fun _ => a, fun _ => by decide⟩
  · have := hf y.toNat (by omega)
    rw [b]; exact ⟨fun q => by omega, fun q => by omega⟩
theorem LW.lt {n : Nat} {c : Nat → Prop} {y : Int} (h : LW n c y) : y < n := by
  rcases h with ⟨h1, h2⟩ | ⟨h1, h2, h3, h4⟩ <;> omega
theorem EM_win {f : Nat → Int32} {n : Nat} {N : Im} {M : Nat} (hf : ∀ k, k < n → 1 ≤ (f k).toInt) (q : EM f n N M) : ¬ (N 110 M).toInt < 0 ↔ ∃ k, k < n ∧ M.testBit k = false ∧ smN f n (M ||| 2 ^ k) ≤ 2329089562800 ∧ ¬ ¬ (N 110 (M ||| 2 ^ k)).toInt < 0 := by
  obtain ⟨y, h1, h2⟩ := q
  rw [stY_lt hf h1.lt h2, h1.none]
  constructor
  · intro z
    refine Classical.byContradiction (fun w => z (fun k hk c => w ⟨k, hk, c.1, c.2.1, fun e => e c.2.2⟩))
  · rintro ⟨k, hk, a, b, c⟩ z
    exact z k hk ⟨a, b, Classical.byContradiction c⟩
