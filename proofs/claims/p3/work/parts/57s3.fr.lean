/-! ===== luck(): how many of the sets are within the share, both sides ===== -/
noncomputable def kcN_q10 : List Int → Nat → Int → Nat
  | _, 0, L => if 0 ≤ L then 1 else 0
  | [], _ + 1, _ => 0
  | x :: r, k + 1, L => kcN_q10 r k (L - x) + kcN_q10 r (k + 1) L
theorem clN_0_q10 {r : List Int} {L : Int} : kcN_q10 r 0 L = if 0 ≤ L then 1 else 0 := by cases r <;> rfl
theorem clN_c_q10 {x : Int} {r : List Int} {k : Nat} {L : Int} : kcN_q10 (x :: r) (k + 1) L = kcN_q10 r k (L - x) + kcN_q10 r (k + 1) L := rfl
theorem clN_snoc_q10 {x : Int} : ∀ (r : List Int) (k : Nat) (L : Int), kcN_q10 (r ++ [x]) (k + 1) L = kcN_q10 r k (L - x) + kcN_q10 r (k + 1) L := by
  intro r
  induction r with
  | nil => intro k L; rfl
  | cons y r ih =>
    intro k L
    cases k with
    | zero =>
      have h1 : kcN_q10 ((y :: r) ++ [x]) (0 + 1) L = kcN_q10 (r ++ [x]) 0 (L - y) + kcN_q10 (r ++ [x]) (0 + 1) L := rfl
      have h2 : kcN_q10 (y :: r) (0 + 1) L = kcN_q10 r 0 (L - y) + kcN_q10 r (0 + 1) L := rfl
      rw [h1, h2, ih 0 L]
      simp only [clN_0_q10]
      omega
    | succ k =>
      have h1 : kcN_q10 ((y :: r) ++ [x]) (k + 1 + 1) L = kcN_q10 (r ++ [x]) (k + 1) (L - y) + kcN_q10 (r ++ [x]) (k + 1 + 1) L := rfl
      have h2 : kcN_q10 (y :: r) (k + 1 + 1) L = kcN_q10 r (k + 1) (L - y) + kcN_q10 r (k + 1 + 1) L := rfl
      have h3 : kcN_q10 (y :: r) (k + 1) (L - x) = kcN_q10 r k (L - x - y) + kcN_q10 r (k + 1) (L - x) := rfl
      rw [h1, h2, h3, ih (k + 1) L, ih k (L - y), show L - y - x = L - x - y by omega]
      omega
theorem clN_le_q10 : ∀ (r : List Int) (k : Nat) (L : Int), kcN_q10 r k L ≤ 2 ^ r.length := by
  intro r
  induction r with
  | nil =>
    intro k L
    cases k with
    | zero => rw [clN_0_q10]; split <;> decide
    | succ k => exact Nat.zero_le _
  | cons y r ih =>
    intro k L
    rw [List.length_cons, Nat.pow_succ]
    cases k with
    | zero =>
      have := Nat.one_le_two_pow (n := r.length)
      rw [clN_0_q10]
      split <;> omega
    | succ k =>
      have h1 := ih k (L - y)
      have h2 := ih (k + 1) L
      rw [clN_c_q10]; omega
noncomputable def lst9_q10 (S : Nat → Bool) : Nat → List Int
  | 0 => []
  | f + 1 => if S (30 - f) = true then pt (30 - f) :: lst9_q10 S f else lst9_q10 S f
theorem lst9_le_q10 {S : Nat → Bool} : ∀ f, (lst9_q10 S f).length ≤ f := by
  intro f
  induction f with
  | zero => exact Nat.le_refl _
  | succ f ih =>
    show (if S (30 - f) = true then pt (30 - f) :: lst9_q10 S f else lst9_q10 S f).length ≤ f + 1
    split
    · rw [List.length_cons]; omega
    · omega
noncomputable def ul9_q10 (S : Nat → Bool) : Nat → List Int
  | 0 => []
  | d + 1 => if S (d + 1) = true then ul9_q10 S d ++ [pt (d + 1)] else ul9_q10 S d
theorem ul_lst_q10 {S : Nat → Bool} : ∀ d, d ≤ 30 → ul9_q10 S d ++ lst9_q10 S (30 - d) = lst9_q10 S 30 := by
  intro d
  induction d with
  | zero => intro _; rfl
  | succ d ih =>
    intro hd
    have e : 30 - d = (30 - (d + 1)) + 1 := by omega
    have e2 : 30 - (30 - (d + 1)) = d + 1 := by omega
    have h := ih (by omega)
    rw [e] at h
    have h2 : ul9_q10 S d ++ (if S (30 - (30 - (d + 1))) = true then pt (30 - (30 - (d + 1))) :: lst9_q10 S (30 - (d + 1)) else lst9_q10 S (30 - (d + 1))) = lst9_q10 S 30 := h
    rw [e2] at h2
    show (if S (d + 1) = true then ul9_q10 S d ++ [pt (d + 1)] else ul9_q10 S d) ++ lst9_q10 S (30 - (d + 1)) = _
    by_cases q : S (d + 1) = true
    · rw [if_pos q] at h2 ⊢
      rw [List.append_assoc]; exact h2
    · rw [if_neg q] at h2 ⊢
      exact h2
theorem ul_30_q10 {S : Nat → Bool} : ul9_q10 S 30 = lst9_q10 S 30 := (List.append_nil _).symm.trans (ul_lst_q10 (S := S) 30 (by decide))
noncomputable def flM9_q10 (f : Nat → Int32) : Nat → List Int
  | 0 => []
  | m + 1 => flM9_q10 f m ++ [prt (f m)]
theorem fl9_c_q10 {f g : Nat → Int32} : ∀ m, (∀ k, k < m → f k = g k) → flM9_q10 f m = flM9_q10 g m := by
  intro m
  induction m with
  | zero => intro _; rfl
  | succ m ih =>
    intro h
    show flM9_q10 f m ++ [prt (f m)] = flM9_q10 g m ++ [prt (g m)]
    rw [ih (fun k hk => h k (by omega)), h m (by omega)]
theorem prt_pt_q10 : ∀ d, d < 31 → 1 ≤ d → prt (Int32.ofNat d) = pt d := by decide +kernel
theorem nIm1_q10 : ∀ d, d < 31 → nI (d + 1) - 1 = nI d := by decide +kernel
theorem SA_pcb_q10 {v : Int32} {d : Nat} (h0 : 0 ≤ v.toInt) (hd : d + 1 ≤ 30) : SA v (d + 1) = true ↔ pcb v (Int32.ofNat d) = 1 := by
  have h := inS_of (s := v) (v := nI (d + 1)) h0 ((nle_nI (a := 1) (by omega) (by omega)).mpr (by omega)) ((nle_nI (b := 30) (by omega) (by omega)).mpr (by omega))
  rw [nIm1_q10 d (by omega)] at h
  unfold pcb
  constructor
  · intro q
    exact if_pos (h.mpr q)
  · intro q
    refine h.mp ?_
    by_cases z : ((v >>> (Int32.ofNat d &&& 31)) &&& 1) = 1
    · exact z
    · rw [if_neg z] at q; omega
theorem fl_ul_q10 {v : Int32} (h0 : 0 ≤ v.toInt) : ∀ d, d ≤ 30 → flM9_q10 (msF v d) (pcn v d).toNat = ul9_q10 (SA v) d := by
  intro d
  induction d with
  | zero => intro _; rfl
  | succ d ih =>
    intro hd
    have hs : pcn v (d + 1) = pcn v d + pcb v (Int32.ofNat d) := rfl
    have hb := pcb_in v (Int32.ofNat d)
    have hn := pcn_nn (s := v) d
    have hi := ih (by omega)
    have hS := SA_pcb_q10 h0 hd
    show _ = if SA v (d + 1) = true then ul9_q10 (SA v) d ++ [pt (d + 1)] else ul9_q10 (SA v) d
    by_cases q : SA v (d + 1) = true
    · have p1 := hS.mp q
      have e : (pcn v (d + 1)).toNat = (pcn v d).toNat + 1 := by omega
      rw [if_pos q, e]
      show flM9_q10 (msF v (d + 1)) (pcn v d).toNat ++ [prt (msF v (d + 1) (pcn v d).toNat)] = _
      rw [msF_new p1, fl9_c_q10 (g := msF v d) _ (fun k hk => msF_old (by omega)), hi, prt_pt_q10 _ (by omega) (by omega)]
    · have p0 : ¬ pcb v (Int32.ofNat d) = 1 := fun z => q (hS.mpr z)
      have e : (pcn v (d + 1)).toNat = (pcn v d).toNat := by omega
      rw [if_neg q, e, fl9_c_q10 (g := msF v d) _ (fun k hk => msF_old (by omega)), hi]
theorem fl_lst_q10 {v : Int32} {n : Nat} (h0 : 0 ≤ v.toInt) (hn : (n : Int) = pcn v 30) : flM9_q10 (msF v 30) n = lst9_q10 (SA v) 30 := by
  have h := fl_ul_q10 h0 30 (by decide)
  rw [show (pcn v 30).toNat = n by omega] at h
  exact h.trans ul_30_q10
/-! the sets by their masks -/
theorem prt1_q10 : prt 1 = 2329089562800 := by decide
theorem pc_sm_q10 {M : Nat} (hM : M < 2 ^ 31) : ∀ n, n ≤ 30 → smN (fun _ => 1) n M = 2329089562800 * pcn (nI M) n := by
  intro n
  induction n with
  | zero => intro _; rfl
  | succ n ih =>
    intro hn
    have hz : (nI M).toInt = M := nI_toInt hM
    have hb := pcb_tb (v := nI M) (i := n) (by omega) (by omega)
    rw [hz, Int.toNat_natCast] at hb
    have hs : pcn (nI M) (n + 1) = pcn (nI M) n + pcb (nI M) (Int32.ofNat n) := rfl
    have hi := ih (by omega)
    show smN (fun _ => 1) n M + (if M.testBit n then prt 1 else 0) = _
    rw [hs, hb, hi, prt1_q10]
    by_cases z : M.testBit n = true
    · rw [if_pos z, if_pos z]; omega
    · rw [if_neg z, if_neg z]; omega
theorem sm_up_q10 {f : Nat → Int32} {M n : Nat} (hM : M < 2 ^ n) : ∀ j, smN f (n + j) M = smN f n M := by
  intro j
  induction j with
  | zero => rfl
  | succ j ih =>
    have : 2 ^ n ≤ 2 ^ (n + j) := Nat.pow_le_pow_right (by decide) (by omega)
    exact (smN_old (n := n + j) (Nat.lt_of_lt_of_le hM this)).trans ih
noncomputable def sumB_q10 (g : Nat → Bool) : Nat → Nat
  | 0 => 0
  | n + 1 => sumB_q10 g n + (if g n = true then 1 else 0)
theorem sumB_add_q10 {g : Nat → Bool} {a : Nat} : ∀ b, sumB_q10 g (a + b) = sumB_q10 g a + sumB_q10 (fun i => g (a + i)) b := by
  intro b
  induction b with
  | zero => rfl
  | succ b ih =>
    show sumB_q10 g (a + b) + (if g (a + b) = true then 1 else 0) = sumB_q10 g a + (sumB_q10 (fun i => g (a + i)) b + (if g (a + b) = true then 1 else 0))
    rw [ih]; omega
theorem sumB_c_q10 {g h : Nat → Bool} : ∀ n, (∀ i, i < n → g i = h i) → sumB_q10 g n = sumB_q10 h n := by
  intro n
  induction n with
  | zero => intro _; rfl
  | succ n ih =>
    intro e
    show sumB_q10 g n + (if g n = true then 1 else 0) = sumB_q10 h n + (if h n = true then 1 else 0)
    rw [ih (fun i hi => e i (by omega)), e n (by omega)]
theorem sumB_f_q10 : ∀ n, sumB_q10 (fun _ => false) n = 0 := by
  intro n
  induction n with
  | zero => rfl
  | succ n ih => show sumB_q10 (fun _ => false) n + 0 = 0; rw [ih]
theorem sumB_le_q10 {g : Nat → Bool} : ∀ n, sumB_q10 g n ≤ n := by
  intro n
  induction n with
  | zero => exact Nat.le_refl _
  | succ n ih =>
    show sumB_q10 g n + (if g n = true then 1 else 0) ≤ n + 1
    split <;> omega
noncomputable def gC_q10 (f : Nat → Int32) (m k : Nat) (L : Int) (p : Nat) : Bool := decide (smN (fun _ => 1) m p = 2329089562800 * (k : Int) ∧ smN f m p ≤ L)
theorem cnt_cl_q10 {f : Nat → Int32} : ∀ (m k : Nat) (L : Int), sumB_q10 (gC_q10 f m k L) (2 ^ m) = kcN_q10 (flM9_q10 f m) k L := by
  intro m
  induction m with
  | zero =>
    intro k L
    have e0 : sumB_q10 (gC_q10 f 0 k L) (2 ^ 0) = 0 + (if gC_q10 f 0 k L 0 = true then 1 else 0) := rfl
    have eg : gC_q10 f 0 k L 0 = decide ((0 : Int) = 2329089562800 * (k : Int) ∧ (0 : Int) ≤ L) := rfl
    rw [e0, eg]
    cases k with
    | zero =>
      rw [clN_0_q10]
      by_cases q : (0 : Int) ≤ L <;> simp [q]
    | succ k =>
      have e1 : kcN_q10 (flM9_q10 f 0) (k + 1) L = 0 := rfl
      have hd : decide ((0 : Int) = 2329089562800 * ((k + 1 : Nat) : Int) ∧ (0 : Int) ≤ L) = false := decide_eq_false (fun z => by have := z.1; omega)
      rw [e1, hd]
      all_goals rfl
  | succ m ih =>
    intro k L
    have e : 2 ^ (m + 1) = 2 ^ m + 2 ^ m := by rw [Nat.pow_succ]; omega
    have h1 : sumB_q10 (gC_q10 f (m + 1) k L) (2 ^ m) = sumB_q10 (gC_q10 f m k L) (2 ^ m) := sumB_c_q10 _ (fun i hi => by unfold gC_q10; rw [smN_old hi, smN_old hi])
    rw [e, sumB_add_q10, h1, ih]
    cases k with
    | zero =>
      have h2 : sumB_q10 (fun i => gC_q10 f (m + 1) 0 L (2 ^ m + i)) (2 ^ m) = sumB_q10 (fun _ => false) (2 ^ m) := sumB_c_q10 _ (fun i hi => by
        unfold gC_q10
        rw [smN_new hi, prt1_q10]
        refine decide_eq_false (fun z => ?_)
        have h3 := (smN_in (fun _ => 1) m i).1
        have h4 := z.1
        omega)
      rw [h2, sumB_f_q10, Nat.add_zero, clN_0_q10, clN_0_q10]
    | succ k =>
      have h2 : sumB_q10 (fun i => gC_q10 f (m + 1) (k + 1) L (2 ^ m + i)) (2 ^ m) = sumB_q10 (gC_q10 f m k (L - prt (f m))) (2 ^ m) := sumB_c_q10 _ (fun i hi => by
        unfold gC_q10
        rw [smN_new hi, smN_new hi, prt1_q10]
        refine decide_eq_decide.mpr ⟨fun z => ⟨?_, ?_⟩, fun z => ⟨?_, ?_⟩⟩
        · have := z.1; omega
        · have := z.2; omega
        · have := z.1; omega
        · have := z.2; omega)
      rw [h2, ih k]
      show kcN_q10 (flM9_q10 f m) (k + 1) L + kcN_q10 (flM9_q10 f m) k (L - prt (f m)) = kcN_q10 (flM9_q10 f m ++ [prt (f m)]) (k + 1) L
      rw [clN_snoc_q10]; omega
/-! in how many ways k are taken of n -/
noncomputable def chV_q10 (a b : Int32) : Nat → Int32 → Int64 → Int64
  | 0, _, w => w
  | f + 1, i, w => if b < i then w else chV_q10 a b f (i + 1) ((w * Int32.toInt64 ((a - b) + i)) / Int32.toInt64 i)
noncomputable def cbn_q10 : Nat → Nat → Nat
  | _, 0 => 1
  | 0, _ + 1 => 0
  | n + 1, k + 1 => cbn_q10 n k + cbn_q10 n (k + 1)
theorem chV_c_q10 : ∀ n, n < 13 → ∀ k, k < 13 → k ≤ n → (chV_q10 (nI n) (nI k) 13 1 1).toInt = (cbn_q10 n k : Int) ∧ 0 < cbn_q10 n k := by decide +kernel
section FRL
variable {I I1 : Im} {J J1 : Jm} {R : Rm} {Q : Qt}
theorem px_cchoose_q10 {d : Nat} {a b : Int32} (hb : b.toInt ≤ 12) (hQ : Q 0 (chV_q10 a b 13 1 1) I J R) : AM (d + 1) 170 112 [.int a, .int b] I J R Q := by
  refine am_X11_choices (fun P hc => sg_X11_choices_0 hc _ _ _ _ _ ?_)
  have L : ∀ (f j : Nat) (w : Int64), j + f = 14 → 1 ≤ j → Q 0 (chV_q10 a b f (nI j) w) I J R → P 5 112 [(0, .int a), (1, .int b), (2, .long w), (4, .int (nI j))] [] I J R := by
    intro f
    induction f with
    | zero =>
      intro j w hj _ hQ
      refine sg_X11_choices_5 hc _ _ _ _ _ _ _ ⟨fun _ => hQ, fun c => absurd ?_ c⟩
      rw [Int32.lt_iff_toInt_lt, nI_toInt (by omega)]; omega
    | succ f ih =>
      intro j w hj h1 hQ
      refine sg_X11_choices_5 hc _ _ _ _ _ _ _ ⟨fun c => ?_, fun c => ⟨(ptL j (by omega) h1).2.2, ?_⟩⟩
      · have e : chV_q10 a b (f + 1) (nI j) w = w := if_pos c
        rw [e] at hQ; exact hQ
      · have e : chV_q10 a b (f + 1) (nI j) w = chV_q10 a b f (nI j + 1) ((w * Int32.toInt64 ((a - b) + nI j)) / Int32.toInt64 (nI j)) := if_neg c
        rw [e, nI_k1] at hQ
        rw [nI_k1]
        exact ih (j + 1) _ (by omega) (by omega) hQ
  exact L 13 1 1 (by decide) (by decide) hQ
theorem px_mchoose_q10 {d : Nat} {a b : Int32} (hb : b.toInt ≤ 12) (hQ : Q 0 (chV_q10 a b 13 1 1) I J R) : AM (d + 1) 301 112 [.int a, .int b] I J R Q := by
  refine am_X12_choices (fun P hc => sg_X12_choices_0 hc _ _ _ _ _ ?_)
  have L : ∀ (f j : Nat) (w : Int64), j + f = 14 → 1 ≤ j → Q 0 (chV_q10 a b f (nI j) w) I J R → P 5 112 [(0, .int a), (1, .int b), (2, .long w), (4, .int (nI j))] [] I J R := by
    intro f
    induction f with
    | zero =>
      intro j w hj _ hQ
      refine sg_X12_choices_5 hc _ _ _ _ _ _ _ ⟨fun _ => hQ, fun c => absurd ?_ c⟩
      rw [Int32.lt_iff_toInt_lt, nI_toInt (by omega)]; omega
    | succ f ih =>
      intro j w hj h1 hQ
      refine sg_X12_choices_5 hc _ _ _ _ _ _ _ ⟨fun c => ?_, fun c => ⟨(ptL j (by omega) h1).2.2, ?_⟩⟩
      · have e : chV_q10 a b (f + 1) (nI j) w = w := if_pos c
        rw [e] at hQ; exact hQ
      · have e : chV_q10 a b (f + 1) (nI j) w = chV_q10 a b f (nI j + 1) ((w * Int32.toInt64 ((a - b) + nI j)) / Int32.toInt64 (nI j)) := if_neg c
        rw [e, nI_k1] at hQ
        rw [nI_k1]
        exact ih (j + 1) _ (by omega) (by omega) hQ
  exact L 13 1 1 (by decide) (by decide) hQ
theorem px_cw9_q10 {d n k : Nat} {f : Nat → Int32} {c : Int64} {L : Int} (hB : Bd I) (hR : RI R) (hn : I 45 1 = nI n) (hn12 : n ≤ 12) (hk : k ≤ 12) (hc : c.toInt = L) (hJ : ∀ m, m < 2 ^ n → (J 47 m).toInt = smN f n m) (hQ : ∀ y : Int64, y.toInt = (kcN_q10 (flM9_q10 f n) k L : Nat) → Q 0 y I J R) : AM (d + 3) 93 112 [.ref 45, .int (nI k), .long c] I J R Q := by
  rw [← cnt_cl_q10] at hQ
  refine am_X9_countWithin (fun P hc2 => sg_X9_countWithin_0 hc2 _ _ _ _ _ ?_)
  have hp12 := p2_12 hn12
  have hsh : (1 : Int32) <<< (I 45 1 &&& 31) = nI (2 ^ n) := by rw [hn]; exact sh1_N n (by omega)
  have L6 : ∀ (g p : Nat) (y : Int64), p + g = 2 ^ n → y.toInt = (sumB_q10 (gC_q10 f n k L) p : Nat) → P 6 112 [(0, .ref 45), (1, .int (nI k)), (2, .long c), (4, .long y), (6, .int (nI p))] [] I J R := by
    intro g
    induction g with
    | zero =>
      intro p y hp hy
      have ep : p = 2 ^ n := by omega
      subst ep
      refine sg_X9_countWithin_6 hc2 _ _ _ _ _ _ _ ⟨fun _ => hQ y hy, fun z => absurd ?_ z⟩
      rw [hsh]
      all_goals exact Int32.le_refl _
    | succ g ih =>
      intro p y hp hy
      have hb := sumB_le_q10 (g := gC_q10 f n k L) p
      have hst : sumB_q10 (gC_q10 f n k L) (p + 1) = sumB_q10 (gC_q10 f n k L) p + (if gC_q10 f n k L p = true then 1 else 0) := rfl
      have hpi : (nI p).toInt = p := nI_toInt (by omega)
      have no : (¬ gC_q10 f n k L p = true) → P 6 112 [(0, .ref 45), (1, .int (nI k)), (2, .long c), (4, .long y), (6, .int (nI p + 1))] [] I J R := fun z => by
        rw [nI_k1]
        exact ih (p + 1) y (by omega) (by rw [hst, if_neg z]; exact hy)
      refine sg_X9_countWithin_6 hc2 _ _ _ _ _ _ _ ⟨fun z => absurd z ?_, fun _ => kpp rfl (sp_J6_bitCount_0f7a4 hB hR (fun x y2 I2 J2 hB2 px eI eJ eR => ?_))⟩
      · rw [hsh, le_i, hpi, nI_toInt (by omega)]; omega
      subst eJ
      obtain ⟨heI, px⟩ := px
      subst heI
      have hx := px ⟨by omega, by omega⟩
      have hm := pc_sm_q10 (M := p) (by omega) 30 (by decide)
      have hu := sm_up_q10 (f := fun _ => 1) (M := p) (n := n) (by omega) (30 - n)
      rw [show n + (30 - n) = 30 by omega] at hu
      rw [hu, ← hx] at hm
      refine ⟨fun z => no ?_, fun z => ⟨vp_of (a := (p : Int)) hpi (by omega) (by omega), fun z2 => no ?_, fun z2 => ?_⟩⟩
      · unfold gC_q10
        rw [decide_eq_true_eq]
        intro w
        refine z (Int32.toInt_inj.mp ?_)
        rw [nI_toInt (by omega)]
        have := w.1
        omega
      · rw [lg_cmp_gt, tn_nI (by omega)] at z2
        have z3 := cl_lt hc (hJ p (by omega)) z2
        unfold gC_q10
        rw [decide_eq_true_eq]
        intro w
        have := w.2
        omega
      · rw [lg_cmp_gt, tn_nI (by omega)] at z2
        have z3 := cl_nlt hc (hJ p (by omega)) z2
        have hx2 : x.toInt = k := by rw [z]; exact nI_toInt (by omega)
        have hg : gC_q10 f n k L p = true := by
          unfold gC_q10
          rw [decide_eq_true_eq]
          exact ⟨by omega, by omega⟩
        rw [nI_k1]
        refine ih (p + 1) _ (by omega) ?_
        rw [hst, if_pos hg, tl_add hy (show (1 : Int64).toInt = 1 from rfl) (by omega)]
        omega
  exact L6 (2 ^ n) 0 0 (by omega) rfl
theorem px_luk_q10 {A : Int32} (hA : 0 ≤ A.toInt) : ∀ (k f : Nat) (L : Int) (v4 : Int64) (d : Nat) (Q : Qt), k ≤ 12 → f ≤ 30 → v4.toInt = L → (k : Int) * 2329089562800 - 1000000000000000 ≤ L ∧ L ≤ 1000000000000000 → (∀ y : Int64, y.toInt = (kcN_q10 (lst9_q10 (SA A) f) k L : Nat) → Q 0 y I J R) → AM (d + k + 2) 300 112 [.ref 97, .int (nI k), .int (nI (31 - f)), .int A, .long v4] I J R Q := by
  intro k
  induction k with
  | zero =>
    intro f L v4 d Q _ _ hv hL hQ
    have z0 : (0 : Int64).toInt = 0 := rfl
    refine am_X12_lucks (fun P hc => sg_X12_lucks_0 hc _ _ _ _ _ _ _ ⟨fun z => absurd rfl z, fun _ => ⟨fun c => hQ 0 ?_, fun c => hQ 1 ?_⟩⟩)
    · rw [lg_cmp_lt] at c
      have c2 := cl_lt hv z0 c
      rw [clN_0_q10, if_neg (by omega)]; rfl
    · rw [lg_cmp_lt] at c
      have c2 := cl_nlt hv z0 c
      rw [clN_0_q10, if_pos (by omega)]; rfl
  | succ k ihk =>
    intro f L v4 d Q hk hf hv hL hQ
    rw [show d + (k + 1) + 2 = (d + k + 2) + 1 by omega]
    have hk0 : ¬ nI (k + 1) = 0 := fun z => by
      have := (nI_z9 (n := k + 1) (by omega)).mp z
      omega
    have e1 : (((k + 1 : Nat) : Int)) = (k : Int) + 1 := by omega
    rw [e1] at hL
    refine am_X12_lucks (fun P hc => sg_X12_lucks_0 hc _ _ _ _ _ _ _ ⟨fun _ => ?_, fun z => absurd z hk0⟩)
    have L23 : ∀ (g : Nat) (x : Int64) (a : Nat), g ≤ 30 → x.toInt = (a : Int) → a + kcN_q10 (lst9_q10 (SA A) g) (k + 1) L ≤ 1073741824 → (∀ y : Int64, y.toInt = ((a + kcN_q10 (lst9_q10 (SA A) g) (k + 1) L : Nat) : Int) → Q 0 y I J R) → P 23 112 [(0, .ref 97), (1, .int (nI (k + 1))), (3, .int A), (4, .long v4), (6, .long x), (8, .int (nI (31 - g)))] [] I J R := by
      intro g
      induction g with
      | zero =>
        intro x a _ hx _ hQ
        refine sg_X12_lucks_23 hc _ _ _ _ _ _ _ _ ⟨fun _ => hQ x ?_, fun c => absurd ((nlt_nI (a := 30) (b := 31 - 0) (by omega) (by omega)).mpr (by omega)) c⟩
        rw [hx]
        have e0 : kcN_q10 (lst9_q10 (SA A) 0) (k + 1) L = 0 := rfl
        rw [e0, Nat.add_zero]
      | succ g ih =>
        intro x a hg hx hT hQ
        have ed : 31 - (g + 1) = 30 - g := by omega
        obtain ⟨p1, p2, -⟩ := pt_b (d := 30 - g) (by omega) (by omega)
        rw [ed]
        refine sg_X12_lucks_23 hc _ _ _ _ _ _ _ _ ⟨fun c => absurd ((nlt_nI (a := 30) (by omega) (by omega)).mp c) (by omega), fun _ => px_isOf hA ((nle_nI (a := 1) (by omega) (by omega)).mpr (by omega)) ((nle_nI (b := 30) (by omega) (by omega)).mpr (by omega)) (fun hi _ => ⟨fun z => absurd z (by decide), fun _ => ?_⟩) (fun hi _ => ⟨fun _ => ?_, fun z => absurd rfl z⟩)⟩
        · have hS : SA A (30 - g) = true := hi
          have el : lst9_q10 (SA A) (g + 1) = pt (30 - g) :: lst9_q10 (SA A) g := if_pos hS
          rw [el, clN_c_q10] at hT hQ
          refine px_parts (by omega) (by omega) (fun y2 hy2 => ?_)
          rw [nIm1_q10 k (by omega), nx30 hg]
          refine ihk g (L - pt (30 - g)) _ d _ (by omega) (by omega) (tl_sub hv hy2 (by omega)) (by omega) (fun y3 hy3 => ?_)
          refine ih _ (a + kcN_q10 (lst9_q10 (SA A) g) k (L - pt (30 - g))) (by omega) ?_ (by omega) (fun y hy => hQ y (by rw [hy]; omega))
          rw [tl_add hx hy3 (by omega)]; omega
        · have hS : ¬ SA A (30 - g) = true := by
            have hi2 : SA A (30 - g) = false := hi
            rw [hi2]; exact Bool.false_ne_true
          have el : lst9_q10 (SA A) (g + 1) = lst9_q10 (SA A) g := if_neg hS
          rw [el] at hT hQ
          rw [nx30 hg]
          exact ih x a (by omega) hx hT hQ
    have hlen := lst9_le_q10 (S := SA A) f
    have hle := clN_le_q10 (lst9_q10 (SA A) f) (k + 1) L
    have h30 : 2 ^ (lst9_q10 (SA A) f).length ≤ 2 ^ 30 := Nat.pow_le_pow_right (by decide) (by omega)
    have e30 : 2 ^ 30 = 1073741824 := by decide
    refine L23 f 0 0 hf rfl (by omega) (fun y hy => hQ y (by rw [hy]; omega))
noncomputable def okL9_q10 (v1 v2 v3 v4 : Int32) : Prop := isPS v1 ∧ (0 ≤ v2.toInt ∧ v2.toInt ≤ 12) ∧ sh v3 v4 ∧ v2.toInt ≤ pcn v1 30
noncomputable def luN9_q10 (v1 v2 v3 v4 : Int32) : Int := (kcN_q10 (lst9_q10 (SA v1) 30) v2.toInt.toNat (shL v3 v4) : Nat)
noncomputable def luB9_q10 (v1 v2 : Int32) : Int := (cbn_q10 (pcn v1 30).toNat v2.toInt.toNat : Nat)
theorem luc9_q10 {v1 v2 v3 v4 : Int32} {n : Nat} (hn : (n : Int) = pcn v1 30) (h : okL9_q10 v1 v2 v3 v4) : ∃ k : Nat, v2 = nI k ∧ v2.toInt.toNat = k ∧ k ≤ n ∧ n ≤ 12 ∧ luB9_q10 v1 v2 = (chV_q10 (nI n) (nI k) 13 1 1).toInt ∧ 0 < luB9_q10 v1 v2 := by
  obtain ⟨h1, ⟨h2, h3⟩, -, h4⟩ := h
  have h12 := h1.2.2
  have hk : v2 = nI v2.toInt.toNat := nI_ofN h2
  have hc := chV_c_q10 n (by omega) v2.toInt.toNat (by omega) (by omega)
  have e : (pcn v1 30).toNat = n := by omega
  refine ⟨v2.toInt.toNat, hk, rfl, by omega, by omega, ?_, ?_⟩
  · unfold luB9_q10; rw [e]; exact hc.1.symm
  · unfold luB9_q10; rw [e]; have := hc.2; omega
theorem luN_b_q10 {v1 v2 v3 v4 : Int32} : 0 ≤ luN9_q10 v1 v2 v3 v4 := Int.natCast_nonneg _
theorem cf_luck {d : Nat} {v1 v2 v3 v4 : Int32} (hB : Bd I) (hR : RI R) (hJ : J 47 0 = 0) : AM (d + 5) 142 112 [.ref 1, .int v1, .int v2, .int v3, .int v4] I J R (fun x _ _ J2 _ => FrX 1 1 2 (okL9_q10 v1 v2 v3 v4) (luN9_q10 v1 v2 v3 v4) (luB9_q10 v1 v2) J J2 x) := by
  have z0 : (0 : Int32).toInt = 0 := rfl
  have z12 : (12 : Int32).toInt = 12 := rfl
  have no : ∀ (z : Int32) (I9 : Im), ¬ okL9_q10 v1 v2 v3 v4 → AM (d + 4) 150 112 [.ref 1, .int z] I9 J R (fun x1 _ I1 J1 _ => (x1 = 0 ∨ x1 = 1) → (((x1 : Int32) = 0 ∨ (x1 : Int32) = 1) ∧ FrX 1 1 2 (okL9_q10 v1 v2 v3 v4) (luN9_q10 v1 v2 v3 v4) (luB9_q10 v1 v2) J J1 x1)) := fun z I9 hz => w_X11_deny ⟨Or.inl rfl, fun _ => ⟨Or.inl rfl, FrX.n hz⟩⟩
  refine w_X11_luck (kpp rfl (sp_X11_isPlateSet hB hR (fun x1 y6 I2 J3 hB4 p5 eI1 eJ1 eR1 => ?_)))
  subst eJ1
  obtain ⟨heI2, p5⟩ := p5
  subst heI2
  intro o7
  refine ⟨fun c => no 5 I (fun z => ?_), fun c => ⟨fun c2 => no 5 I (fun z => ?_), fun c2 => ⟨fun c3 => no 5 I (fun z => ?_), fun c3 => px_isShare (fun hs _ => ⟨fun _ => kpp rfl (sp_J6_bitCount_0f7a4 hB hR (fun x6 y59 I55 J56 hB57 p58 eI2 eJ2 eR2 => ?_)), fun z => absurd z (by decide)⟩) (fun hs _ => ⟨fun z => absurd rfl z, fun _ => no 5 I (fun z => hs z.2.2.1)⟩)⟩⟩⟩
  · have := p5.2.2.2 z.1
    rw [c] at this; omega
  · have := ci_lt rfl z0 c2
    have := z.2.1.1
    omega
  · have := ci_lt z12 rfl c3
    have := z.2.1.2
    omega
  · subst eJ2
    obtain ⟨heI55, p58⟩ := p58
    subst heI55
    have h1 : isPS v1 := p5.2.2.1 (by
      rcases o7 with q | q
      · exact absurd q c
      · subst q; rfl)
    have hx := p58 ⟨h1.1, h1.2.1⟩
    have c2' := ci_nlt rfl z0 c2
    have c3' := ci_nlt z12 rfl c3
    refine ⟨fun c4 => ?_, fun c4 => no 8 I (fun z => c4 ?_)⟩
    · have c4' := ci_le rfl rfl c4
      have hok : okL9_q10 v1 v2 v3 v4 := ⟨h1, ⟨by omega, by omega⟩, hs, by omega⟩
      refine px_lay hB h1.1 h1.2.2 hJ (fun I7 J7 n hB7 hn hsz hmb hJ7 => ?_)
      obtain ⟨k, ek, etk, hkn, hn12, hd1, hd2⟩ := luc9_q10 hn hok
      have hI45 : I7 45 1 = nI n := Int32.toInt_inj.mp (by rw [hsz, nI_toInt (by omega)])
      have hb := shL_b hs
      have hnum : luN9_q10 v1 v2 v3 v4 = (kcN_q10 (flM9_q10 (msF v1 30) n) k (shL v3 v4) : Nat) := by unfold luN9_q10; rw [etk, fl_lst_q10 h1.1 hn]
      refine px_crumbs hs (fun y8 hy8 => ?_)
      subst ek
      refine px_cw9_q10 hB7 hR hI45 hn12 (by omega) hy8 hJ7 (fun y9 hy9 => ?_)
      rw [hI45]
      refine px_cchoose_q10 (by rw [nI_toInt (by omega)]; omega) (px_tell ?_ ?_ (fun _ => ⟨Or.inr rfl, FrX.yc (hy9.trans hnum.symm) hd1.symm hok⟩))
      · have := luN_b_q10 (v1 := v1) (v2 := nI k) (v3 := v3) (v4 := v4)
        omega
      · omega
    · have h5 := z.2.2.2
      rw [le_i]; omega
theorem px_mSet_q10 {d : Nat} {v : Int32} (hB : Bd I) (hR : RI R) (hY : isPS v → Q 1 0 I J R) (hN : ¬ isPS v → Q 0 0 I J R) : AM (d + 3) 296 112 [.int v] I J R Q := by
  have z0 : (0 : Int32).toInt = 0 := rfl
  have z12 : (12 : Int32).toInt = 12 := rfl
  have zM : (1073741823 : Int32).toInt = 1073741823 := rfl
  refine w_X12_isSet (px_isInI (lo := 0) (hi := 1073741823) (fun l1 l2 _ => ⟨fun z => absurd z (by decide), fun _ => kpp rfl (sp_X12_sizeOf hB hR (fun x y I2 J2 hB2 p eI eJ eR => ?_))⟩) (fun n1 _ => ⟨fun _ => ⟨Or.inl rfl, hN (fun z => n1.elim (fun y => ?_) (fun y => y ?_))⟩, fun z => absurd rfl z⟩))
  · subst eJ
    obtain ⟨heI, p⟩ := p
    subst heI
    have b1 := ci_le z0 rfl l1
    have b2 := ci_le rfl zM l2
    exact ⟨fun c => ⟨Or.inl rfl, hN (fun z => by have := ci_lt z12 rfl c; have := z.2.2; omega)⟩, fun c => ⟨Or.inr rfl, hY ⟨b1, b2, by have := ci_nlt z12 rfl c; omega⟩⟩⟩
  · have := ci_lt rfl z0 y
    have := z.1
    omega
  · rw [le_i, zM]; exact z.2.1
theorem mf_luck {d : Nat} {v1 v2 v3 v4 : Int32} (hB1 : Bd I1) (hR : RI R) : AM (d + 18) 302 112 [.ref 97, .int v1, .int v2, .int v3, .int v4] I1 J1 R (fun x _ _ J2 _ => FrX 97 2 3 (okL9_q10 v1 v2 v3 v4) (luN9_q10 v1 v2 v3 v4) (luB9_q10 v1 v2) J1 J2 x) := by
  have z0 : (0 : Int32).toInt = 0 := rfl
  have z12 : (12 : Int32).toInt = 12 := rfl
  have hB2 : Bd (uI I1 97 1 0) := Bd.o0 hB1 (show isO 112 97 12 = true from rfl) (by decide) (show bnd 12 1 = none from rfl)
  have hB3 : Bd (uI (uI I1 97 1 0) 97 0 0) := Bd.o0 hB2 (show isO 112 97 12 = true from rfl) (by decide) (show bnd 12 0 = none from rfl)
  have no : ∀ (z : Int32), ¬ okL9_q10 v1 v2 v3 v4 → AM (d + 17) 177 112 [.ref 97, .int z] (uI (uI I1 97 1 0) 97 0 0) J1 R (fun x1 _ _ J9 _ => (x1 = 0 ∨ x1 = 1) → (((x1 : Int32) = 0 ∨ (x1 : Int32) = 1) ∧ FrX 97 2 3 (okL9_q10 v1 v2 v3 v4) (luN9_q10 v1 v2 v3 v4) (luB9_q10 v1 v2) J1 J9 x1)) := fun z hz => w_X12_no ⟨Or.inl rfl, fun _ => ⟨Or.inl rfl, FrX.n hz⟩⟩
  refine w_X12_luck (px_mSet_q10 hB3 hR (fun h1 _ => ⟨fun z => absurd z (by decide), fun _ => px_isInI (lo := 0) (hi := 12) (fun l1 l2 _ => ⟨fun z => absurd z (by decide), fun _ => px_mShare (fun hs _ => ⟨fun _ => kpp rfl (sp_X12_sizeOf hB3 hR (fun x6 y I2 J2 hB4 p eI eJ eR => ?_)), fun z => absurd z (by decide)⟩) (fun hs _ => ⟨fun z => absurd rfl z, fun _ => no 5 (fun z => hs z.2.2.1)⟩)⟩) (fun n1 _ => ⟨fun _ => no 5 (fun z => n1.elim (fun y => ?_) (fun y => y ?_)), fun z => absurd rfl z⟩)⟩) (fun h1 _ => ⟨fun _ => no 5 (fun z => h1 z.1), fun z => absurd rfl z⟩))
  · subst eJ
    obtain ⟨heI, p⟩ := p
    subst heI
    have b1 := ci_le z0 rfl l1
    have b2 := ci_le rfl z12 l2
    refine ⟨fun c4 => ?_, fun c4 => no 8 (fun z => c4 ?_)⟩
    · have c4' := ci_le rfl rfl c4
      have hok : okL9_q10 v1 v2 v3 v4 := ⟨h1, ⟨by omega, by omega⟩, hs, by omega⟩
      have hpn := pcn_nn (s := v1) 30
      obtain ⟨k, ek, etk, hkn, hn12, hd1, hd2⟩ := luc9_q10 (n := (pcn v1 30).toNat) (by omega) hok
      have hb := shL_b hs
      have hnum : luN9_q10 v1 v2 v3 v4 = (kcN_q10 (lst9_q10 (SA v1) 30) k (shL v3 v4) : Nat) := by unfold luN9_q10; rw [etk]
      refine px_shareOf hs (fun y8 hy8 => ?_)
      subst ek
      have e17 : d + 17 = (d + (15 - k)) + k + 2 := by omega
      rw [e17]
      refine px_luk_q10 h1.1 k 30 _ _ _ _ (by omega) (by decide) hy8 (by omega) (fun y9 q0 => ?_)
      have q1 : y9.toInt = luN9_q10 v1 (nI k) v3 v4 := q0.trans hnum.symm
      refine kpp rfl (sp_X12_sizeOf hB3 hR (fun x7 y7 I7 J7 hB7 p7 eI7 eJ7 eR7 => ?_))
      subst eJ7
      obtain ⟨heI7, p7⟩ := p7
      subst heI7
      have hx7 : x7 = nI (pcn v1 30).toNat := Int32.toInt_inj.mp (by rw [nI_toInt (by omega)]; omega)
      rw [hx7]
      refine px_mchoose_q10 (by rw [nI_toInt (by omega)]; omega) (px_frac ?_ ?_ (fun _ => ⟨Or.inr rfl, FrX.ym q1 hd1.symm hok⟩))
      · have := luN_b_q10 (v1 := v1) (v2 := nI k) (v3 := v3) (v4 := v4)
        omega
      · omega
    · have h5 := z.2.2.2
      rw [le_i]; omega
  · have := ci_lt rfl z0 y
    have := z.2.1.1
    omega
  · rw [le_i, z12]; exact z.2.1.2
end FRL
