section PT4x4
set_option maxRecDepth 100000 in
theorem pnN_6 : ∀ b, b < 64 → pnN b 6 = bp b := by decide +kernel
theorem pnN_30 {b0 b1 b2 b3 : Nat} (h0 : b0 < 256) (h1 : b1 < 256) (h2 : b2 < 256) (h3 : b3 < 64) : pnN (n4 b0 b1 b2 b3) 30 = bp b0 + bp b1 + bp b2 + bp b3 := by
  unfold n4
  rw [show (30 : Nat) = 8 + (8 + (8 + 6)) from rfl, pnN_s _ _ h0, pnN_s _ _ h1, pnN_s _ _ h2, pnN_6 _ h3]
  omega
end PT4x4
section PT4x5
/-! ===== how many members a set has ===== -/
/-- how many slices there are of a set, below one -/
noncomputable def pcb (s i : Int32) : Int := if ((s >>> (i &&& 31)) &&& 1) = 1 then 1 else 0
noncomputable def pcn (s : Int32) : Nat → Int
  | 0 => 0
  | k + 1 => pcn s k + pcb s (Int32.ofNat k)
theorem pcb_in (s i : Int32) : 0 ≤ pcb s i ∧ pcb s i ≤ 1 := by unfold pcb; split <;> omega
theorem of_toNat {i : Int32} (h : 0 ≤ i.toInt) : Int32.ofNat i.toInt.toNat = i := by
  have h2 := i32 i
  have h3 : Int32.ofNat i.toInt.toNat = nI i.toInt.toNat := rfl
  rw [h3]
  exact Int32.toInt_inj.mp (by rw [nI_toInt (by omega)]; omega)
theorem pcn_step {s i : Int32} {z w b : Int} (h : w = pcn s i.toInt.toNat) (h0 : 0 ≤ i.toInt) (hz : z = i.toInt + 1) (hb : b = pcb s i) : w + b = pcn s z.toNat := by
  rw [show z.toNat = i.toInt.toNat + 1 by omega]
  show _ = pcn s i.toInt.toNat + pcb s (Int32.ofNat i.toInt.toNat)
  rw [of_toNat h0, h, hb]
theorem pcn_mono {s : Int32} (a : Nat) : ∀ b : Nat, pcn s a ≤ pcn s (a + b) := fun b => by
  induction b with
  | zero => exact Int.le_refl _
  | succ b ih =>
    have h1 : pcn s (a + (b + 1)) = pcn s (a + b) + pcb s (Int32.ofNat (a + b)) := rfl
    have h2 := pcb_in s (Int32.ofNat (a + b))
    omega
theorem pcn_le {s : Int32} {a b : Nat} (h : a ≤ b) : pcn s a ≤ pcn s b := by
  have := pcn_mono (s := s) a (b - a)
  rw [show a + (b - a) = b by omega] at this
  exact this
theorem pcb1 {s i : Int32} (h : ((s >>> (i &&& 31)) &&& 1) = 1) : (1 : Int) = pcb s i := by unfold pcb; rw [if_pos h]
theorem pcb0 {s i : Int32} (h : ¬ ((s >>> (i &&& 31)) &&& 1) = 1) : (0 : Int) = pcb s i := by unfold pcb; rw [if_neg h]
/-! ===== the count of a set's members, both ways ===== -/
theorem sl32 : ∀ n, n < 32 → ((nI n &&& 31).toBitVec.smod 32).toNat = n := by decide +kernel
theorem pcb_nI {n i : Nat} (hn : n < 2 ^ 30) (hi : i < 30) : pcb (nI n) (Int32.ofNat i) = ((n / 2 ^ i % 2 : Nat) : Int) := by
  unfold pcb
  have hd : n / 2 ^ i ≤ n := Nat.div_le_self _ _
  have h : nI n >>> (Int32.ofNat i &&& 31) = nI (n / 2 ^ i) := pk_shrN (by omega) (nI i &&& 31) i (sl32 i (by omega))
  rw [h, pk_andN (by omega) 1 (by decide), show (2 : Nat) ^ 1 = 2 from rfl]
  rcases Nat.mod_two_eq_zero_or_one (n / 2 ^ i) with q | q
  · rw [q, if_neg (by decide)]; rfl
  · rw [q, if_pos (by decide)]; rfl
theorem pcn_nI {n : Nat} (hn : n < 2 ^ 30) : ∀ k, k ≤ 30 → pcn (nI n) k = (pnN n k : Int) := by
  intro k
  induction k with
  | zero => intro _; rfl
  | succ k ih =>
    intro hk
    show pcn (nI n) k + pcb (nI n) (Int32.ofNat k) = ((pnN n k + n / 2 ^ k % 2 : Nat) : Int)
    rw [ih (by omega), pcb_nI hn (by omega)]
    omega
theorem bc_pcn {v : Int32} (h0 : 0 ≤ v.toInt) (h1 : v.toInt ≤ 1073741823) : (bcE (bcD (bcC (bcB (bcA v)))) &&& 63).toInt = pcn v 30 := by
  obtain ⟨n, hn⟩ : ∃ n : Nat, v.toInt = (n : Int) := ⟨v.toInt.toNat, by omega⟩
  have hv : v = nI n := Int32.toInt_inj.mp (by rw [hn]; exact (nI_toInt (by omega)).symm)
  have e : n = n4 (n % 256) (n / 256 % 256) (n / 65536 % 256) (n / 16777216) := by unfold n4; omega
  have h30 : n < 2 ^ 30 := by omega
  have k0 : n % 256 < 256 := by omega
  have k1 : n / 256 % 256 < 256 := by omega
  have k2 : n / 65536 % 256 < 256 := by omega
  have k3 : n / 16777216 < 64 := by omega
  have b := bc_nI k0 k1 k2 (show n / 16777216 < 256 by omega)
  have p := pnN_30 k0 k1 k2 k3
  rw [← e] at b p
  have m0 := (bl3 _ k0).2.2.2.1
  have m1 := (bl3 _ k1).2.2.2.1
  have m2 := (bl3 _ k2).2.2.2.1
  have m3 := (bl3 _ (show n / 16777216 < 256 by omega)).2.2.2.1
  rw [hv, b, pcn_nI h30 30 (Nat.le_refl _), p]
  exact nI_toInt (by omega)
theorem sp_J6_bitCount_0f7a4 {d : Nat} {Q : Qt} {v0 : Int32} {I : Im} {J : Jm} {R : Rm} (hB0 : Bd I) (hR0 : RI R) (hQ : ∀ (x : Int32) (y : Int64) (I2 : Im) (J2 : Jm), Bd I2 → (I = I2 ∧ (0 ≤ v0.toInt ∧ v0.toInt ≤ 1073741823 → x.toInt = pcn v0 30)) → Q x y I2 J2 R) : AM (d + 1) 319 112 [.int v0] I J R Q := w_J6_bitCount_0f7a4 (hQ _ 0 _ _ hB0 ⟨rfl, fun h => bc_pcn h.1 h.2⟩)
end PT4x5
section PT4x6
/-! ===== the game of the plate, as both sides reckon it ===== -/
theorem nI_or (a b : Nat) : nI a ||| nI b = nI (a ||| b) := by
  apply Int32.toBitVec_inj.1
  show BitVec.ofNat 32 a ||| BitVec.ofNat 32 b = BitVec.ofNat 32 (a ||| b)
  apply BitVec.eq_of_getLsbD_eq
  intro i hi
  simp [hi]
theorem sh1_N : ∀ k, k < 31 → (1 : Int32) <<< (nI k &&& 31) = nI (2 ^ k) := by decide +kernel
theorem nI_inj {a b : Nat} (ha : a < 2 ^ 31) (hb : b < 2 ^ 31) (h : nI a = nI b) : a = b := by
  have h1 := congrArg Int32.toInt h
  rw [nI_toInt (by omega), nI_toInt (by omega)] at h1
  omega
theorem nI_ofN {v : Int32} (h : 0 ≤ v.toInt) : v = nI v.toInt.toNat := (of_toNat h).symm
theorem and_p0 {M k : Nat} (h : M.testBit k = false) : M &&& 2 ^ k = 0 := by
  apply Nat.eq_of_testBit_eq
  intro i
  rw [Nat.testBit_and, Nat.testBit_two_pow, Nat.zero_testBit]
  by_cases q : k = i
  · subst q; simp [h]
  · simp [q]
theorem and_p1 {M k : Nat} (h : M.testBit k = true) : M &&& 2 ^ k = 2 ^ k := by
  apply Nat.eq_of_testBit_eq
  intro i
  rw [Nat.testBit_and, Nat.testBit_two_pow]
  by_cases q : k = i
  · subst q; simp [h]
  · simp [q]
theorem tb_or2 {M k : Nat} : (M ||| 2 ^ k).testBit k = true := by
  rw [Nat.testBit_or, Nat.testBit_two_pow]; simp
theorem tb_ne {M k i : Nat} (h : ¬ i = k) : (M ||| 2 ^ k).testBit i = M.testBit i := by
  rw [Nat.testBit_or, Nat.testBit_two_pow]
  simp [show ¬ k = i from fun q => h q.symm]
theorem or_lt {M k n : Nat} (h : M < 2 ^ n) (hk : k < n) : M ||| 2 ^ k < 2 ^ n := Nat.or_lt_two_pow h (Nat.pow_lt_pow_right (by decide) hk)
/-- the scribe's test whether a slice lies there -/
theorem orI {v1 v2 : Int32} (h1 : 0 ≤ v1.toInt) (h2 : 0 ≤ v2.toInt ∧ v2.toInt < 31) : v1 ||| ((1 : Int32) <<< (v2 &&& 31)) = nI (v1.toInt.toNat ||| 2 ^ v2.toInt.toNat) := by
  have e1 := nI_ofN h1
  have e2 := nI_ofN h2.1
  have e3 : (1 : Int32) <<< (v2 &&& 31) = nI (2 ^ v2.toInt.toNat) := by
    have := sh1_N v2.toInt.toNat (by omega)
    rwa [← e2] at this
  rw [e3]
  conv => lhs; rw [e1]
  exact nI_or _ _
/-- a reference's test whether a slice lies there -/
theorem isOf_iff {v1 v2 : Int32} (h1 : 0 ≤ v1.toInt) (h2 : 0 ≤ v2.toInt ∧ v2.toInt < 31) : ((v1 >>> (v2 &&& 31)) &&& 1) = 1 ↔ v1.toInt.toNat.testBit v2.toInt.toNat = true := by
  have i1 := i32 v1
  have hd : v1.toInt.toNat / 2 ^ v2.toInt.toNat ≤ v1.toInt.toNat := Nat.div_le_self _ _
  have h : v1 >>> (v2 &&& 31) = nI (v1.toInt.toNat / 2 ^ v2.toInt.toNat) := by
    have := pk_shrN (n := v1.toInt.toNat) (by omega) (nI v2.toInt.toNat &&& 31) v2.toInt.toNat (sl32 v2.toInt.toNat (by omega))
    rw [← nI_ofN h1, ← nI_ofN h2.1] at this
    exact this
  rw [h, pk_andN (by omega) 1 (by decide), show (2 : Nat) ^ 1 = 2 from rfl, Nat.testBit_eq_decide_div_mod_eq, decide_eq_true_eq]
  rcases Nat.mod_two_eq_zero_or_one (v1.toInt.toNat / 2 ^ v2.toInt.toNat) with q | q
  · rw [q]
    exact ⟨fun z => absurd z (by decide), fun z => absurd z (by decide)⟩
  · rw [q]
    exact ⟨fun _ => rfl, fun _ => rfl⟩
/-- and of a set, whether a slice is of it -/
theorem isIn_iff {v1 v2 : Int32} (h1 : 0 ≤ v1.toInt) (h2 : 0 ≤ v2.toInt ∧ v2.toInt < 31) : v1 &&& ((1 : Int32) <<< (v2 &&& 31)) = 0 ↔ v1.toInt.toNat.testBit v2.toInt.toNat = false := by
  have i1 := i32 v1
  have e1 := nI_ofN h1
  have e2 := nI_ofN h2.1
  have e3 : (1 : Int32) <<< (v2 &&& 31) = nI (2 ^ v2.toInt.toNat) := by
    have := sh1_N v2.toInt.toNat (by omega)
    rwa [← e2] at this
  have e4 : v1 &&& ((1 : Int32) <<< (v2 &&& 31)) = nI (v1.toInt.toNat &&& 2 ^ v2.toInt.toNat) := by
    rw [e3]
    conv => lhs; rw [e1]
    exact nI_and _ _
  rw [e4]
  cases hb : v1.toInt.toNat.testBit v2.toInt.toNat with
  | false => exact ⟨fun _ => rfl, fun _ => by rw [and_p0 hb]; rfl⟩
  | true =>
    refine ⟨fun q => ?_, fun q => by cases q⟩
    rw [and_p1 hb] at q
    have h3 : 2 ^ v2.toInt.toNat = 0 := nI_inj (b := 0) (Nat.pow_lt_pow_right (by decide) (by omega)) (by decide) q
    have h4 : 0 < 2 ^ v2.toInt.toNat := Nat.pow_pos (by decide)
    omega
/-- a slice's crumbs; what those of a plate are together -/
noncomputable def prt (s : Int32) : Int := if 1 ≤ s.toInt then 2329089562800 / s.toInt else 0
noncomputable def smN (f : Nat → Int32) : Nat → Nat → Int
  | 0, _ => 0
  | k + 1, M => smN f k M + (if M.testBit k then prt (f k) else 0)
theorem tn_nI {X : Nat} (h : X < 2 ^ 31) : Int32.toNatClampNeg (nI X) = X := by
  show (nI X).toInt.toNat = X
  rw [nI_toInt h]; omega
theorem nI_k1 (k : Nat) : nI k + 1 = nI (k + 1) := nI_add k 1
theorem pcb_tb {v : Int32} {i : Nat} (h : 0 ≤ v.toInt) (hi : i < 31) : pcb v (Int32.ofNat i) = if v.toInt.toNat.testBit i = true then 1 else 0 := by
  have h2 := isOf_iff (v1 := v) (v2 := nI i) h (by rw [nI_toInt (by omega)]; omega)
  rw [nI_toInt (by omega), Int.toNat_natCast] at h2
  unfold pcb
  change (if ((v >>> (nI i &&& 31)) &&& 1) = 1 then (1 : Int) else 0) = _
  by_cases q : v.toInt.toNat.testBit i = true
  · rw [if_pos q, if_pos (h2.mpr q)]
  · rw [if_neg q, if_neg (fun z => q (h2.mp z))]
end PT4x6
section PT4x7
/-! ===== a text's tokens, as both readers take them ===== -/
noncomputable def isBl (x : Int32) : Bool := decide (x = 32) || decide (x = 10)
noncomputable def isLe (x : Int32) : Bool := !decide (x < 97) && !decide (122 < x)
noncomputable def isDi (x : Int32) : Bool := !decide (x < 48) && !decide (57 < x)
noncomputable def isSg (x : Int32) : Bool := decide (x = 59) || (decide (x = 60) || (decide (x = 62) || decide (x = 61)))
/-- how far a row of bytes of a kind goes -/
noncomputable def rnE (p : Int32 → Bool) (T : Nat → Int32) (e : Nat) : Nat → Nat → Nat
  | 0, i => i
  | f + 1, i => if i < e then (if p (T i) = true then rnE p T e f (i + 1) else i) else i
noncomputable def rnX (p : Int32 → Bool) (T : Nat → Int32) (e i : Nat) : Nat := rnE p T e (e - i) i
/-- letters as a number; 0 for more than eight -/
noncomputable def leN (T : Nat → Int32) (s : Nat) : Nat → Int64
  | 0 => 0
  | k + 1 => if 8 ≤ k then 0 else leN T s k * 32 + Int32.toInt64 ((T (s + k) - 97) + 1)
/-- digits as a number; 0 for more than four -/
noncomputable def diN (T : Nat → Int32) (s : Nat) : Nat → Int32
  | 0 => 0
  | k + 1 => if 4 ≤ k then 0 else diN T s k * 10 + (T (s + k) - 48)
theorem leN_s (T : Nat → Int32) (s k : Nat) : leN T s (k + 1) = if 8 ≤ k then 0 else leN T s k * 32 + Int32.toInt64 ((T (s + k) - 97) + 1) := rfl
theorem diN_s (T : Nat → Int32) (s k : Nat) : diN T s (k + 1) = if 4 ≤ k then 0 else diN T s k * 10 + (T (s + k) - 48) := rfl
/-- a word's number: the last one that it is -/
noncomputable def wiN (w : Int64) : Nat → Int32
  | 0 => 0
  | k + 1 => if rsv.getD (k + 1) 0 = w then nI (k + 1) else wiN w k
/-- a token: where it starts, kind (0 none, 1 word, 2 number, 3 sign, 4 no token), number or sign, letters, where it ends -/
noncomputable abbrev Tok : Type := Nat × Nat × Int32 × Int64 × Nat
noncomputable def tS (t : Tok) : Nat := t.1
noncomputable def tK (t : Tok) : Nat := t.2.1
noncomputable def tV (t : Tok) : Int32 := t.2.2.1
noncomputable def tW (t : Tok) : Int64 := t.2.2.2.1
noncomputable def tB (t : Tok) : Nat := t.2.2.2.2
/-- what stands from s on, where no blank stands -/
noncomputable def tokW (T : Nat → Int32) (e s : Nat) : Tok :=
  if e ≤ s then (s, 0, 0, 0, s)
  else if isLe (T s) = true then (s, 1, 0, leN T s (rnX isLe T e s - s), rnX isLe T e s)
  else if isDi (T s) = true then (s, (if rnX isDi T e s - s ≤ 4 then 2 else 4), diN T s (rnX isDi T e s - s), 0, rnX isDi T e s)
  else (s, (if isSg (T s) = true then 3 else 4), T s, 0, s + 1)
noncomputable def tok (T : Nat → Int32) (e a : Nat) : Tok := tokW T e (rnX isBl T e a)
/-- the token's word, -1 for what is none -/
noncomputable def tI (t : Tok) : Int32 := if tK t = 1 then wiN (tW t) 21 else -1
theorem rnE_in {p : Int32 → Bool} {T : Nat → Int32} {e : Nat} : ∀ {f i : Nat}, i ≤ e → i ≤ rnE p T e f i ∧ rnE p T e f i ≤ e := by
  intro f
  induction f with
  | zero => intro i h; exact ⟨Nat.le_refl _, h⟩
  | succ f ih =>
    intro i h
    unfold rnE
    by_cases q : i < e
    · rw [if_pos q]
      by_cases q2 : p (T i) = true
      · rw [if_pos q2]
        have := ih (i := i + 1) (by omega)
        omega
      · rw [if_neg q2]; omega
    · rw [if_neg q]; omega
theorem rnX_in {p : Int32 → Bool} {T : Nat → Int32} {e i : Nat} (h : i ≤ e) : i ≤ rnX p T e i ∧ rnX p T e i ≤ e := rnE_in h
/-- a step on -/
theorem rnX_s {p : Int32 → Bool} {T : Nat → Int32} {e i : Nat} (h : i < e) (hp : p (T i) = true) : rnX p T e i = rnX p T e (i + 1) := by
  unfold rnX
  rw [show e - i = (e - (i + 1)) + 1 by omega]
  conv => lhs; unfold rnE
  rw [if_pos h, if_pos hp]
/-- the end -/
theorem rnX_z {p : Int32 → Bool} {T : Nat → Int32} {e i : Nat} (h : i < e → p (T i) = false) : rnX p T e i = i := by
  unfold rnX
  by_cases q : i < e
  · rw [show e - i = (e - (i + 1)) + 1 by omega]
    unfold rnE
    rw [if_pos q, if_neg (by rw [h q]; decide)]
  · rw [show e - i = 0 by omega]; rfl
theorem isLe_t {x : Int32} : isLe x = true ↔ ¬ x < 97 ∧ ¬ 122 < x := by
  unfold isLe
  rw [Bool.and_eq_true, Bool.not_eq_true', Bool.not_eq_true', decide_eq_false_iff_not, decide_eq_false_iff_not]
theorem isDi_t {x : Int32} : isDi x = true ↔ ¬ x < 48 ∧ ¬ 57 < x := by
  unfold isDi
  rw [Bool.and_eq_true, Bool.not_eq_true', Bool.not_eq_true', decide_eq_false_iff_not, decide_eq_false_iff_not]
theorem isBl_t {x : Int32} : isBl x = true ↔ x = 32 ∨ x = 10 := by
  unfold isBl
  rw [Bool.or_eq_true, decide_eq_true_eq, decide_eq_true_eq]
theorem isSg_t {x : Int32} : isSg x = true ↔ x = 59 ∨ x = 60 ∨ x = 62 ∨ x = 61 := by
  unfold isSg
  rw [Bool.or_eq_true, Bool.or_eq_true, Bool.or_eq_true, decide_eq_true_eq, decide_eq_true_eq, decide_eq_true_eq, decide_eq_true_eq]
theorem isSg_no {x : Int32} (h1 : ¬ x = 59) (h2 : ¬ x = 60) (h3 : ¬ x = 62) (h4 : ¬ x = 61) : ¬ isSg x = true := fun z => by
  rcases isSg_t.mp z with z | z | z | z
  · exact h1 z
  · exact h2 z
  · exact h3 z
  · exact h4 z
theorem bf_of {b : Bool} (h : ¬ b = true) : b = false := by
  cases b
  · rfl
  · exact absurd rfl h
/-- where the token starts -/
theorem tok_s {T : Nat → Int32} {e a : Nat} (h : a ≤ e) : tS (tok T e a) = rnX isBl T e a ∧ a ≤ tS (tok T e a) ∧ tS (tok T e a) ≤ e := by
  have h1 := rnX_in (p := isBl) (T := T) h
  have key : tS (tok T e a) = rnX isBl T e a := by
    unfold tok tokW
    split
    · rfl
    · split
      · rfl
      · split <;> rfl
  rw [key]
  exact ⟨rfl, h1.1, h1.2⟩
theorem tok_b {T : Nat → Int32} {e a : Nat} (h : a ≤ e) : tS (tok T e a) ≤ tB (tok T e a) ∧ tB (tok T e a) ≤ e ∧ (¬ tK (tok T e a) = 0 → tS (tok T e a) < tB (tok T e a)) ∧ (tK (tok T e a) = 0 ↔ tS (tok T e a) = e) := by
  have h1 := rnX_in (p := isBl) (T := T) h
  unfold tok tokW
  generalize rnX isBl T e a = s at h1 ⊢
  split
  · exact ⟨Nat.le_refl _, by show s ≤ e; omega, fun q => absurd rfl q, fun _ => by show s = e; omega, fun _ => rfl⟩
  · have hs : s < e := by omega
    split
    · rename_i q
      have h2 := rnX_in (p := isLe) (T := T) (i := s + 1) (e := e) hs
      have h3 := rnX_s (p := isLe) hs q
      exact ⟨by show s ≤ rnX isLe T e s; omega, by show rnX isLe T e s ≤ e; omega, fun _ => by show s < rnX isLe T e s; omega, fun q => absurd (show (1 : Nat) = 0 from q) (by decide), fun q => absurd (show s = e from q) (by omega)⟩
    · split
      · rename_i q
        have h2 := rnX_in (p := isDi) (T := T) (i := s + 1) (e := e) hs
        have h3 := rnX_s (p := isDi) hs q
        refine ⟨by show s ≤ rnX isDi T e s; omega, by show rnX isDi T e s ≤ e; omega, fun _ => by show s < rnX isDi T e s; omega, fun q => ?_, fun q => absurd (show s = e from q) (by omega)⟩
        change (if rnX isDi T e s - s ≤ 4 then 2 else 4) = 0 at q
        split at q <;> omega
      · refine ⟨by show s ≤ s + 1; omega, by show s + 1 ≤ e; omega, fun _ => by show s < s + 1; omega, fun q => ?_, fun q => absurd (show s = e from q) (by omega)⟩
        change (if isSg (T s) = true then 3 else 4) = 0 at q
        split at q <;> omega
theorem tok_k {T : Nat → Int32} {e a : Nat} : tK (tok T e a) ≤ 4 := by
  unfold tok tokW
  generalize rnX isBl T e a = s
  split
  · show 0 ≤ 4; omega
  · split
    · show 1 ≤ 4; omega
    · split
      · show (if rnX isDi T e s - s ≤ 4 then 2 else 4) ≤ 4
        split <;> omega
      · show (if isSg (T s) = true then 3 else 4) ≤ 4
        split <;> omega
end PT4x7
