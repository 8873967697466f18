/-! ===== the game of the plate, as both sides reckon it ===== -/
theorem nI_or (a b : Nat) : nI a ||| nI b = nI (a ||| b) := by
  apply Int32.toBitVec_inj.1
  show BitVec.ofNat 32 a ||| BitVec.ofNat 32 b = BitVec.ofNat 32 (a ||| b)
  apply BitVec.eq_of_getLsbD_eq
  intro i hi
  simp [hi]
theorem sh1_N : ∀ k, k < 31 → (1 : Int32) <<< (nI k &&& 31) = nI (2 ^ k) := by decide +kernel
theorem nI_inj {a b : Nat} (ha : a < 2 ^ 31) (hb : b < 2 ^ 31) (h : nI a = nI b) : a = b := by
  have h1 := congrArg Int32.toInt h
  rw [nI_toInt (by omega), nI_toInt (by omega)] at h1
  omega
theorem nI_ofN {v : Int32} (h : 0 ≤ v.toInt) : v = nI v.toInt.toNat := (of_toNat h).symm
theorem tb_or {M k : Nat} (h : M.testBit k = true) : M ||| 2 ^ k = M := by
  apply Nat.eq_of_testBit_eq
  intro i
  rw [Nat.testBit_or, Nat.testBit_two_pow]
  by_cases q : k = i
  · subst q; simp [h]
  · simp [q]
theorem and_p0 {M k : Nat} (h : M.testBit k = false) : M &&& 2 ^ k = 0 := by
  apply Nat.eq_of_testBit_eq
  intro i
  rw [Nat.testBit_and, Nat.testBit_two_pow, Nat.zero_testBit]
  by_cases q : k = i
  · subst q; simp [h]
  · simp [q]
theorem and_p1 {M k : Nat} (h : M.testBit k = true) : M &&& 2 ^ k = 2 ^ k := by
  apply Nat.eq_of_testBit_eq
  intro i
  rw [Nat.testBit_and, Nat.testBit_two_pow]
  by_cases q : k = i
  · subst q; simp [h]
  · simp [q]
theorem tb_or2 {M k : Nat} : (M ||| 2 ^ k).testBit k = true := by
  rw [Nat.testBit_or, Nat.testBit_two_pow]; simp
theorem tb_ne {M k i : Nat} (h : ¬ i = k) : (M ||| 2 ^ k).testBit i = M.testBit i := by
  rw [Nat.testBit_or, Nat.testBit_two_pow]
  simp [show ¬ k = i from fun q => h q.symm]
theorem or_gt {M k : Nat} (h : M.testBit k = false) : M < M ||| 2 ^ k := by
  have h1 : M ≤ M ||| 2 ^ k := Nat.left_le_or
  have h2 : ¬ M = M ||| 2 ^ k := fun q => by
    have := tb_or2 (M := M) (k := k)
    rw [← q, h] at this
    cases this
  omega
theorem or_lt {M k n : Nat} (h : M < 2 ^ n) (hk : k < n) : M ||| 2 ^ k < 2 ^ n := Nat.or_lt_two_pow h (Nat.pow_lt_pow_right (by decide) hk)
/-- the scribe's test whether a slice lies there -/
theorem orI {v1 v2 : Int32} (h1 : 0 ≤ v1.toInt) (h2 : 0 ≤ v2.toInt ∧ v2.toInt < 31) : v1 ||| ((1 : Int32) <<< (v2 &&& 31)) = nI (v1.toInt.toNat ||| 2 ^ v2.toInt.toNat) := by
  have e1 := nI_ofN h1
  have e2 := nI_ofN h2.1
  have e3 : (1 : Int32) <<< (v2 &&& 31) = nI (2 ^ v2.toInt.toNat) := by
    have := sh1_N v2.toInt.toNat (by omega)
    rwa [← e2] at this
  rw [e3]
  conv => lhs; rw [e1]
  exact nI_or _ _
theorem orI_iff {v1 v2 : Int32} (h1 : 0 ≤ v1.toInt) (h2 : 0 ≤ v2.toInt ∧ v2.toInt < 31) : v1 ||| ((1 : Int32) <<< (v2 &&& 31)) = v1 ↔ v1.toInt.toNat.testBit v2.toInt.toNat = true := by
  have i1 := i32 v1
  rw [orI h1 h2]
  constructor
  · intro q
    have lt : v1.toInt.toNat ||| 2 ^ v2.toInt.toNat < 2 ^ 31 := or_lt (by omega) (by omega)
    have e : nI (v1.toInt.toNat ||| 2 ^ v2.toInt.toNat) = nI v1.toInt.toNat := q.trans (nI_ofN h1)
    rw [← nI_inj lt (by omega) e]
    exact tb_or2
  · intro q
    rw [tb_or q]; exact (nI_ofN h1).symm
/-- a reference's test whether a slice lies there -/
theorem isOf_iff {v1 v2 : Int32} (h1 : 0 ≤ v1.toInt) (h2 : 0 ≤ v2.toInt ∧ v2.toInt < 31) : ((v1 >>> (v2 &&& 31)) &&& 1) = 1 ↔ v1.toInt.toNat.testBit v2.toInt.toNat = true := by
  have i1 := i32 v1
  have hd : v1.toInt.toNat / 2 ^ v2.toInt.toNat ≤ v1.toInt.toNat := Nat.div_le_self _ _
  have h : v1 >>> (v2 &&& 31) = nI (v1.toInt.toNat / 2 ^ v2.toInt.toNat) := by
    have := pk_shrN (n := v1.toInt.toNat) (by omega) (nI v2.toInt.toNat &&& 31) v2.toInt.toNat (sl32 v2.toInt.toNat (by omega))
    rw [← nI_ofN h1, ← nI_ofN h2.1] at this
    exact this
  rw [h, pk_andN (by omega) 1 (by decide), show (2 : Nat) ^ 1 = 2 from rfl, Nat.testBit_eq_decide_div_mod_eq, decide_eq_true_eq]
  rcases Nat.mod_two_eq_zero_or_one (v1.toInt.toNat / 2 ^ v2.toInt.toNat) with q | q
  · rw [q]
    exact ⟨fun z => absurd z (by decide), fun z => absurd z (by decide)⟩
  · rw [q]
    exact ⟨fun _ => rfl, fun _ => rfl⟩
/-- and of a set, whether a slice is of it -/
theorem isIn_iff {v1 v2 : Int32} (h1 : 0 ≤ v1.toInt) (h2 : 0 ≤ v2.toInt ∧ v2.toInt < 31) : v1 &&& ((1 : Int32) <<< (v2 &&& 31)) = 0 ↔ v1.toInt.toNat.testBit v2.toInt.toNat = false := by
  have i1 := i32 v1
  have e1 := nI_ofN h1
  have e2 := nI_ofN h2.1
  have e3 : (1 : Int32) <<< (v2 &&& 31) = nI (2 ^ v2.toInt.toNat) := by
    have := sh1_N v2.toInt.toNat (by omega)
    rwa [← e2] at this
  have e4 : v1 &&& ((1 : Int32) <<< (v2 &&& 31)) = nI (v1.toInt.toNat &&& 2 ^ v2.toInt.toNat) := by
    rw [e3]
    conv => lhs; rw [e1]
    exact nI_and _ _
  rw [e4]
  cases hb : v1.toInt.toNat.testBit v2.toInt.toNat with
  | false => exact ⟨fun _ => rfl, fun _ => by rw [and_p0 hb]; rfl⟩
  | true =>
    refine ⟨fun q => ?_, fun q => by cases q⟩
    rw [and_p1 hb] at q
    have h3 : 2 ^ v2.toInt.toNat = 0 := nI_inj (b := 0) (Nat.pow_lt_pow_right (by decide) (by omega)) (by decide) q
    have h4 : 0 < 2 ^ v2.toInt.toNat := Nat.pow_pos (by decide)
    omega
/-- a slice's crumbs; what those of a plate are together -/
def prt (s : Int32) : Int := if 1 ≤ s.toInt then 2329089562800 / s.toInt else 0
theorem prt_in (s : Int32) : 0 ≤ prt s ∧ prt s ≤ 2329089562800 := by
  unfold prt
  split
  · next h =>
    refine ⟨Int.ediv_nonneg (by decide) (by omega), ?_⟩
    have := Int.ediv_le_self (a := 2329089562800) s.toInt (by decide)
    exact this
  · exact ⟨Int.le_refl _, by decide⟩
def smN (f : Nat → Int32) : Nat → Nat → Int
  | 0, _ => 0
  | k + 1, M => smN f k M + (if M.testBit k then prt (f k) else 0)
theorem smN_in (f : Nat → Int32) : ∀ n M, 0 ≤ smN f n M ∧ smN f n M ≤ 2329089562800 * n := by
  intro n M
  induction n with
  | zero => exact ⟨Int.le_refl _, Int.le_refl _⟩
  | succ n ih =>
    unfold smN
    have := prt_in (f n)
    split <;> omega
theorem smN_c {f g : Nat → Int32} : ∀ {n M}, (∀ k, k < n → f k = g k) → smN f n M = smN g n M := by
  intro n M
  induction n with
  | zero => intro _; rfl
  | succ n ih =>
    intro h
    unfold smN
    rw [ih (fun k hk => h k (by omega)), h n (by omega)]
theorem smN_0 (f : Nat → Int32) : ∀ n, smN f n 0 = 0 := by
  intro n
  induction n with
  | zero => rfl
  | succ n ih =>
    unfold smN
    rw [ih, Nat.zero_testBit]; rfl
theorem smN_hi {f : Nat → Int32} {n : Nat} : ∀ {k m : Nat}, k ≤ n → smN f k (2 ^ n + m) = smN f k m := by
  intro k m
  induction k with
  | zero => intro _; rfl
  | succ k ih =>
    intro h
    unfold smN
    rw [ih (by omega), Nat.testBit_two_pow_add_gt (by omega)]
theorem smN_new {f : Nat → Int32} {n m : Nat} (h : m < 2 ^ n) : smN f (n + 1) (2 ^ n + m) = smN f n m + prt (f n) := by
  show smN f n (2 ^ n + m) + (if (2 ^ n + m).testBit n then prt (f n) else 0) = _
  rw [smN_hi (Nat.le_refl _), Nat.testBit_two_pow_add_eq, Nat.testBit_lt_two_pow h]
  rfl
theorem smN_old {f : Nat → Int32} {n m : Nat} (h : m < 2 ^ n) : smN f (n + 1) m = smN f n m := by
  show smN f n m + (if m.testBit n then prt (f n) else 0) = _
  rw [Nat.testBit_lt_two_pow h]
  exact Int.add_zero _
theorem smN_or {f : Nat → Int32} {k M : Nat} (hb : M.testBit k = false) : ∀ n, smN f n (M ||| 2 ^ k) = smN f n M + (if k < n then prt (f k) else 0) := by
  intro n
  induction n with
  | zero => rfl
  | succ n ih =>
    unfold smN
    rw [ih]
    by_cases q : n = k
    · subst q
      rw [tb_or2, hb, if_neg (Nat.lt_irrefl _), if_pos (Nat.lt_succ_self _)]
      simp
    · rw [tb_ne q]
      by_cases q2 : k < n
      · rw [if_pos q2, if_pos (show k < n + 1 by omega)]; omega
      · rw [if_neg q2, if_neg (show ¬ k < n + 1 by omega)]; omega
/-- the least place at which something holds; -1: at none -/
def LW (n : Nat) (c : Nat → Prop) (x : Int) : Prop := (x = -1 ∧ ∀ k, k < n → ¬ c k) ∨ (0 ≤ x ∧ x < n ∧ c x.toNat ∧ ∀ k, k < x.toNat → ¬ c k)
theorem LW.eq {n : Nat} {c d : Nat → Prop} {x y : Int} (h : LW n c x) (g : LW n d y) (e : ∀ k, k < n → (c k ↔ d k)) : x = y := by
  rcases h with ⟨h1, h2⟩ | ⟨h1, h2, h3, h4⟩
  · rcases g with ⟨g1, g2⟩ | ⟨g1, g2, g3, g4⟩
    · omega
    · exact absurd ((e _ (by omega)).mpr g3) (h2 _ (by omega))
  · rcases g with ⟨g1, g2⟩ | ⟨g1, g2, g3, g4⟩
    · exact absurd ((e _ (by omega)).mp h3) (g2 _ (by omega))
    · rcases Nat.lt_trichotomy x.toNat y.toNat with q | q | q
      · exact absurd ((e _ (by omega)).mp h3) (g4 _ q)
      · omega
      · exact absurd ((e _ (by omega)).mpr g3) (h4 _ q)
/-- who is to move from a plate wins: what a table says that was filled from the fullest plate down -/
def WinR (f : Nat → Int32) (n : Nat) (W : Nat → Prop) : Prop := ∀ M, 0 < M → M < 2 ^ n → smN f n M ≤ 2329089562800 → (W M ↔ ∃ k, k < n ∧ M.testBit k = false ∧ smN f n (M ||| 2 ^ k) ≤ 2329089562800 ∧ ¬ W (M ||| 2 ^ k))
theorem WinR.eq {f : Nat → Int32} {n : Nat} {V W : Nat → Prop} (h : WinR f n V) (g : WinR f n W) : ∀ d M, 2 ^ n - M ≤ d → 0 < M → M < 2 ^ n → smN f n M ≤ 2329089562800 → (V M ↔ W M) := by
  intro d
  induction d with
  | zero => intro M h1 h2 h3; omega
  | succ d ih =>
    intro M h1 h2 h3 h4
    have key : ∀ k, k < n → M.testBit k = false → smN f n (M ||| 2 ^ k) ≤ 2329089562800 → (V (M ||| 2 ^ k) ↔ W (M ||| 2 ^ k)) := by
      intro k hk hb hs
      have := or_gt hb
      exact ih _ (by omega) (by omega) (or_lt h3 hk) hs
    rw [h M h2 h3 h4, g M h2 h3 h4]
    constructor
    · rintro ⟨k, hk, hb, hs, hn⟩
      exact ⟨k, hk, hb, hs, fun q => hn ((key k hk hb hs).mpr q)⟩
    · rintro ⟨k, hk, hb, hs, hn⟩
      exact ⟨k, hk, hb, hs, fun q => hn ((key k hk hb hs).mp q)⟩
/-- so both come to the same first place -/
theorem LW.win {f : Nat → Int32} {n : Nat} {V W : Nat → Prop} {x y : Int} (h : WinR f n V) (g : WinR f n W) (hx : LW n (fun k => smN f n (2 ^ k) ≤ 2329089562800 ∧ ¬ V (2 ^ k)) x) (hy : LW n (fun k => smN f n (2 ^ k) ≤ 2329089562800 ∧ ¬ W (2 ^ k)) y) : x = y := by
  refine hx.eq hy (fun k hk => ?_)
  have hp : 0 < 2 ^ k := Nat.pow_pos (by decide)
  have hl : 2 ^ k < 2 ^ n := Nat.pow_lt_pow_right (by decide) hk
  constructor
  · rintro ⟨a, b⟩
    exact ⟨a, fun q => b ((h.eq g _ _ (Nat.le_refl _) hp hl a).mpr q)⟩
  · rintro ⟨a, b⟩
    exact ⟨a, fun q => b ((h.eq g _ _ (Nat.le_refl _) hp hl a).mp q)⟩
/-- the members of a set, in their order -/
def msF (v : Int32) : Nat → Nat → Int32
  | 0, _ => 0
  | d + 1, k => if pcb v (Int32.ofNat d) = 1 ∧ (k : Int) = pcn v d then Int32.ofNat (d + 1) else msF v d k
theorem msF_in (v : Int32) : ∀ (d k : Nat), d ≤ 30 → (k : Int) < pcn v d → 1 ≤ (msF v d k).toInt ∧ (msF v d k).toInt ≤ 30 := by
  intro d
  induction d with
  | zero => intro k _ h; exact absurd h (by show ¬ (k : Int) < 0; omega)
  | succ d ih =>
    intro k hd h
    have hs : pcn v (d + 1) = pcn v d + pcb v (Int32.ofNat d) := rfl
    have hb := pcb_in v (Int32.ofNat d)
    unfold msF
    by_cases q : pcb v (Int32.ofNat d) = 1 ∧ (k : Int) = pcn v d
    · rw [if_pos q, show Int32.ofNat (d + 1) = nI (d + 1) from rfl, nI_toInt (by omega)]
      omega
    · rw [if_neg q]
      refine ih k (by omega) ?_
      by_cases q2 : pcb v (Int32.ofNat d) = 1
      · have : ¬ (k : Int) = pcn v d := fun z => q ⟨q2, z⟩
        omega
      · omega
theorem msF_new {v : Int32} {d : Nat} (h : pcb v (Int32.ofNat d) = 1) : msF v (d + 1) (pcn v d).toNat = Int32.ofNat (d + 1) := by
  unfold msF
  have := pcn_nn (s := v) d
  rw [if_pos ⟨h, by omega⟩]
theorem msF_old {v : Int32} {d k : Nat} (h : (k : Int) < pcn v d) : msF v (d + 1) k = msF v d k := by
  conv => lhs; unfold msF
  rw [if_neg (fun q => by omega)]
theorem msF_le {v : Int32} {k : Nat} : ∀ {d e : Nat}, d ≤ e → (k : Int) < pcn v d → msF v e k = msF v d k := by
  intro d e
  induction e with
  | zero => intro h _; rw [show d = 0 by omega]
  | succ e ih =>
    intro h hk
    by_cases q : d = e + 1
    · rw [q]
    · have h1 : (k : Int) < pcn v e := by have := pcn_le (s := v) (a := d) (b := e) (by omega); omega
      rw [msF_old h1]; exact ih (by omega) hk
theorem tn_nI {X : Nat} (h : X < 2 ^ 31) : Int32.toNatClampNeg (nI X) = X := by
  show (nI X).toInt.toNat = X
  rw [nI_toInt h]; omega
theorem nI_k1 (k : Nat) : nI k + 1 = nI (k + 1) := nI_add k 1
theorem pcb_tb {v : Int32} {i : Nat} (h : 0 ≤ v.toInt) (hi : i < 31) : pcb v (Int32.ofNat i) = if v.toInt.toNat.testBit i = true then 1 else 0 := by
  have h2 := isOf_iff (v1 := v) (v2 := nI i) h (by rw [nI_toInt (by omega)]; omega)
  rw [nI_toInt (by omega), Int.toNat_natCast] at h2
  unfold pcb
  change (if ((v >>> (nI i &&& 31)) &&& 1) = 1 then (1 : Int) else 0) = _
  by_cases q : v.toInt.toNat.testBit i = true
  · rw [if_pos q, if_pos (h2.mpr q)]
  · rw [if_neg q, if_neg (fun z => q (h2.mp z))]
