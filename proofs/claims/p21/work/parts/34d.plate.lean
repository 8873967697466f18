/-! ===== the game of the plate, as both sides reckon it ===== -/
theorem nI_or (a b : Nat) : nI a ||| nI b = nI (a ||| b) := by
  apply Int32.toBitVec_inj.1
  show BitVec.ofNat 32 a ||| BitVec.ofNat 32 b = BitVec.ofNat 32 (a ||| b)
  apply BitVec.eq_of_getLsbD_eq
  intro i hi
  simp [hi]
theorem sh1_N : ∀ k, k < 31 → (1 : Int32) <<< (nI k &&& 31) = nI (2 ^ k) := by decide +kernel
theorem nI_inj {a b : Nat} (ha : a < 2 ^ 31) (hb : b < 2 ^ 31) (h : nI a = nI b) : a = b := by
  have h1 := congrArg Int32.toInt h
  rw [nI_toInt (by omega), nI_toInt (by omega)] at h1
  omega
theorem nI_ofN {v : Int32} (h : 0 ≤ v.toInt) : v = nI v.toInt.toNat := (of_toNat h).symm
theorem and_p0 {M k : Nat} (h : M.testBit k = false) : M &&& 2 ^ k = 0 := by
  apply Nat.eq_of_testBit_eq
  intro i
  rw [Nat.testBit_and, Nat.testBit_two_pow, Nat.zero_testBit]
  by_cases q : k = i
  · subst q; simp [h]
  · simp [q]
theorem and_p1 {M k : Nat} (h : M.testBit k = true) : M &&& 2 ^ k = 2 ^ k := by
  apply Nat.eq_of_testBit_eq
  intro i
  rw [Nat.testBit_and, Nat.testBit_two_pow]
  by_cases q : k = i
  · subst q; simp [h]
  · simp [q]
theorem tb_or2 {M k : Nat} : (M ||| 2 ^ k).testBit k = true := by
  rw [Nat.testBit_or, Nat.testBit_two_pow]; simp
theorem tb_ne {M k i : Nat} (h : ¬ i = k) : (M ||| 2 ^ k).testBit i = M.testBit i := by
  rw [Nat.testBit_or, Nat.testBit_two_pow]
  simp [show ¬ k = i from fun q => h q.symm]
theorem or_lt {M k n : Nat} (h : M < 2 ^ n) (hk : k < n) : M ||| 2 ^ k < 2 ^ n := Nat.or_lt_two_pow h (Nat.pow_lt_pow_right (by decide) hk)
/-- the scribe's test whether a slice lies there -/
theorem orI {v1 v2 : Int32} (h1 : 0 ≤ v1.toInt) (h2 : 0 ≤ v2.toInt ∧ v2.toInt < 31) : v1 ||| ((1 : Int32) <<< (v2 &&& 31)) = nI (v1.toInt.toNat ||| 2 ^ v2.toInt.toNat) := by
  have e1 := nI_ofN h1
  have e2 := nI_ofN h2.1
  have e3 : (1 : Int32) <<< (v2 &&& 31) = nI (2 ^ v2.toInt.toNat) := by
    have := sh1_N v2.toInt.toNat (by omega)
    rwa [← e2] at this
  rw [e3]
  conv => lhs; rw [e1]
  exact nI_or _ _
/-- a reference's test whether a slice lies there -/
theorem isOf_iff {v1 v2 : Int32} (h1 : 0 ≤ v1.toInt) (h2 : 0 ≤ v2.toInt ∧ v2.toInt < 31) : ((v1 >>> (v2 &&& 31)) &&& 1) = 1 ↔ v1.toInt.toNat.testBit v2.toInt.toNat = true := by
  have i1 := i32 v1
  have hd : v1.toInt.toNat / 2 ^ v2.toInt.toNat ≤ v1.toInt.toNat := Nat.div_le_self _ _
  have h : v1 >>> (v2 &&& 31) = nI (v1.toInt.toNat / 2 ^ v2.toInt.toNat) := by
    have := pk_shrN (n := v1.toInt.toNat) (by omega) (nI v2.toInt.toNat &&& 31) v2.toInt.toNat (sl32 v2.toInt.toNat (by omega))
    rw [← nI_ofN h1, ← nI_ofN h2.1] at this
    exact this
  rw [h, pk_andN (by omega) 1 (by decide), show (2 : Nat) ^ 1 = 2 from rfl, Nat.testBit_eq_decide_div_mod_eq, decide_eq_true_eq]
  rcases Nat.mod_two_eq_zero_or_one (v1.toInt.toNat / 2 ^ v2.toInt.toNat) with q | q
  · rw [q]
    exact ⟨fun z => absurd z (by decide), fun z => absurd z (by decide)⟩
  · rw [q]
    exact ⟨fun _ => rfl, fun _ => rfl⟩
/-- and of a set, whether a slice is of it -/
theorem isIn_iff {v1 v2 : Int32} (h1 : 0 ≤ v1.toInt) (h2 : 0 ≤ v2.toInt ∧ v2.toInt < 31) : v1 &&& ((1 : Int32) <<< (v2 &&& 31)) = 0 ↔ v1.toInt.toNat.testBit v2.toInt.toNat = false := by
  have i1 := i32 v1
  have e1 := nI_ofN h1
  have e2 := nI_ofN h2.1
  have e3 : (1 : Int32) <<< (v2 &&& 31) = nI (2 ^ v2.toInt.toNat) := by
    have := sh1_N v2.toInt.toNat (by omega)
    rwa [← e2] at this
  have e4 : v1 &&& ((1 : Int32) <<< (v2 &&& 31)) = nI (v1.toInt.toNat &&& 2 ^ v2.toInt.toNat) := by
    rw [e3]
    conv => lhs; rw [e1]
    exact nI_and _ _
  rw [e4]
  cases hb : v1.toInt.toNat.testBit v2.toInt.toNat with
  | false => exact ⟨fun _ => rfl, fun _ => by rw [and_p0 hb]; rfl⟩
  | true =>
    refine ⟨fun q => ?_, fun q => by cases q⟩
    rw [and_p1 hb] at q
    have h3 : 2 ^ v2.toInt.toNat = 0 := nI_inj (b := 0) (Nat.pow_lt_pow_right (by decide) (by omega)) (by decide) q
    have h4 : 0 < 2 ^ v2.toInt.toNat := Nat.pow_pos (by decide)
    omega
/-- a slice's crumbs; what those of a plate are together -/
noncomputable def prt (s : Int32) : Int := if 1 ≤ s.toInt then 2329089562800 / s.toInt else 0
noncomputable def smN (f : Nat → Int32) : Nat → Nat → Int
  | 0, _ => 0
  | k + 1, M => smN f k M + (if M.testBit k then prt (f k) else 0)
theorem tn_nI {X : Nat} (h : X < 2 ^ 31) : Int32.toNatClampNeg (nI X) = X := by
  show (nI X).toInt.toNat = X
  rw [nI_toInt h]; omega
theorem nI_k1 (k : Nat) : nI k + 1 = nI (k + 1) := nI_add k 1
theorem pcb_tb {v : Int32} {i : Nat} (h : 0 ≤ v.toInt) (hi : i < 31) : pcb v (Int32.ofNat i) = if v.toInt.toNat.testBit i = true then 1 else 0 := by
  have h2 := isOf_iff (v1 := v) (v2 := nI i) h (by rw [nI_toInt (by omega)]; omega)
  rw [nI_toInt (by omega), Int.toNat_natCast] at h2
  unfold pcb
  change (if ((v >>> (nI i &&& 31)) &&& 1) = 1 then (1 : Int) else 0) = _
  by_cases q : v.toInt.toNat.testBit i = true
  · rw [if_pos q, if_pos (h2.mpr q)]
  · rw [if_neg q, if_neg (fun z => q (h2.mp z))]
