/-! ===== slices once each: thirty at most ===== -/
theorem pcn_s (s : Int32) (k : Nat) : pcn s (k + 1) = pcn s k + pcb s (Int32.ofNat k) := rfl
theorem pcn_up (s : Int32) : ∀ k : Nat, pcn s k ≤ k := by
  intro k
  induction k with
  | zero => exact Int.le_refl _
  | succ k ih =>
    rw [pcn_s]
    have := pcb_in s (Int32.ofNat k)
    omega
theorem biS_nI {v : Int32} (h1 : (1 : Int32) ≤ v) (h2 : v ≤ 30) : ∃ j : Nat, j < 30 ∧ (j : Int) = v.toInt - 1 ∧ (v - 1).toInt = (j : Int) := by
  rw [le_i] at h1 h2
  have e1 : (1 : Int32).toInt = 1 := rfl
  have e30 : (30 : Int32).toInt = 30 := rfl
  have hd : (v - 1).toInt = v.toInt - 1 := ti_sub rfl e1 (by omega)
  exact ⟨(v.toInt - 1).toNat, by omega, by omega, by omega⟩
theorem inS_tb {s v : Int32} (hs : 0 ≤ s.toInt) {j : Nat} (hj : j < 30) (hv : (v - 1).toInt = j) : inS s v = s.toInt.toNat.testBit j := by
  have h := isIn_iff (v1 := s) (v2 := v - 1) hs (by omega)
  rw [hv, Int.toNat_natCast] at h
  unfold inS
  cases q : s.toInt.toNat.testBit j with
  | false => rw [Bool.not_eq_false', decide_eq_true_eq]; exact h.mpr q
  | true =>
    rw [Bool.not_eq_true', decide_eq_false_iff_not]
    intro z
    rw [h.mp z] at q; cases q
theorem or_tb {s v : Int32} (hs : 0 ≤ s.toInt ∧ s.toInt < 1073741824) {j : Nat} (hj : j < 30) (hv : (v - 1).toInt = j) : (s ||| biS v).toInt.toNat = s.toInt.toNat ||| 2 ^ j := by
  unfold biS
  rw [orI hs.1 (by omega), hv, Int.toNat_natCast]
  have := or_lt (M := s.toInt.toNat) (k := j) (n := 30) (by omega) hj
  rw [nI_toInt (by omega), Int.toNat_natCast]
theorem pcn_or {s v : Int32} (hs : 0 ≤ s.toInt ∧ s.toInt < 1073741824) (h1 : (1 : Int32) ≤ v) (h2 : v ≤ 30) (hn : inS s v = false) : pcn (s ||| biS v) 30 = pcn s 30 + 1 := by
  obtain ⟨j, hj, -, hv⟩ := biS_nI h1 h2
  have hb := bi_in hs h1 h2
  have ho := or_tb hs hj hv
  rw [inS_tb hs.1 hj hv] at hn
  have key : ∀ k, k ≤ 30 → pcn (s ||| biS v) k = pcn s k + (if j < k then 1 else 0) := by
    intro k
    induction k with
    | zero => intro _; rw [if_neg (by omega)]; rfl
    | succ k ih =>
      intro hk
      rw [pcn_s, pcn_s, ih (by omega), pcb_tb hb.1 (by omega), pcb_tb hs.1 (by omega), ho]
      by_cases q : k = j
      · subst q
        rw [tb_or2, hn]
        simp
      · rw [tb_ne q]
        have e1 : (if j < k + 1 then (1 : Int) else 0) = if j < k then 1 else 0 := by
          by_cases z : j < k
          · rw [if_pos z, if_pos (by omega)]
          · rw [if_neg z, if_neg (by omega)]
        rw [e1]
        exact Int.add_right_comm _ _ _
  have := key 30 (by omega)
  rw [if_pos hj] at this; exact this
theorem tkL_f {T : Nat → Int32} {e : Nat} : ∀ (f g : Nat) (set : Int32) (a : Nat), a ≤ e → 0 ≤ set.toInt ∧ set.toInt < 1073741824 → (31 ≤ pcn set 30 + f ∨ e < a + f) → (31 ≤ pcn set 30 + g ∨ e < a + g) → tkL T e f set a = tkL T e g set a := by
  intro f
  induction f with
  | zero => intro g set a ha hs hf _; have := pcn_up set 30; omega
  | succ f ih =>
    intro g set a ha hs hf hg
    cases g with
    | zero => have := pcn_up set 30; omega
    | succ g =>
      unfold tkL
      by_cases q : tK (tok T e a) = 2
      · rw [if_pos q, if_pos q]
        have up := up_tkN (T := T) (lo := 1) (hi := 30) ha
        cases r : tkN T e 1 30 a with
        | error x => rfl
        | ok p =>
          obtain ⟨v, b⟩ := p
          rw [r] at up
          have hv := tkN_in r
          show (if inS set v = true then Except.error (5, tS (tok T e a)) else tkL T e f (set ||| biS v) b) = (if inS set v = true then Except.error (5, tS (tok T e a)) else tkL T e g (set ||| biS v) b)
          by_cases z : inS set v = true
          · rw [if_pos z, if_pos z]
          · rw [if_neg z, if_neg z]
            have hp := pcn_or hs hv.1 hv.2 (bf_of z)
            have h1 : a < b := up.1
            have h2 : b ≤ e := up.2
            exact ih g _ b h2 (bi_in hs hv.1 hv.2) (by omega) (by omega)
      · rw [if_neg q, if_neg q]
