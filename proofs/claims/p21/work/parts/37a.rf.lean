/-! ===== the reference's reader ===== -/
theorem b255 : ∀ k : Nat, k < 256 → (Int32.ofInt ((k : Int) - 128) &&& 255).toInt = if (k : Int) - 128 < 0 then (k : Int) + 128 else (k : Int) - 128 := by decide +kernel
theorem an255 {x : Int32} (h : -128 ≤ x.toInt ∧ x.toInt ≤ 127) : (x &&& 255).toInt = if x.toInt < 0 then x.toInt + 256 else x.toInt := by
  have h1 := b255 (x.toInt + 128).toNat (by omega)
  have h2 : (((x.toInt + 128).toNat : Nat) : Int) - 128 = x.toInt := by omega
  rw [h2, Int32.ofInt_toInt] at h1
  rw [h1]
  split
  · omega
  · rfl
/-- bytes -/
noncomputable def Byt (T : Nat → Int32) : Prop := ∀ i, -128 ≤ (T i).toInt ∧ (T i).toInt ≤ 127
noncomputable def lk (T : Nat → Int32) (e i : Nat) : Int32 := if i < e then T i &&& 255 else 0
theorem lt97 {x : Int32} {n : Int32} {a b : Int} (hx : x.toInt = a) (hn : n.toInt = b) : x < n ↔ a < b := by rw [Int32.lt_iff_toInt_lt, hx, hn]
theorem isLe_i {x : Int32} {a : Int} (hx : x.toInt = a) : isLe x = true ↔ 97 ≤ a ∧ a ≤ 122 := by
  rw [isLe_t, lt97 hx (show (97 : Int32).toInt = 97 from rfl), lt97 (show (122 : Int32).toInt = 122 from rfl) hx]; omega
theorem isDi_i {x : Int32} {a : Int} (hx : x.toInt = a) : isDi x = true ↔ 48 ≤ a ∧ a ≤ 57 := by
  rw [isDi_t, lt97 hx (show (48 : Int32).toInt = 48 from rfl), lt97 (show (57 : Int32).toInt = 57 from rfl) hx]; omega
theorem eq_i {x n : Int32} {a b : Int} (hx : x.toInt = a) (hn : n.toInt = b) : x = n ↔ a = b := by rw [← Int32.toInt_inj, hx, hn]
theorem lk_in {T : Nat → Int32} {e i : Nat} (hT : Byt T) (h : i < e) : (lk T e i).toInt = if (T i).toInt < 0 then (T i).toInt + 256 else (T i).toInt := by
  unfold lk
  rw [if_pos h, an255 (hT i)]
theorem lk_out {T : Nat → Int32} {e i : Nat} (h : ¬ i < e) : lk T e i = 0 := by
  unfold lk
  rw [if_neg h]
theorem lk_le {T : Nat → Int32} {e i : Nat} (hT : Byt T) : isLe (lk T e i) = true ↔ i < e ∧ isLe (T i) = true := by
  by_cases q : i < e
  · have h1 := lk_in hT q
    have h2 := hT i
    rw [isLe_i h1, isLe_i (x := T i) rfl]
    by_cases q2 : (T i).toInt < 0
    · rw [if_pos q2]; omega
    · rw [if_neg q2]; omega
  · rw [lk_out q]
    exact ⟨fun z => absurd z (by decide), fun z => absurd z.1 q⟩
theorem lk_di {T : Nat → Int32} {e i : Nat} (hT : Byt T) : isDi (lk T e i) = true ↔ i < e ∧ isDi (T i) = true := by
  by_cases q : i < e
  · have h1 := lk_in hT q
    have h2 := hT i
    rw [isDi_i h1, isDi_i (x := T i) rfl]
    by_cases q2 : (T i).toInt < 0
    · rw [if_pos q2]; omega
    · rw [if_neg q2]; omega
  · rw [lk_out q]
    exact ⟨fun z => absurd z (by decide), fun z => absurd z.1 q⟩
/-- a byte of the text's own kinds is itself -/
theorem lk_c {T : Nat → Int32} {e i : Nat} (hT : Byt T) (h : i < e) {n : Int32} (hn : 1 ≤ n.toInt ∧ n.toInt ≤ 127) : lk T e i = n ↔ T i = n := by
  have h1 := lk_in hT h
  have h2 := hT i
  rw [eq_i h1 rfl, eq_i (x := T i) rfl rfl]
  by_cases q2 : (T i).toInt < 0
  · rw [if_pos q2]; omega
  · rw [if_neg q2]
theorem lk_eq {T : Nat → Int32} {e i : Nat} (hT : Byt T) (h : i < e) (h0 : 0 ≤ (T i).toInt) : lk T e i = T i := by
  have h1 := lk_in hT h
  exact Int32.toInt_inj.mp (by rw [h1, if_neg (by omega)])
theorem lk_sg {T : Nat → Int32} {e i : Nat} (hT : Byt T) (h : i < e) : isSg (lk T e i) = isSg (T i) := by
  have key : isSg (lk T e i) = true ↔ isSg (T i) = true := by
    rw [isSg_t, isSg_t, lk_c hT h (n := 59) (by decide), lk_c hT h (n := 60) (by decide), lk_c hT h (n := 62) (by decide), lk_c hT h (n := 61) (by decide)]
  cases q : isSg (T i) with
  | true => exact key.mpr q
  | false => exact bf_of (fun z => by rw [key.mp z] at q; cases q)
theorem isSg_pos {x : Int32} (h : isSg x = true) : 0 ≤ x.toInt := by
  rcases isSg_t.mp h with q | q | q | q <;> rw [q] <;> decide
/-- letters' numbers stay below 32 to their number -/
theorem leN_in {T : Nat → Int32} {s : Nat} : ∀ {k : Nat}, k ≤ 8 → (∀ j, j < k → isLe (T (s + j)) = true) → (k = 0 ∨ 1 ≤ (leN T s k).toInt) ∧ 0 ≤ (leN T s k).toInt ∧ (leN T s k).toInt < 32 ^ k := by
  intro k
  induction k with
  | zero => intro _ _; exact ⟨Or.inl rfl, by show (0 : Int) ≤ (0 : Int64).toInt; decide, by show (0 : Int64).toInt < 32 ^ 0; decide⟩
  | succ k ih =>
    intro h8 h
    obtain ⟨h1, h2, h3⟩ := ih (by omega) (fun j hj => h j (by omega))
    have h4 := (isLe_i (x := T (s + k)) rfl).mp (h k (by omega))
    have hp : (32 : Int) ^ (k + 1) = 32 ^ k * 32 := Int.pow_succ _ _
    have hk7 : (32 : Int) ^ k ≤ 34359738368 := by
      have : ∀ k : Nat, k ≤ 7 → (32 : Int) ^ k ≤ 34359738368 := by decide +kernel
      exact this k (by omega)
    have e1 : ((T (s + k) - 97) + 1 : Int32).toInt = (T (s + k)).toInt - 96 := by
      have a := ti_sub (x := T (s + k)) (y := 97) rfl (show (97 : Int32).toInt = 97 from rfl) (by omega)
      rw [ti_add a (show (1 : Int32).toInt = 1 from rfl) (by omega)]; omega
    have e2 : (leN T s k * 32).toInt = (leN T s k).toInt * 32 := by
      rw [Int64.toInt_mul, show (32 : Int64).toInt = 32 from rfl]; exact tl_bmod (by omega) (by omega)
    have e3 : (leN T s (k + 1)).toInt = (leN T s k).toInt * 32 + ((T (s + k)).toInt - 96) := by
      rw [leN_s, if_neg (by omega)]
      exact tl_add e2 (tl_i2l e1) (by omega)
    rw [e3, hp]
    exact ⟨Or.inr (by omega), by omega, by omega⟩
theorem let_eq {x : Int32} {w : Int64} (h : 97 ≤ x.toInt ∧ x.toInt ≤ 122) : w * 32 + Int32.toInt64 x - 96 = w * 32 + Int32.toInt64 ((x - 97) + 1) := by
  have e : Int32.toInt64 ((x - 97) + 1) = Int32.toInt64 x - 96 := Int64.toInt_inj.mp (by
    have a := ti_sub (x := x) (y := 97) rfl (show (97 : Int32).toInt = 97 from rfl) (by omega)
    have b := ti_add a (show (1 : Int32).toInt = 1 from rfl) (by omega)
    rw [tl_i2l b, tl_sub (tl_i2l (x := x) rfl) (show (96 : Int64).toInt = 96 from rfl) (by omega)]; omega)
  rw [e, Int64.sub_eq_add_neg, Int64.sub_eq_add_neg, Int64.add_assoc]
theorem dig_eq {x n : Int32} : 10 * n + x - 48 = n * 10 + (x - 48) := by
  rw [Int32.mul_comm 10 n, Int32.sub_eq_add_neg, Int32.sub_eq_add_neg, Int32.add_assoc]
/-- what the reference has of a row of letters: -1 for more than eight -/
noncomputable def leR (T : Nat → Int32) (s k : Nat) : Int64 := if 8 < k then -1 else leN T s k
noncomputable abbrev WM (ws : List Nat) : Nat → Nat → Prop := fun o k => o = 97 ∧ k ∈ ws
noncomputable abbrev VM : Nat → Nat → Prop := fun o k => o = 97 ∧ k = 19
theorem WM.no {ws : List Nat} {o : Nat} (h : ¬ o = 97) : ∀ k, ¬ WM ws o k := fun _ q => h q.1
theorem VM.no {o : Nat} (h : ¬ o = 97) : ∀ k, ¬ VM o k := fun _ q => h q.1
theorem WM.up {ws vs : List Nat} (h : ∀ k, k ∈ ws → k ∈ vs) : ∀ o k, WM ws o k → WM vs o k := fun _ _ q => ⟨q.1, h _ q.2⟩
noncomputable abbrev msA : List Nat := [14, 15, 16, 17, 18]
/-- the text lies on the tape -/
noncomputable def Txt (T : Nat → Int32) (e : Nat) (I : Im) : Prop := (∀ i, i < e → I 101 i = T i) ∧ I 97 9 = nI e
/-- the reference's reader ahead of the token behind place a -/
noncomputable def RmS (T : Nat → Int32) (e a : Nat) (I : Im) (J : Jm) : Prop := Txt T e I ∧ I 97 16 = nI (tB (tok T e a)) ∧ I 97 15 = nI (tS (tok T e a)) ∧ I 97 14 = nI (tK (tok T e a)) ∧ (tK (tok T e a) = 1 → J 97 19 = (if tW (tok T e a) = 0 then -1 else tW (tok T e a)) ∧ I 97 18 = nI (tB (tok T e a) - tS (tok T e a)) ∧ (tW (tok T e a) = 0 ↔ 8 < tB (tok T e a) - tS (tok T e a))) ∧ (tK (tok T e a) = 2 ∨ tK (tok T e a) = 3 → I 97 17 = tV (tok T e a))
theorem px_look2 {d : Nat} {Q : Qt} {T : Nat → Int32} {e i : Nat} {v : Int32} {I : Im} {J : Jm} {R : Rm} (hT : Txt T e I) (he : e ≤ 900) (hi : i ≤ 1000) (hv : v = nI i) (hQ : Q (lk T e i) 0 I J R) : AM (d + 1) 191 112 [.ref 97, .int v] I J R Q := by
  subst hv
  refine w_X12_look2 ?_
  rw [hT.2]
  refine ⟨fun c => ?_, fun c => ⟨?_, ?_⟩⟩
  · have := (nle_nI (a := e) (b := i) (by omega) hi).mp c
    rw [lk_out (by omega)] at hQ; exact hQ
  · have := gt_of (a := e) (b := i) (by omega) hi c
    exact vp_nI hi (by omega)
  · have hlt : i < e := by have := gt_of (a := e) (b := i) (by omega) hi c; omega
    rw [tn_nI (by omega), hT.1 i hlt]
    have e1 : lk T e i = T i &&& 255 := by unfold lk; rw [if_pos hlt]
    rw [e1] at hQ; exact hQ
theorem px_isLetter {d : Nat} {Q : Qt} {x : Int32} {I : Im} {J : Jm} {R : Rm} (hY : isLe x = true → Q 1 0 I J R) (hN : isLe x = false → Q 0 0 I J R) : AM (d + 1) 192 112 [.int x] I J R Q :=
  w_X12_isLetter ⟨fun c => ⟨Or.inl rfl, hN (bf_of (fun z => (isLe_t.mp z).1 c))⟩, fun c => ⟨fun c2 => ⟨Or.inl rfl, hN (bf_of (fun z => (isLe_t.mp z).2 c2))⟩, fun c2 => ⟨Or.inr rfl, hY (isLe_t.mpr ⟨c, c2⟩)⟩⟩⟩
theorem px_isDigit {d : Nat} {Q : Qt} {x : Int32} {I : Im} {J : Jm} {R : Rm} (hY : isDi x = true → Q 1 0 I J R) (hN : isDi x = false → Q 0 0 I J R) : AM (d + 1) 193 112 [.int x] I J R Q :=
  w_X12_isDigit ⟨fun c => ⟨Or.inl rfl, hN (bf_of (fun z => (isDi_t.mp z).1 c))⟩, fun c => ⟨fun c2 => ⟨Or.inl rfl, hN (bf_of (fun z => (isDi_t.mp z).2 c2))⟩, fun c2 => ⟨Or.inr rfl, hY (isDi_t.mpr ⟨c, c2⟩)⟩⟩⟩
theorem px_isSignB {d : Nat} {Q : Qt} {x : Int32} {I : Im} {J : Jm} {R : Rm} (hY : isSg x = true → Q 1 0 I J R) (hN : isSg x = false → Q 0 0 I J R) : AM (d + 1) 194 112 [.ref 97, .int x] I J R Q :=
  w_X12_isSignByte ⟨fun c => ⟨Or.inr rfl, hY (isSg_t.mpr (Or.inl c))⟩, fun c => ⟨fun c2 => ⟨Or.inr rfl, hY (isSg_t.mpr (Or.inr (Or.inl c2)))⟩, fun c2 => ⟨fun c3 => ⟨Or.inr rfl, hY (isSg_t.mpr (Or.inr (Or.inr (Or.inl c3))))⟩, fun c3 => ⟨fun c4 => ⟨Or.inl rfl, hN (bf_of (isSg_no c c2 c3 c4))⟩, fun c4 => ⟨Or.inr rfl, hY (isSg_t.mpr (Or.inr (Or.inr (Or.inr c4))))⟩⟩⟩⟩⟩
