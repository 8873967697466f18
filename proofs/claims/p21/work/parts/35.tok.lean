/-! ===== a text's tokens, as both readers take them ===== -/
noncomputable def isBl (x : Int32) : Bool := decide (x = 32) || decide (x = 10)
noncomputable def isLe (x : Int32) : Bool := !decide (x < 97) && !decide (122 < x)
noncomputable def isDi (x : Int32) : Bool := !decide (x < 48) && !decide (57 < x)
noncomputable def isSg (x : Int32) : Bool := decide (x = 59) || (decide (x = 60) || (decide (x = 62) || decide (x = 61)))
/-- how far a row of bytes of a kind goes -/
noncomputable def rnE (p : Int32 → Bool) (T : Nat → Int32) (e : Nat) : Nat → Nat → Nat
  | 0, i => i
  | f + 1, i => if i < e then (if p (T i) = true then rnE p T e f (i + 1) else i) else i
noncomputable def rnX (p : Int32 → Bool) (T : Nat → Int32) (e i : Nat) : Nat := rnE p T e (e - i) i
/-- letters as a number; 0 for more than eight -/
noncomputable def leN (T : Nat → Int32) (s : Nat) : Nat → Int64
  | 0 => 0
  | k + 1 => if 8 ≤ k then 0 else leN T s k * 32 + Int32.toInt64 ((T (s + k) - 97) + 1)
/-- digits as a number; 0 for more than four -/
noncomputable def diN (T : Nat → Int32) (s : Nat) : Nat → Int32
  | 0 => 0
  | k + 1 => if 4 ≤ k then 0 else diN T s k * 10 + (T (s + k) - 48)
theorem leN_s (T : Nat → Int32) (s k : Nat) : leN T s (k + 1) = if 8 ≤ k then 0 else leN T s k * 32 + Int32.toInt64 ((T (s + k) - 97) + 1) := rfl
theorem diN_s (T : Nat → Int32) (s k : Nat) : diN T s (k + 1) = if 4 ≤ k then 0 else diN T s k * 10 + (T (s + k) - 48) := rfl
/-- a word's number: the last one that it is -/
noncomputable def wiN (w : Int64) : Nat → Int32
  | 0 => 0
  | k + 1 => if rsv.getD (k + 1) 0 = w then nI (k + 1) else wiN w k
/-- a token: where it starts, kind (0 none, 1 word, 2 number, 3 sign, 4 no token), number or sign, letters, where it ends -/
noncomputable abbrev Tok : Type := Nat × Nat × Int32 × Int64 × Nat
noncomputable def tS (t : Tok) : Nat := t.1
noncomputable def tK (t : Tok) : Nat := t.2.1
noncomputable def tV (t : Tok) : Int32 := t.2.2.1
noncomputable def tW (t : Tok) : Int64 := t.2.2.2.1
noncomputable def tB (t : Tok) : Nat := t.2.2.2.2
/-- what stands from s on, where no blank stands -/
noncomputable def tokW (T : Nat → Int32) (e s : Nat) : Tok :=
  if e ≤ s then (s, 0, 0, 0, s)
  else if isLe (T s) = true then (s, 1, 0, leN T s (rnX isLe T e s - s), rnX isLe T e s)
  else if isDi (T s) = true then (s, (if rnX isDi T e s - s ≤ 4 then 2 else 4), diN T s (rnX isDi T e s - s), 0, rnX isDi T e s)
  else (s, (if isSg (T s) = true then 3 else 4), T s, 0, s + 1)
noncomputable def tok (T : Nat → Int32) (e a : Nat) : Tok := tokW T e (rnX isBl T e a)
/-- the token's word, -1 for what is none -/
noncomputable def tI (t : Tok) : Int32 := if tK t = 1 then wiN (tW t) 21 else -1
theorem rnE_in {p : Int32 → Bool} {T : Nat → Int32} {e : Nat} : ∀ {f i : Nat}, i ≤ e → i ≤ rnE p T e f i ∧ rnE p T e f i ≤ e := by
  intro f
  induction f with
  | zero => intro i h; exact ⟨Nat.le_refl _, h⟩
  | succ f ih =>
    intro i h
    unfold rnE
    by_cases q : i < e
    · rw [if_pos q]
      by_cases q2 : p (T i) = true
      · rw [if_pos q2]
        have := ih (i := i + 1) (by omega)
        omega
      · rw [if_neg q2]; omega
    · rw [if_neg q]; omega
theorem rnX_in {p : Int32 → Bool} {T : Nat → Int32} {e i : Nat} (h : i ≤ e) : i ≤ rnX p T e i ∧ rnX p T e i ≤ e := rnE_in h
/-- a step on -/
theorem rnX_s {p : Int32 → Bool} {T : Nat → Int32} {e i : Nat} (h : i < e) (hp : p (T i) = true) : rnX p T e i = rnX p T e (i + 1) := by
  unfold rnX
  rw [show e - i = (e - (i + 1)) + 1 by omega]
  conv => lhs; unfold rnE
  rw [if_pos h, if_pos hp]
/-- the end -/
theorem rnX_z {p : Int32 → Bool} {T : Nat → Int32} {e i : Nat} (h : i < e → p (T i) = false) : rnX p T e i = i := by
  unfold rnX
  by_cases q : i < e
  · rw [show e - i = (e - (i + 1)) + 1 by omega]
    unfold rnE
    rw [if_pos q, if_neg (by rw [h q]; decide)]
  · rw [show e - i = 0 by omega]; rfl
theorem isLe_t {x : Int32} : isLe x = true ↔ ¬ x < 97 ∧ ¬ 122 < x := by
  unfold isLe
  rw [Bool.and_eq_true, Bool.not_eq_true', Bool.not_eq_true', decide_eq_false_iff_not, decide_eq_false_iff_not]
theorem isDi_t {x : Int32} : isDi x = true ↔ ¬ x < 48 ∧ ¬ 57 < x := by
  unfold isDi
  rw [Bool.and_eq_true, Bool.not_eq_true', Bool.not_eq_true', decide_eq_false_iff_not, decide_eq_false_iff_not]
theorem isBl_t {x : Int32} : isBl x = true ↔ x = 32 ∨ x = 10 := by
  unfold isBl
  rw [Bool.or_eq_true, decide_eq_true_eq, decide_eq_true_eq]
theorem isSg_t {x : Int32} : isSg x = true ↔ x = 59 ∨ x = 60 ∨ x = 62 ∨ x = 61 := by
  unfold isSg
  rw [Bool.or_eq_true, Bool.or_eq_true, Bool.or_eq_true, decide_eq_true_eq, decide_eq_true_eq, decide_eq_true_eq, decide_eq_true_eq]
theorem isSg_no {x : Int32} (h1 : ¬ x = 59) (h2 : ¬ x = 60) (h3 : ¬ x = 62) (h4 : ¬ x = 61) : ¬ isSg x = true := fun z => by
  rcases isSg_t.mp z with z | z | z | z
  · exact h1 z
  · exact h2 z
  · exact h3 z
  · exact h4 z
theorem bf_of {b : Bool} (h : ¬ b = true) : b = false := by
  cases b
  · rfl
  · exact absurd rfl h
/-- where the token starts -/
theorem tok_s {T : Nat → Int32} {e a : Nat} (h : a ≤ e) : tS (tok T e a) = rnX isBl T e a ∧ a ≤ tS (tok T e a) ∧ tS (tok T e a) ≤ e := by
  have h1 := rnX_in (p := isBl) (T := T) h
  have key : tS (tok T e a) = rnX isBl T e a := by
    unfold tok tokW
    split
    · rfl
    · split
      · rfl
      · split <;> rfl
  rw [key]
  exact ⟨rfl, h1.1, h1.2⟩
theorem tok_b {T : Nat → Int32} {e a : Nat} (h : a ≤ e) : tS (tok T e a) ≤ tB (tok T e a) ∧ tB (tok T e a) ≤ e ∧ (¬ tK (tok T e a) = 0 → tS (tok T e a) < tB (tok T e a)) ∧ (tK (tok T e a) = 0 ↔ tS (tok T e a) = e) := by
  have h1 := rnX_in (p := isBl) (T := T) h
  unfold tok tokW
  generalize rnX isBl T e a = s at h1 ⊢
  split
  · exact ⟨Nat.le_refl _, by show s ≤ e; omega, fun q => absurd rfl q, fun _ => by show s = e; omega, fun _ => rfl⟩
  · have hs : s < e := by omega
    split
    · rename_i q
      have h2 := rnX_in (p := isLe) (T := T) (i := s + 1) (e := e) hs
      have h3 := rnX_s (p := isLe) hs q
      exact ⟨by show s ≤ rnX isLe T e s; omega, by show rnX isLe T e s ≤ e; omega, fun _ => by show s < rnX isLe T e s; omega, fun q => absurd (show (1 : Nat) = 0 from q) (by decide), fun q => absurd (show s = e from q) (by omega)⟩
    · split
      · rename_i q
        have h2 := rnX_in (p := isDi) (T := T) (i := s + 1) (e := e) hs
        have h3 := rnX_s (p := isDi) hs q
        refine ⟨by show s ≤ rnX isDi T e s; omega, by show rnX isDi T e s ≤ e; omega, fun _ => by show s < rnX isDi T e s; omega, fun q => ?_, fun q => absurd (show s = e from q) (by omega)⟩
        change (if rnX isDi T e s - s ≤ 4 then 2 else 4) = 0 at q
        split at q <;> omega
      · refine ⟨by show s ≤ s + 1; omega, by show s + 1 ≤ e; omega, fun _ => by show s < s + 1; omega, fun q => ?_, fun q => absurd (show s = e from q) (by omega)⟩
        change (if isSg (T s) = true then 3 else 4) = 0 at q
        split at q <;> omega
theorem tok_k {T : Nat → Int32} {e a : Nat} : tK (tok T e a) ≤ 4 := by
  unfold tok tokW
  generalize rnX isBl T e a = s
  split
  · show 0 ≤ 4; omega
  · split
    · show 1 ≤ 4; omega
    · split
      · show (if rnX isDi T e s - s ≤ 4 then 2 else 4) ≤ 4
        split <;> omega
      · show (if isSg (T s) = true then 3 else 4) ≤ 4
        split <;> omega
