/-! printed by fa.py: where the arrays of an object lie; what the references are -/
theorem fa_0_0 {o : Nat} (h : isO 112 o 0 = true) : isA 112 (o + 1) 0 = true ∧ aL (o + 1) = 31 ∧ bna (o + 1) = none := by
  have h2 : ∀ o, o < 113 → isO 112 o 0 = true → (isA 112 (o + 1) 0 = true ∧ aL (o + 1) = 31 ∧ bna (o + 1) = none) := by decide +kernel
  exact h2 o (by have := (isO_spec h).2.1; omega) h
theorem fa_0_5 {o : Nat} (h : isO 112 o 0 = true) : isA 112 (o + 2) 1 = true ∧ aL (o + 2) = 6 ∧ bna (o + 2) = none := by
  have h2 : ∀ o, o < 113 → isO 112 o 0 = true → (isA 112 (o + 2) 1 = true ∧ aL (o + 2) = 6 ∧ bna (o + 2) = none) := by decide +kernel
  exact h2 o (by have := (isO_spec h).2.1; omega) h
theorem fa_0_6 {o : Nat} (h : isO 112 o 0 = true) : isA 112 (o + 3) 0 = true ∧ aL (o + 3) = 6 ∧ bna (o + 3) = none := by
  have h2 : ∀ o, o < 113 → isO 112 o 0 = true → (isA 112 (o + 3) 0 = true ∧ aL (o + 3) = 6 ∧ bna (o + 3) = none) := by decide +kernel
  exact h2 o (by have := (isO_spec h).2.1; omega) h
theorem fa_0_7 {o : Nat} (h : isO 112 o 0 = true) : isA 112 (o + 4) 0 = true ∧ aL (o + 4) = 6 ∧ bna (o + 4) = none := by
  have h2 : ∀ o, o < 113 → isO 112 o 0 = true → (isA 112 (o + 4) 0 = true ∧ aL (o + 4) = 6 ∧ bna (o + 4) = none) := by decide +kernel
  exact h2 o (by have := (isO_spec h).2.1; omega) h
theorem fa_0_8 {o : Nat} (h : isO 112 o 0 = true) : isA 112 (o + 5) 0 = true ∧ aL (o + 5) = 6 ∧ bna (o + 5) = none := by
  have h2 : ∀ o, o < 113 → isO 112 o 0 = true → (isA 112 (o + 5) 0 = true ∧ aL (o + 5) = 6 ∧ bna (o + 5) = none) := by decide +kernel
  exact h2 o (by have := (isO_spec h).2.1; omega) h
theorem fa_2_3 {o : Nat} (h : isO 112 o 2 = true) : isA 112 (o + 1) 0 = true ∧ aL (o + 1) = 60 ∧ bna (o + 1) = none := by
  have h2 : ∀ o, o < 113 → isO 112 o 2 = true → (isA 112 (o + 1) 0 = true ∧ aL (o + 1) = 60 ∧ bna (o + 1) = none) := by decide +kernel
  exact h2 o (by have := (isO_spec h).2.1; omega) h
theorem fa_2_4 {o : Nat} (h : isO 112 o 2 = true) : isA 112 (o + 2) 0 = true ∧ aL (o + 2) = 60 ∧ bna (o + 2) = none := by
  have h2 : ∀ o, o < 113 → isO 112 o 2 = true → (isA 112 (o + 2) 0 = true ∧ aL (o + 2) = 60 ∧ bna (o + 2) = none) := by decide +kernel
  exact h2 o (by have := (isO_spec h).2.1; omega) h
theorem fa_2_5 {o : Nat} (h : isO 112 o 2 = true) : isA 112 (o + 3) 0 = true ∧ aL (o + 3) = 60 ∧ bna (o + 3) = none := by
  have h2 : ∀ o, o < 113 → isO 112 o 2 = true → (isA 112 (o + 3) 0 = true ∧ aL (o + 3) = 60 ∧ bna (o + 3) = none) := by decide +kernel
  exact h2 o (by have := (isO_spec h).2.1; omega) h
theorem fa_2_6 {o : Nat} (h : isO 112 o 2 = true) : isA 112 (o + 4) 0 = true ∧ aL (o + 4) = 60 ∧ bna (o + 4) = none := by
  have h2 : ∀ o, o < 113 → isO 112 o 2 = true → (isA 112 (o + 4) 0 = true ∧ aL (o + 4) = 60 ∧ bna (o + 4) = none) := by decide +kernel
  exact h2 o (by have := (isO_spec h).2.1; omega) h
theorem fa_2_7 {o : Nat} (h : isO 112 o 2 = true) : isA 112 (o + 5) 0 = true ∧ aL (o + 5) = 60 ∧ bna (o + 5) = none := by
  have h2 : ∀ o, o < 113 → isO 112 o 2 = true → (isA 112 (o + 5) 0 = true ∧ aL (o + 5) = 60 ∧ bna (o + 5) = none) := by decide +kernel
  exact h2 o (by have := (isO_spec h).2.1; omega) h
theorem fa_4_8 {o : Nat} (h : isO 112 o 4 = true) : isA 112 (o + 1) 0 = true ∧ aL (o + 1) = 60 ∧ bna (o + 1) = none := by
  have h2 : ∀ o, o < 113 → isO 112 o 4 = true → (isA 112 (o + 1) 0 = true ∧ aL (o + 1) = 60 ∧ bna (o + 1) = none) := by decide +kernel
  exact h2 o (by have := (isO_spec h).2.1; omega) h
theorem fa_10_2 {o : Nat} (h : isO 112 o 10 = true) : isA 112 (o + 1) 1 = true ∧ aL (o + 1) = 60 ∧ bna (o + 1) = none := by
  have h2 : ∀ o, o < 113 → isO 112 o 10 = true → (isA 112 (o + 1) 1 = true ∧ aL (o + 1) = 60 ∧ bna (o + 1) = none) := by decide +kernel
  exact h2 o (by have := (isO_spec h).2.1; omega) h
/-- where the bakeries and the days lie -/
noncomputable def RP (R : Rm) : Prop := ((R 1 7 = 9 ∧ R 1 8 = 15) ∨ (R 1 7 = 15 ∧ R 1 8 = 9)) ∧ ((R 1 9 = 21 ∧ R 1 10 = 27) ∨ (R 1 9 = 27 ∧ R 1 10 = 21)) ∧ (∀ j, j < 3 → R 33 j = 61 + 12 * j) ∧ ∀ j, j < 3 → R 34 j = 67 + 12 * j
/-- what the references are: two bakeries, two plans at hand, four trays, three of each kept -/
noncomputable def RI (R : Rm) : Prop := (isO 112 (R 1 7) 0 = true ∧ ¬ R 1 7 = 0) ∧ (isO 112 (R 1 8) 0 = true ∧ ¬ R 1 8 = 0) ∧ (isO 112 (R 1 9) 2 = true ∧ ¬ R 1 9 = 0) ∧ (isO 112 (R 1 10) 2 = true ∧ ¬ R 1 10 = 0) ∧
  (∀ j, j < 4 → (¬ R 2 j = 0 ∧ isO 112 (R 2 j) 10 = true)) ∧ (∀ j, j < 3 → (¬ R 33 j = 0 ∧ isO 112 (R 33 j) 0 = true)) ∧ (∀ j, j < 3 → (¬ R 34 j = 0 ∧ isO 112 (R 34 j) 2 = true)) ∧ (∀ j, j < 4 → R 2 j = 53 + 2 * j) ∧ RP R
theorem RI.now {R : Rm} (h : RI R) : isO 112 (R 1 7) 0 = true ∧ ¬ R 1 7 = 0 := h.1
theorem RI.spare {R : Rm} (h : RI R) : isO 112 (R 1 8) 0 = true ∧ ¬ R 1 8 = 0 := h.2.1
theorem RI.plan {R : Rm} (h : RI R) : isO 112 (R 1 9) 2 = true ∧ ¬ R 1 9 = 0 := h.2.2.1
theorem RI.splan {R : Rm} (h : RI R) : isO 112 (R 1 10) 2 = true ∧ ¬ R 1 10 = 0 := h.2.2.2.1
theorem RI.tray {R : Rm} (h : RI R) (j : Nat) (hj : (j : Int) < 4) : ¬ R 2 j = 0 ∧ isO 112 (R 2 j) 10 = true := h.2.2.2.2.1 j (by omega)
theorem RI.kb {R : Rm} (h : RI R) (j : Nat) (hj : (j : Int) < 3) : ¬ R 33 j = 0 ∧ isO 112 (R 33 j) 0 = true := h.2.2.2.2.2.1 j (by omega)
theorem RI.kd {R : Rm} (h : RI R) (j : Nat) (hj : (j : Int) < 3) : ¬ R 34 j = 0 ∧ isO 112 (R 34 j) 2 = true := h.2.2.2.2.2.2.1 j (by omega)
theorem RI.tr {R : Rm} (h : RI R) (j : Nat) (hj : j < 4) : R 2 j = 53 + 2 * j := h.2.2.2.2.2.2.2.1 j hj
theorem RI.rp {R : Rm} (h : RI R) : RP R := h.2.2.2.2.2.2.2.2
