/-! ===== the days' text, read ===== -/
theorem tok_sg {T : Nat → Int32} {e a : Nat} (h : tK (tok T e a) = 3) : tV (tok T e a) = 59 ∨ tV (tok T e a) = 60 ∨ tV (tok T e a) = 62 ∨ tV (tok T e a) = 61 := by
  unfold tok tokW at h ⊢
  generalize rnX isBl T e a = s at h ⊢
  by_cases h1 : e ≤ s
  · rw [if_pos h1] at h
    exact absurd h (show ¬ (0 : Nat) = 3 by decide)
  rw [if_neg h1] at h ⊢
  by_cases h2 : isLe (T s) = true
  · rw [if_pos h2] at h
    exact absurd h (show ¬ (1 : Nat) = 3 by decide)
  rw [if_neg h2] at h ⊢
  by_cases h3 : isDi (T s) = true
  · rw [if_pos h3] at h
    have h' : (if rnX isDi T e s - s ≤ 4 then 2 else 4) = 3 := h
    split at h' <;> omega
  rw [if_neg h3] at h ⊢
  have h' : (if isSg (T s) = true then 3 else 4) = 3 := h
  by_cases h4 : isSg (T s) = true
  · exact isSg_t.mp h4
  · rw [if_neg h4] at h'; omega
/-- a code of the days: its kind, three numbers -/
noncomputable abbrev CD : Type := Int32 × Int32 × Int32 × Int32
/-- steps, codes, open blocks; the codes, their mates, the open blocks' codes and steps; of a step: its code, the step behind it -/
noncomputable abbrev DS : Type := (Nat × Nat × Nat) × (Nat → CD) × (Nat → Nat) × (Nat → Nat) × (Nat → Nat) × (Nat → Nat) × (Nat → Nat)
noncomputable def dN (s : DS) : Nat := s.1.1
noncomputable def dL (s : DS) : Nat := s.1.2.1
noncomputable def dD (s : DS) : Nat := s.1.2.2
noncomputable def dC (s : DS) : Nat → CD := s.2.1
noncomputable def dM (s : DS) : Nat → Nat := s.2.2.1
noncomputable def dO (s : DS) : Nat → Nat := s.2.2.2.1
noncomputable def dOs (s : DS) : Nat → Nat := s.2.2.2.2.1
noncomputable def dSp (s : DS) : Nat → Nat := s.2.2.2.2.2.1
noncomputable def dNx (s : DS) : Nat → Nat := s.2.2.2.2.2.2
noncomputable def upN (f : Nat → Nat) (k v : Nat) : Nat → Nat := fun j => if j = k then v else f j
noncomputable def upC (f : Nat → CD) (k : Nat) (v : CD) : Nat → CD := fun j => if j = k then v else f j
theorem upN_s {f : Nat → Nat} {k v : Nat} : upN f k v k = v := if_pos rfl
theorem upN_i {f : Nat → Nat} {k v j : Nat} (h : ¬ j = k) : upN f k v j = f j := if_neg h
theorem upC_s {f : Nat → CD} {k : Nat} {v : CD} : upC f k v k = v := if_pos rfl
theorem upC_i {f : Nat → CD} {k j : Nat} {v : CD} (h : ¬ j = k) : upC f k v j = f j := if_neg h
noncomputable def ds0 : DS := ((0, 0, 0), (fun _ => (0, 0, 0, 0)), (fun _ => 0), (fun _ => 0), (fun _ => 0), (fun _ => 0), fun _ => 0)
/-- a step that is no block -/
noncomputable def dsA (s : DS) (c : CD) : DS := ((dN s + 1, dL s + 1, dD s), upC (dC s) (dL s) c, upN (dM s) (dL s) (dL s), dO s, dOs s, upN (dSp s) (dN s) (dL s), upN (dNx s) (dN s) (dN s + 1))
/-- a block begins -/
noncomputable def dsB (s : DS) (c : CD) : DS := ((dN s + 1, dL s + 1, dD s + 1), upC (dC s) (dL s) c, upN (dM s) (dL s) (dL s), upN (dO s) (dD s) (dL s), upN (dOs s) (dD s) (dN s), upN (dSp s) (dN s) (dL s), dNx s)
/-- a block ends -/
noncomputable def dsE (s : DS) : DS := ((dN s, dL s + 1, dD s - 1), upC (dC s) (dL s) (20, 0, 0, 0), upN (upN (upN (dM s) (dL s) (dL s)) (dO s (dD s - 1)) (dL s)) (dL s) (dO s (dD s - 1)), dO s, dOs s, dSp s, upN (dNx s) (dOs s (dD s - 1)) (dN s))
section DYS
variable (T : Nat → Int32) (e : Nat) (N : Nat → Int64) (M : Nat)
/-- a man by his name -/
noncomputable def tkH (a : Nat) : Rs Int32 := rb (tkM T e a) fun w b => if nmG N w M 0 = -1 then .error (3, tS (tok T e a)) else .ok (nmG N w M 0, b)
/-- one of the signs that compare -/
noncomputable def tkC (a : Nat) : Rs Int32 := if tK (tok T e a) = 3 then (if tV (tok T e a) = 59 then .error (mis T e a) else .ok (tV (tok T e a), tB (tok T e a))) else .error (mis T e a)
noncomputable def isTs (i : Int32) : Bool := i == 16 || (i == 17 || i == 18)
noncomputable def isBk (i : Int32) : Bool := i == 15 || i == 19
noncomputable def isSt (i : Int32) : Bool := isBk i || (i == 21 || (decide (9 ≤ i) && decide (i ≤ 14)))
/-- a test -/
noncomputable def dyT (a : Nat) : Rs CD := if isTs (tI (tok T e a)) = true then
    rb (if tI (tok T e a) = 17 then tkN T e 1 30 (tB (tok T e a)) else tkH T e N M (tB (tok T e a))) fun x b =>
    if tI (tok T e a) = 16 then .ok ((16, x, 0, 0), b) else rb (tkC T e b) fun y b => rb (tkN T e 0 99 b) fun z b => .ok ((tI (tok T e a), x, y, z), b)
  else .error (mis T e a)
/-- what a step's word asks for -/
noncomputable def dyA (i : Int32) (a : Nat) : Rs CD :=
  if i = 9 then rb (tkN T e 1 30 a) fun x b => rb (tkN T e 1 30 b) fun y b => rb (tkN T e 1 30 b) fun z b => .ok ((9, x, y, z), b)
  else if i = 10 then rb (tkN T e 1 30 a) fun x b => rb (tkN T e 2 30 b) fun y b => .ok ((10, x, y, 0), b)
  else if i = 11 ∨ i = 12 then rb (tkH T e N M a) fun x b => rb (tkN T e 1 30 b) fun y b => .ok ((i, x, y, 0), b)
  else if i = 13 then rb (tkN T e 1 9 a) fun x b => .ok ((13, x, 0, 0), b)
  else if i = 19 then rb (tkN T e 1 99 a) fun x b => .ok ((19, x, 0, 0), b)
  else if i = 15 then dyT T e N M a
  else .ok ((i, 0, 0, 0), a)
noncomputable def dyS (s : DS) (a : Nat) : Rs DS := if isSt (tI (tok T e a)) = true then (if dN s = 30 then .error (6, tS (tok T e a)) else
    if isBk (tI (tok T e a)) = true ∧ dD s = 3 then .error (7, tS (tok T e a)) else
    rb (dyA T e N M (tI (tok T e a)) (tB (tok T e a))) fun c b => rb (tkS T e b) fun _ b => .ok (if isBk (tI (tok T e a)) = true then dsB s c else dsA s c, b))
  else .error (mis T e a)
noncomputable def dyE (s : DS) (a : Nat) : Rs DS := if dD s = 0 then .error (mis T e a) else rb (tkS T e (tB (tok T e a))) fun _ b => .ok (dsE s, b)
noncomputable def dyB : Nat → DS → Nat → Rs DS
  | 0, s, a => .ok (s, a)
  | f + 1, s, a => if tK (tok T e a) = 0 then (if dD s = 0 then .ok (s, a) else .error (mis T e a)) else rb (if tI (tok T e a) = 20 then dyE T e s a else dyS T e N M s a) fun s b => dyB f s b
end DYS
theorem iltle {a b : Int32} : ¬ b < a ↔ a ≤ b := by
  rw [Int32.lt_iff_toInt_lt, Int32.le_iff_toInt_le]; omega
theorem isBk_no {i : Int32} (h1 : ¬ i = 15) (h2 : ¬ i = 19) : isBk i = false := by
  unfold isBk
  rw [Bool.or_eq_false_iff, beq_eq_false_iff_ne, beq_eq_false_iff_ne]
  exact ⟨h1, h2⟩
theorem isSt_no {i : Int32} (h1 : ¬ i = 15) (h2 : ¬ i = 19) (h3 : ¬ i = 21) (h4 : i < 9 ∨ 14 < i) : isSt i = false := by
  unfold isSt
  rw [isBk_no h1 h2, Bool.false_or, Bool.or_eq_false_iff, beq_eq_false_iff_ne, Bool.and_eq_false_iff, decide_eq_false_iff_not, decide_eq_false_iff_not]
  exact ⟨h3, h4.elim (fun z => Or.inl (fun y => iltle.mpr y z)) (fun z => Or.inr (fun y => iltle.mpr y z))⟩
theorem isSt_yes {i : Int32} (h1 : (9 : Int32) ≤ i) (h2 : i ≤ 14) : isSt i = true := by
  unfold isSt
  rw [Bool.or_eq_true, Bool.or_eq_true, Bool.and_eq_true, decide_eq_true_eq, decide_eq_true_eq]
  exact Or.inr (Or.inr ⟨h1, h2⟩)
section DYU
variable {T : Nat → Int32} {e : Nat} {N : Nat → Int64} {M : Nat} {a : Nat}
theorem up_tkH (ha : a ≤ e) : Up1 e a (tkH T e N M a) := by
  unfold tkH
  refine Up1.rb (up_tkM ha) (fun w b h1 h2 => ?_)
  split
  · trivial
  · exact ⟨Nat.le_refl _, h2⟩
theorem up_tkC (ha : a ≤ e) : Up1 e a (tkC T e a) := by
  unfold tkC
  by_cases q : tK (tok T e a) = 3
  · rw [if_pos q]
    split
    · trivial
    · exact tB_lt (T := T) ha (by omega)
  · rw [if_neg q]; trivial
theorem up_ok {α : Type} {v : α} {b : Nat} (h : b ≤ e) : Up e b (.ok (v, b) : Rs α) := ⟨Nat.le_refl _, h⟩
theorem up_dyT (ha : a ≤ e) : Up1 e a (dyT T e N M a) := by
  unfold dyT
  by_cases q : isTs (tI (tok T e a)) = true
  · rw [if_pos q]
    have hi : ¬ tI (tok T e a) = -1 := fun z => by rw [z] at q; exact absurd q (by decide)
    have hk : ¬ tK (tok T e a) = 0 := by have := tI_k hi; omega
    have hb := tB_lt (T := T) ha hk
    refine Up1.rb ?_ (fun x b h1 h2 => ?_)
    · split
      · exact (up_tkN hb.2).le (by omega)
      · exact (up_tkH hb.2).le (by omega)
    · split
      · exact up_ok h2
      · exact Up.rb (up_tkC h2).w (fun y b _ h3 => Up.rb (up_tkN h3).w (fun z b _ h4 => up_ok h4))
  · rw [if_neg q]; trivial
theorem up_dyA {i : Int32} (ha : a ≤ e) : Up e a (dyA T e N M i a) := by
  unfold dyA
  split
  · exact Up.rb (up_tkN ha).w (fun x b _ h => Up.rb (up_tkN h).w (fun y b _ h => Up.rb (up_tkN h).w (fun z b _ h => up_ok h)))
  split
  · exact Up.rb (up_tkN ha).w (fun x b _ h => Up.rb (up_tkN h).w (fun y b _ h => up_ok h))
  split
  · exact Up.rb (up_tkH ha).w (fun x b _ h => Up.rb (up_tkN h).w (fun y b _ h => up_ok h))
  split
  · exact Up.rb (up_tkN ha).w (fun x b _ h => up_ok h)
  split
  · exact Up.rb (up_tkN ha).w (fun x b _ h => up_ok h)
  split
  · exact (up_dyT ha).w
  · exact up_ok ha
theorem isSt_n {i : Int32} (h : isSt i = true) : ¬ i = -1 := fun z => by rw [z] at h; exact absurd h (by decide)
theorem up_dyS {s : DS} (ha : a ≤ e) : Up1 e a (dyS T e N M s a) := by
  unfold dyS
  by_cases q : isSt (tI (tok T e a)) = true
  · rw [if_pos q]
    have hk : ¬ tK (tok T e a) = 0 := by have := tI_k (isSt_n q); omega
    have hb := tB_lt (T := T) ha hk
    split
    · trivial
    split
    · trivial
    have h2 : Up e (tB (tok T e a)) (rb (dyA T e N M (tI (tok T e a)) (tB (tok T e a))) fun c b => rb (tkS T e b) fun _ b => (.ok (if isBk (tI (tok T e a)) = true then dsB s c else dsA s c, b) : Rs DS)) := Up.rb (up_dyA hb.2) (fun c b _ h => Up.rb (up_tkS h).w (fun _ b _ h => up_ok h))
    cases z : (rb (dyA T e N M (tI (tok T e a)) (tB (tok T e a))) fun c b => rb (tkS T e b) fun _ b => (.ok (if isBk (tI (tok T e a)) = true then dsB s c else dsA s c, b) : Rs DS)) with
    | error x => trivial
    | ok p => rw [z] at h2; exact ⟨Nat.lt_of_lt_of_le hb.1 h2.1, h2.2⟩
  · rw [if_neg q]; trivial
theorem up_dyE {s : DS} (ha : a ≤ e) (hi : tI (tok T e a) = 20) : Up1 e a (dyE T e s a) := by
  unfold dyE
  have hk : ¬ tK (tok T e a) = 0 := by have := tI_k (t := tok T e a) (by rw [hi]; decide); omega
  have hb := tB_lt (T := T) ha hk
  split
  · trivial
  · refine ((up_tkS hb.2).le (by omega)).rb (fun _ b _ h => up_ok h)
end DYU
/-- what the told days keep: few codes -/
noncomputable def DOk (s : DS) : Prop := dN s ≤ 30 ∧ dD s ≤ 3 ∧ dL s + dD s ≤ 2 * dN s ∧ (∀ k, k < dD s → dO s k < dL s) ∧ ∀ k, k < dD s → dOs s k < dN s
theorem DOk.z : DOk ds0 := ⟨by decide, by decide, by decide, fun k h => absurd h (by show ¬ k < 0; omega), fun k h => absurd h (by show ¬ k < 0; omega)⟩
theorem DOk.a {s : DS} {c : CD} (h : DOk s) (hn : ¬ dN s = 30) : DOk (dsA s c) := by
  obtain ⟨h1, h2, h3, h4, h5⟩ := h
  refine ⟨?_, h2, ?_, fun k hk => ?_, fun k hk => ?_⟩
  · show dN s + 1 ≤ 30; omega
  · show dL s + 1 + dD s ≤ 2 * (dN s + 1); omega
  · show dO s k < dL s + 1; have := h4 k hk; omega
  · show dOs s k < dN s + 1; have := h5 k hk; omega
theorem DOk.b {s : DS} {c : CD} (h : DOk s) (hn : ¬ dN s = 30) (hd : ¬ dD s = 3) : DOk (dsB s c) := by
  obtain ⟨h1, h2, h3, h4, h5⟩ := h
  refine ⟨?_, ?_, ?_, fun k hk => ?_, fun k hk => ?_⟩
  · show dN s + 1 ≤ 30; omega
  · show dD s + 1 ≤ 3; omega
  · show dL s + 1 + (dD s + 1) ≤ 2 * (dN s + 1); omega
  · have hk2 : k < dD s + 1 := hk
    show upN (dO s) (dD s) (dL s) k < dL s + 1
    by_cases q : k = dD s
    · subst q; rw [upN_s]; omega
    · rw [upN_i q]; have := h4 k (by omega); omega
  · have hk2 : k < dD s + 1 := hk
    show upN (dOs s) (dD s) (dN s) k < dN s + 1
    by_cases q : k = dD s
    · subst q; rw [upN_s]; omega
    · rw [upN_i q]; have := h5 k (by omega); omega
theorem DOk.e {s : DS} (h : DOk s) (hd : ¬ dD s = 0) : DOk (dsE s) := by
  obtain ⟨h1, h2, h3, h4, h5⟩ := h
  refine ⟨h1, ?_, ?_, fun k hk => ?_, fun k hk => ?_⟩
  · show dD s - 1 ≤ 3; omega
  · show dL s + 1 + (dD s - 1) ≤ 2 * dN s; omega
  · have hk2 : k < dD s - 1 := hk
    show dO s k < dL s + 1; have := h4 k (by omega); omega
  · have hk2 : k < dD s - 1 := hk
    show dOs s k < dN s; exact h5 k (by omega)
