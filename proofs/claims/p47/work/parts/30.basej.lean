section PT3x5
noncomputable def exc9 : List Nat := [0, 27, 32, 40, 53, 58, 74, 85, 88, 94, 99, 172]
noncomputable def evM9 (L : List Nat) (code : List En) : Bool := code.all (fun e => okG9 e.2.1 e.2.2.2.1 && (match evG9 e.2.1 e.2.2.2.1 with
  | none => true
  | some v => L.elem v))
set_option maxRecDepth 100000 in
theorem evT9_ok : ∀ mi, mi < nMth → (exc9.elem mi || (!Nat.beq mi mReader && evM9 (evT9.getD mi []) (mQ mi).1)) = true := by decide +kernel
theorem ClT.ev {pl dirty : List Nat} {okg okp : Nat → Nat → Bool} (h : ∀ mi, mi < nMth → (dirty.elem mi || (pl.elem mi || (!exc9.elem mi && (evT9.getD mi []).all (clV9 dirty okg okp)))) = true) : ClT pl dirty okg okp := by
  refine ClT.of (fun mi hm => ?_)
  have h1 := h mi hm
  cases q : dirty.elem mi with
  | true => rfl
  | false =>
    rw [q, Bool.false_or] at h1
    rw [Bool.false_or]
    cases q2 : pl.elem mi with
    | true => rfl
    | false =>
      rw [q2, Bool.false_or, Bool.and_eq_true, Bool.not_eq_true'] at h1
      rw [Bool.false_or]
      have h2 := evT9_ok mi hm
      rw [h1.1, Bool.false_or, Bool.and_eq_true] at h2
      rw [Bool.and_eq_true]
      refine ⟨h2.1, List.all_eq_true.mpr (fun e he => ?_)⟩
      have h3 := List.all_eq_true.mp h2.2 e he
      rw [Bool.and_eq_true] at h3
      refine clG_ev h3.1 (fun v hv => ?_)
      have h4 := h3.2
      rw [hv] at h4
      exact List.all_eq_true.mp h1.2 v (List.elem_iff.mp h4)
/-- a set of numbers as one number -/
noncomputable def mk9m : List Nat → Nat
  | [] => 0
  | i :: r => mk9m r ||| 2 ^ i
theorem mk9m_t {j : Nat} : ∀ l : List Nat, (mk9m l).testBit j = true ↔ j ∈ l := by
  intro l
  induction l with
  | nil => exact ⟨fun h => by rw [show mk9m [] = 0 from rfl, Nat.zero_testBit] at h; exact absurd h Bool.false_ne_true, fun h => by cases h⟩
  | cons i r ih =>
    show (mk9m r ||| 2 ^ i).testBit j = true ↔ _
    rw [Nat.testBit_or, Bool.or_eq_true, ih, Nat.testBit_two_pow, decide_eq_true_eq, List.mem_cons]
    exact ⟨fun h => h.elim Or.inr (fun e => Or.inl e.symm), fun h => h.elim (fun e => Or.inr e.symm) Or.inl⟩
noncomputable def clW9 (m : Nat) (okg okp : Nat → Nat → Bool) (v : Nat) : Bool := bif Nat.blt v 1000000 then okg (v / 1000) (v % 1000) else bif Nat.blt v 2000000 then okp ((v - 1000000) / 1000) ((v - 1000000) % 1000) else !m.testBit (v - 2000000)
theorem clW9_v {dirty : List Nat} {okg okp : Nat → Nat → Bool} {v : Nat} (h : clW9 (mk9m dirty) okg okp v = true) : clV9 dirty okg okp v = true := by
  have key : ∀ (b1 b2 x y e t : Bool), (e = true → t = true) → (bif b1 then x else bif b2 then y else !t) = true → (bif b1 then x else bif b2 then y else !e) = true := by
    intro b1 b2 x y e t het h
    cases b1 <;> cases b2 <;> cases e <;> cases t <;> simp_all
  unfold clW9 at h
  unfold clV9
  exact key _ _ _ _ _ _ (fun q => (mk9m_t dirty).mpr (List.elem_iff.mp q)) h
noncomputable def efg9 (m p : Nat) (okg okp : Nat → Nat → Bool) : Nat → List (List Nat) → Bool
  | _, [] => true
  | i, L :: r => (m.testBit i || (p.testBit i || (!exc9.elem i && L.all (clW9 m okg okp)))) && efg9 m p okg okp (i + 1) r
theorem efg9_s {m p : Nat} {okg okp : Nat → Nat → Bool} : ∀ (T : List (List Nat)) (i : Nat), efg9 m p okg okp i T = true → ∀ j, j < T.length → (m.testBit (i + j) || (p.testBit (i + j) || (!exc9.elem (i + j) && (T.getD j []).all (clW9 m okg okp)))) = true := by
  intro T
  induction T with
  | nil => intro i _ j hj; exact absurd hj (Nat.not_lt_zero _)
  | cons L r ih =>
    intro i h j hj
    have h' : ((m.testBit i || (p.testBit i || (!exc9.elem i && L.all (clW9 m okg okp)))) && efg9 m p okg okp (i + 1) r) = true := h
    rw [Bool.and_eq_true] at h'
    cases j with
    | zero => rw [List.getD_cons_zero]; exact h'.1
    | succ j =>
      have h2 := ih (i + 1) h'.2 j (by rw [List.length_cons] at hj; omega)
      rw [show i + 1 + j = i + (j + 1) by omega] at h2
      rw [List.getD_cons_succ]; exact h2
noncomputable def fN9 (n : Nat) (f : Nat → Bool) : Bool := match n with
  | 0 => f 0
  | k + 1 => f (k + 1)
theorem fN9_e {n : Nat} {f : Nat → Bool} : fN9 n f = f n := by cases n <;> rfl
noncomputable def efd9 (dirty pl : List Nat) (okg okp : Nat → Nat → Bool) : Bool := fN9 (mk9m dirty) (fun m => fN9 (mk9m pl) (fun p => efg9 m p okg okp 0 evT9))
theorem evT9_len : evT9.length = nMth := by decide +kernel
theorem ClT.ef {pl dirty : List Nat} {okg okp : Nat → Nat → Bool} (h : efd9 dirty pl okg okp = true) : ClT pl dirty okg okp := by
  refine ClT.ev (fun mi hm => ?_)
  have h0 : efg9 (mk9m dirty) (mk9m pl) okg okp 0 evT9 = true := by
    have e1 : efd9 dirty pl okg okp = efg9 (mk9m dirty) (mk9m pl) okg okp 0 evT9 := fN9_e.trans fN9_e
    rw [← e1]
    exact h
  have h1 := efg9_s evT9 0 h0 mi (by rw [evT9_len]; exact hm)
  rw [Nat.zero_add] at h1
  cases q : (mk9m dirty).testBit mi with
  | true =>
    rw [List.elem_iff.mpr ((mk9m_t dirty).mp q)]; rfl
  | false =>
    rw [q, Bool.false_or] at h1
    cases q2 : (mk9m pl).testBit mi with
    | true => rw [List.elem_iff.mpr ((mk9m_t pl).mp q2), Bool.true_or, Bool.or_true]
    | false =>
      rw [q2, Bool.false_or, Bool.and_eq_true] at h1
      have h3 : (evT9.getD mi []).all (clV9 dirty okg okp) = true := List.all_eq_true.mpr (fun v hv => clW9_v (List.all_eq_true.mp h1.2 v hv))
      rw [h1.1, h3, show (true && true) = true from rfl, Bool.or_true, Bool.or_true]
end PT3x5
