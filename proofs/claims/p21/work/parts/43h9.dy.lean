/-! ===== the reference reads days: the recursion ===== -/
theorem rb_ok3 {α β : Type} {r : Rs α} {f : α → Nat → Rs β} {p : β × Nat} (h : rb r f = .ok p) : ∃ v b, r = .ok (v, b) ∧ f v b = .ok p := by
  cases r with
  | error x => cases h
  | ok q => exact ⟨q.1, q.2, rfl, h⟩
theorem dyA_k {T : Nat → Int32} {e m a b : Nat} {N : Nat → Int64} {i : Int32} {c : CD} (hi : isSt i = true) (h : dyA T e N m i a = .ok (c, b)) : kcR c.1 = stW i := by
  rcases isSt_c hi with rfl | rfl | rfl | rfl | rfl | rfl | rfl | rfl | rfl
  · have h1 : (rb (tkN T e 1 30 a) fun x b => rb (tkN T e 1 30 b) fun y b => rb (tkN T e 1 30 b) fun z b => (.ok ((9, x, y, z), b) : Rs CD)) = .ok (c, b) := h
    obtain ⟨x, b1, -, h2⟩ := rb_ok3 h1
    obtain ⟨y, b2, -, h3⟩ := rb_ok3 h2
    obtain ⟨z, b3, -, h4⟩ := rb_ok3 h3
    cases h4; rfl
  · have h1 : (rb (tkN T e 1 30 a) fun x b => rb (tkN T e 2 30 b) fun y b => (.ok ((10, x, y, 0), b) : Rs CD)) = .ok (c, b) := h
    obtain ⟨x, b1, -, h2⟩ := rb_ok3 h1
    obtain ⟨y, b2, -, h3⟩ := rb_ok3 h2
    cases h3; rfl
  · have h1 : (rb (tkH T e N m a) fun x b => rb (tkN T e 1 30 b) fun y b => (.ok ((11, x, y, 0), b) : Rs CD)) = .ok (c, b) := h
    obtain ⟨x, b1, -, h2⟩ := rb_ok3 h1
    obtain ⟨y, b2, -, h3⟩ := rb_ok3 h2
    cases h3; rfl
  · have h1 : (rb (tkH T e N m a) fun x b => rb (tkN T e 1 30 b) fun y b => (.ok ((12, x, y, 0), b) : Rs CD)) = .ok (c, b) := h
    obtain ⟨x, b1, -, h2⟩ := rb_ok3 h1
    obtain ⟨y, b2, -, h3⟩ := rb_ok3 h2
    cases h3; rfl
  · have h1 : (rb (tkN T e 1 9 a) fun x b => (.ok ((13, x, 0, 0), b) : Rs CD)) = .ok (c, b) := h
    obtain ⟨x, b1, -, h2⟩ := rb_ok3 h1
    cases h2; rfl
  · have h1 : (.ok ((14, 0, 0, 0), a) : Rs CD) = .ok (c, b) := h
    cases h1; rfl
  · have h1 : dyT T e N m a = .ok (c, b) := h
    unfold dyT at h1
    by_cases ht : isTs (tI (tok T e a)) = true
    · rw [if_pos ht] at h1
      obtain ⟨x, b1, -, h2⟩ := rb_ok3 h1
      by_cases h16 : tI (tok T e a) = 16
      · rw [if_pos h16] at h2
        cases h2; rfl
      · rw [if_neg h16] at h2
        obtain ⟨y, b2, -, h3⟩ := rb_ok3 h2
        obtain ⟨z, b3, -, h4⟩ := rb_ok3 h3
        cases h4
        show kcR (tI (tok T e a)) = stW 15
        unfold kcR
        rw [if_pos ht]; rfl
    · rw [if_neg ht] at h1; cases h1
  · have h1 : (rb (tkN T e 1 99 a) fun x b => (.ok ((19, x, 0, 0), b) : Rs CD)) = .ok (c, b) := h
    obtain ⟨x, b1, -, h2⟩ := rb_ok3 h1
    cases h2; rfl
  · have h1 : (.ok ((21, 0, 0, 0), a) : Rs CD) = .ok (c, b) := h
    cases h1; rfl
