section PT14x0
theorem Wf9.b {s : DS} {c : CD} (hD : DOk s) (h : Wf9 s) (hc : bl9 c) : Wf9 (dsB s c) := by
  obtain ⟨-, -, -, o1, o2⟩ := hD
  obtain ⟨h1, h2, h3, h4⟩ := h
  have eC : ∀ k, ¬ k = dL s → dC (dsB s c) k = dC s k := fun k q => upC_i q
  have eM : ∀ k, ¬ k = dL s → dM (dsB s c) k = dM s k := fun k q => upN_i q
  have eS : ∀ k, ¬ k = dN s → dSp (dsB s c) k = dSp s k := fun k q => upN_i q
  have eO : ∀ k, ¬ k = dD s → dO (dsB s c) k = dO s k := fun k q => upN_i q
  have eT : ∀ k, ¬ k = dD s → dOs (dsB s c) k = dOs s k := fun k q => upN_i q
  have eC0 : dC (dsB s c) (dL s) = c := upC_s
  have eM0 : dM (dsB s c) (dL s) = dL s := upN_s
  have eS0 : dSp (dsB s c) (dN s) = dL s := upN_s
  have eO0 : dO (dsB s c) (dD s) = dL s := upN_s
  have eT0 : dOs (dsB s c) (dD s) = dN s := upN_s
  have n20 : ¬ c.1 = 20 := fun z => by
    rcases hc with q | q
    · rw [z] at q; exact absurd q (by decide)
    · rw [z] at q; exact absurd q.1 (by decide)
  refine ⟨fun k hk => ?_, fun j k hj hk => ?_, fun k hk => ?_, fun a ha => ?_⟩
  · have hk2 : k < dD s + 1 := hk
    by_cases q : k = dD s
    · subst q
      rw [eO0, eT0, eS0, eC0]
      exact ⟨rfl, hc⟩
    · have b1 := o1 k (by omega)
      have b2 := o2 k (by omega)
      rw [eO k q, eT k q, eS _ (by omega), eC _ (by omega)]
      exact h1 k (by omega)
  · have hk2 : k < dD s + 1 := hk
    rw [eO j (by omega), eT j (by omega)]
    by_cases q : k = dD s
    · subst q
      rw [eO0, eT0]
      exact ⟨o1 j hj, o2 j hj⟩
    · rw [eO k q, eT k q]
      exact h2 j k hj (by omega)
  · have hk2 : k ≤ dD s + 1 := hk
    by_cases q : k = dD s + 1
    · subst q
      refine ⟨0, ?_, ?_⟩
      · show (if dD s + 1 = 0 then 0 else dOs (dsB s c) (dD s + 1 - 1) + 1) = (if dD s + 1 = dD s + 1 then dN s + 1 else dOs (dsB s c) (dD s + 1))
        rw [if_neg (by omega), if_pos rfl, show dD s + 1 - 1 = dD s by omega, eT0]
      · show (if dD s + 1 = 0 then 0 else dO (dsB s c) (dD s + 1 - 1) + 1) = (if dD s + 1 = dD s + 1 then dL s + 1 else dO (dsB s c) (dD s + 1))
        rw [if_neg (by omega), if_pos rfl, show dD s + 1 - 1 = dD s by omega, eO0]
    · obtain ⟨f, hf⟩ := h3 k (by omega)
      have b1 : tB9 (dsB s c) k = tB9 s k := by
        unfold tB9
        by_cases z : k = 0
        · rw [if_pos z, if_pos z]
        · rw [if_neg z, if_neg z, eT _ (by omega)]
      have b2 : aB9 (dsB s c) k = aB9 s k := by
        unfold aB9
        by_cases z : k = 0
        · rw [if_pos z, if_pos z]
        · rw [if_neg z, if_neg z, eO _ (by omega)]
      have b3 : tE9 (dsB s c) k = tE9 s k := by
        show (if k = dD s + 1 then dN s + 1 else dOs (dsB s c) k) = tE9 s k
        rw [if_neg q]
        unfold tE9
        by_cases z : k = dD s
        · rw [if_pos z, z, eT0]
        · rw [if_neg z, eT k z]
      have b4 : aE9 (dsB s c) k = aE9 s k := by
        show (if k = dD s + 1 then dL s + 1 else dO (dsB s c) k) = aE9 s k
        rw [if_neg q]
        unfold aE9
        by_cases z : k = dD s
        · rw [if_pos z, z, eO0]
        · rw [if_neg z, eO k z]
      have c1 : tE9 s k ≤ dN s := by
        unfold tE9
        split
        · omega
        · have := o2 k (by omega); omega
      have c2 : aE9 s k ≤ dL s := by
        unfold aE9
        split
        · omega
        · have := o1 k (by omega); omega
      refine ⟨f, ?_⟩
      rw [b1, b2, b3, b4]
      exact hf.cg (fun j x y => ⟨eS j (by omega), rfl⟩) (fun j x y => ⟨eC j (by omega), eM j (by omega)⟩)
  · have ha2 : a < dL s + 1 := ha
    show dM (dsB s c) a < dL s + 1 ∧ ((dC (dsB s c) a).1 = 20 → dM (dsB s c) a < a) ∧ ((dC (dsB s c) a).1 = 20 ∨ ∃ t, t < dN s + 1 ∧ dSp (dsB s c) t = a)
    by_cases q : a = dL s
    · subst q
      rw [eM0, eC0]
      exact ⟨by omega, fun z => absurd z n20, Or.inr ⟨dN s, by omega, eS0⟩⟩
    · obtain ⟨g1, g2, g3⟩ := h4 a (by omega)
      rw [eM a q, eC a q]
      refine ⟨by omega, g2, g3.elim Or.inl (fun ⟨t, t1, t2⟩ => Or.inr ⟨t, by omega, (eS t (by omega)).trans t2⟩)⟩
theorem Wf9.e {s : DS} (hD : DOk s) (h : Wf9 s) (hd : ¬ dD s = 0) : Wf9 (dsE s) := by
  obtain ⟨-, -, -, o1, o2⟩ := hD
  obtain ⟨h1, h2, h3, h4⟩ := h
  obtain ⟨d, ed⟩ : ∃ d, dD s = d + 1 := ⟨dD s - 1, by omega⟩
  have eD : dD (dsE s) = d := by show dD s - 1 = d; omega
  have e1 : dD s - 1 = d := by omega
  have x1 := o1 d (by omega)
  have y1 := o2 d (by omega)
  obtain ⟨s1, s2⟩ := h1 d (by omega)
  have eC : ∀ k, ¬ k = dL s → dC (dsE s) k = dC s k := fun k q => upC_i q
  have eC0 : dC (dsE s) (dL s) = (20, 0, 0, 0) := upC_s
  have eM0 : dM (dsE s) (dL s) = dO s d := by
    show upN (upN (upN (dM s) (dL s) (dL s)) (dO s (dD s - 1)) (dL s)) (dL s) (dO s (dD s - 1)) (dL s) = dO s d
    rw [e1]; exact upN_s
  have eM1 : dM (dsE s) (dO s d) = dL s := by
    show upN (upN (upN (dM s) (dL s) (dL s)) (dO s (dD s - 1)) (dL s)) (dL s) (dO s (dD s - 1)) (dO s d) = dL s
    rw [e1, upN_i (by omega)]; exact upN_s
  have eM : ∀ k, ¬ k = dL s → ¬ k = dO s d → dM (dsE s) k = dM s k := fun k q q2 => by
    show upN (upN (upN (dM s) (dL s) (dL s)) (dO s (dD s - 1)) (dL s)) (dL s) (dO s (dD s - 1)) k = dM s k
    rw [e1, upN_i q, upN_i q2, upN_i q]
  have eX0 : dNx (dsE s) (dOs s d) = dN s := by
    show upN (dNx s) (dOs s (dD s - 1)) (dN s) (dOs s d) = dN s
    rw [e1]; exact upN_s
  have eX : ∀ k, ¬ k = dOs s d → dNx (dsE s) k = dNx s k := fun k q => by
    show upN (dNx s) (dOs s (dD s - 1)) (dN s) k = dNx s k
    rw [e1]; exact upN_i q
  refine ⟨fun k hk => ?_, fun j k hj hk => h2 j k hj (by rw [eD] at hk; omega), fun k hk => ?_, fun a ha => ?_⟩
  · rw [eD] at hk
    have b1 := o1 k (by omega)
    show dSp s (dOs s k) = dO s k ∧ bl9 (dC (dsE s) (dO s k))
    rw [eC _ (by omega)]
    exact h1 k (by omega)
  · rw [eD] at hk
    obtain ⟨f, hf⟩ := h3 k (by omega)
    have q : ¬ k = dD s := by omega
    have t1 : tE9 s k = dOs s k := if_neg q
    have t2 : aE9 s k = dO s k := if_neg q
    rw [t1, t2] at hf
    by_cases z : k = d
    · subst z
      obtain ⟨g, hg⟩ := h3 (k + 1) (by omega)
      have u1 : tB9 s (k + 1) = dOs s k + 1 := if_neg (by omega)
      have u2 : aB9 s (k + 1) = dO s k + 1 := if_neg (by omega)
      have u3 : tE9 s (k + 1) = dN s := if_pos (by omega)
      have u4 : aE9 s (k + 1) = dL s := if_pos (by omega)
      rw [u1, u2, u3, u4] at hg
      have lg := hg.le
      refine ⟨f + (g + 1), ?_⟩
      have w1 : tE9 (dsE s) k = dN s := by
        show (if k = dD (dsE s) then dN s else dOs s k) = dN s
        rw [eD]; exact if_pos rfl
      have w2 : aE9 (dsE s) k = dL s + 1 := by
        show (if k = dD (dsE s) then dL s + 1 else dO s k) = dL s + 1
        rw [eD]; exact if_pos rfl
      rw [w1, w2]
      have body : Sq9 (dsE s) g (dOs s k + 1) (dN s) (dO s k + 1) (dL s) := hg.cg (fun j x y => ⟨rfl, eX j (by omega)⟩) (fun j x y => ⟨eC j (by omega), eM j (by omega) (by omega)⟩)
      have nil : Sq9 (dsE s) g (dN s) (dN s) (dL s + 1) (dL s + 1) := by
        have z0 : Sq9 (dsE s) 0 (dN s) (dN s) (dL s + 1) (dL s + 1) := ⟨rfl, rfl⟩
        have z1 := z0.up g
        rw [Nat.zero_add] at z1
        exact z1
      refine Sq9.app (s := dsE s) (g := g + 1) (u := dOs s k) (b := dO s k) (Or.inr (Or.inr ⟨dN s, dL s, by omega, Nat.le_refl _, s1, ?_, eX0, by omega, ?_, eM1, eM0, body, nil⟩)) (hf.cg (fun j x y => ⟨rfl, eX j (by omega)⟩) (fun j x y => ⟨eC j (by omega), eM j (by omega) (by omega)⟩))
      · rw [eC _ (by omega)]; exact s2
      · rw [eC0]
    · obtain ⟨b1, b2⟩ := h2 k d (by omega) (by omega)
      refine ⟨f, ?_⟩
      have w1 : tE9 (dsE s) k = dOs s k := by
        show (if k = dD (dsE s) then dN s else dOs s k) = dOs s k
        rw [eD]; exact if_neg z
      have w2 : aE9 (dsE s) k = dO s k := by
        show (if k = dD (dsE s) then dL s + 1 else dO s k) = dO s k
        rw [eD]; exact if_neg z
      rw [w1, w2]
      exact hf.cg (fun j x y => ⟨rfl, eX j (by omega)⟩) (fun j x y => ⟨eC j (by omega), eM j (by omega) (by omega)⟩)
  · have ha2 : a < dL s + 1 := ha
    show dM (dsE s) a < dL s + 1 ∧ ((dC (dsE s) a).1 = 20 → dM (dsE s) a < a) ∧ ((dC (dsE s) a).1 = 20 ∨ ∃ t, t < dN s ∧ dSp s t = a)
    by_cases q : a = dL s
    · subst q
      rw [eM0, eC0]
      exact ⟨by omega, fun _ => x1, Or.inl rfl⟩
    · obtain ⟨g1, g2, g3⟩ := h4 a (by omega)
      rw [eC a q]
      refine ⟨?_, fun z => ?_, g3⟩
      · by_cases z : a = dO s d
        · subst z; rw [eM1]; omega
        · rw [eM a q z]; omega
      · by_cases z2 : a = dO s d
        · subst z2
          exfalso
          rcases s2 with y | y
          · rw [z] at y; exact absurd y (by decide)
          · rw [z] at y; exact absurd y.1 (by decide)
        · rw [eM a q z2]; exact g2 z
section DYW
variable {T : Nat → Int32} {e m : Nat} {N : Nat → Int64}
theorem pl9_of {k : Int32} (h : k = 9 ∨ k = 10 ∨ k = 11 ∨ k = 12 ∨ k = 13 ∨ k = 14 ∨ k = 21) : pl9 k := h
theorem dyA_b {i : Int32} {c : CD} {a b : Nat} (hi : isSt i = true) (h : dyA T e N m i a = .ok (c, b)) : (isBk i = true → bl9 c) ∧ (¬ isBk i = true → pl9 c.1) := by
  rcases isSt_c hi with rfl | rfl | rfl | rfl | rfl | rfl | rfl | rfl | rfl
  · have h1 : (rb (tkN T e 1 30 a) fun x b => rb (tkN T e 1 30 b) fun y b => rb (tkN T e 1 30 b) fun z b => (.ok ((9, x, y, z), b) : Rs CD)) = .ok (c, b) := h
    obtain ⟨x, b1, -, h2⟩ := rb_ok3 h1
    obtain ⟨y, b2, -, h3⟩ := rb_ok3 h2
    obtain ⟨z, b3, -, h4⟩ := rb_ok3 h3
    cases h4
    exact ⟨fun z => absurd z (by decide), fun _ => pl9_of (Or.inl rfl)⟩
  · have h1 : (rb (tkN T e 1 30 a) fun x b => rb (tkN T e 2 30 b) fun y b => (.ok ((10, x, y, 0), b) : Rs CD)) = .ok (c, b) := h
    obtain ⟨x, b1, -, h2⟩ := rb_ok3 h1
    obtain ⟨y, b2, -, h3⟩ := rb_ok3 h2
    cases h3
    exact ⟨fun z => absurd z (by decide), fun _ => show pl9 10 from pl9_of (by decide)⟩
  · have h1 : (rb (tkH T e N m a) fun x b => rb (tkN T e 1 30 b) fun y b => (.ok ((11, x, y, 0), b) : Rs CD)) = .ok (c, b) := h
    obtain ⟨x, b1, -, h2⟩ := rb_ok3 h1
    obtain ⟨y, b2, -, h3⟩ := rb_ok3 h2
    cases h3
    exact ⟨fun z => absurd z (by decide), fun _ => show pl9 11 from pl9_of (by decide)⟩
  · have h1 : (rb (tkH T e N m a) fun x b => rb (tkN T e 1 30 b) fun y b => (.ok ((12, x, y, 0), b) : Rs CD)) = .ok (c, b) := h
    obtain ⟨x, b1, -, h2⟩ := rb_ok3 h1
    obtain ⟨y, b2, -, h3⟩ := rb_ok3 h2
    cases h3
    exact ⟨fun z => absurd z (by decide), fun _ => show pl9 12 from pl9_of (by decide)⟩
  · have h1 : (rb (tkN T e 1 9 a) fun x b => (.ok ((13, x, 0, 0), b) : Rs CD)) = .ok (c, b) := h
    obtain ⟨x, b1, -, h2⟩ := rb_ok3 h1
    cases h2
    exact ⟨fun z => absurd z (by decide), fun _ => show pl9 13 from pl9_of (by decide)⟩
  · have h1 : (.ok ((14, 0, 0, 0), a) : Rs CD) = .ok (c, b) := h
    cases h1
    exact ⟨fun z => absurd z (by decide), fun _ => show pl9 14 from pl9_of (by decide)⟩
  · have h1 : dyT T e N m a = .ok (c, b) := h
    refine ⟨fun _ => Or.inl ?_, fun z => absurd rfl z⟩
    unfold dyT at h1
    by_cases ht : isTs (tI (tok T e a)) = true
    · rw [if_pos ht] at h1
      obtain ⟨x, b1, -, h2⟩ := rb_ok3 h1
      by_cases h16 : tI (tok T e a) = 16
      · rw [if_pos h16] at h2
        cases h2; rfl
      · rw [if_neg h16] at h2
        obtain ⟨y, b2, -, h3⟩ := rb_ok3 h2
        obtain ⟨z, b3, -, h4⟩ := rb_ok3 h3
        cases h4
        exact ht
    · rw [if_neg ht] at h1; cases h1
  · have h1 : (rb (tkN T e 1 99 a) fun x b => (.ok ((19, x, 0, 0), b) : Rs CD)) = .ok (c, b) := h
    obtain ⟨x, b1, h0, h2⟩ := rb_ok3 h1
    cases h2
    have hx := tkN_in h0
    rw [le_i, le_i] at hx
    exact ⟨fun _ => Or.inr ⟨rfl, hx.1, hx.2⟩, fun z => absurd rfl z⟩
  · have h1 : (.ok ((21, 0, 0, 0), a) : Rs CD) = .ok (c, b) := h
    cases h1
    exact ⟨fun z => absurd z (by decide), fun _ => show pl9 21 from pl9_of (by decide)⟩
end DYW
end PT14x0
