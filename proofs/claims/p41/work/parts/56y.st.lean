section PT14x0
/-! ===== the days, lived: a pure machine ===== -/
/-- the store; the seed; missed, given, baked -/
noncomputable abbrev Rn9 : Type := StS9 × Int32 × Int32 × Int32 × Int32
noncomputable def dr9 (x : Int32) : Int32 := ((x * 2971) + 10993) - ((x * 2971) + 10993) / 65536 * 65536
noncomputable def dm9 (x n : Int32) : Int32 := (x / 8) - (x / 8) / n * n
theorem dr9_in {x : Int32} (h : 0 ≤ x.toInt ∧ x.toInt ≤ 65535) : 0 ≤ (dr9 x).toInt ∧ (dr9 x).toInt ≤ 65535 := by
  have e1 : (x * 2971).toInt = x.toInt * 2971 := ti_mul rfl (show (2971 : Int32).toInt = 2971 from rfl) (by omega)
  have e2 : (x * 2971 + 10993).toInt = x.toInt * 2971 + 10993 := ti_add e1 (show (10993 : Int32).toInt = 10993 from rfl) (by omega)
  have e3 := ti_rem e2 (show (65536 : Int32).toInt = 65536 from rfl) (by omega) (by omega)
  unfold dr9
  omega
theorem dm9_in {x n : Int32} (h : 0 ≤ x.toInt ∧ x.toInt ≤ 65535) (hn : 1 ≤ n.toInt) : 0 ≤ (dm9 x n).toInt ∧ (dm9 x n).toInt < n.toInt := by
  have e1 : (x / 8).toInt = x.toInt / 8 := ti_div rfl (show (8 : Int32).toInt = 8 from rfl) (by omega) (by omega)
  have e3 := ti_rem e1 (rfl : n.toInt = n.toInt) (by omega) (by omega)
  unfold dm9
  omega
noncomputable def cp9 (a : Int64) (g : Int32) (b : Int64) : Bool := if g = 60 then decide (¬ (0 : Int32) ≤ lg_cmp a b) else if g = 62 then decide (¬ lg_cmp a b ≤ (0 : Int32)) else decide (lg_cmp a b = (0 : Int32))
noncomputable def sv9 (r : Rn9) (a : Int32 × StS9) : Int32 × Rn9 := (b9 a.1, a.2, r.2)
noncomputable def gv9 (m k d : Int32) (r : Rn9) : Int32 × Rn9 := (b9 (opGive m k d r.1).1, (opGive m k d r.1).2, r.2.1, r.2.2.1, r.2.2.2.1 + b9 (opGive m k d r.1).1, r.2.2.2.2)
noncomputable def bv9 (n : Int32) (r : Rn9) : Int32 × Rn9 := (b9 (opAdd n r.1).1, (opAdd n r.1).2, r.2.1, r.2.2.1, r.2.2.2.1, r.2.2.2.2 + (if (opAdd n r.1).1 = 0 then n else 0))
noncomputable def sd9 (x : Int32) (r : Rn9) : Rn9 := (r.1, x, r.2.2)
noncomputable def an9 (m od : Int32) (r : Rn9) : Int32 × Rn9 :=
  if m = 0 then (0, r) else
  if od ≤ dm9 (dr9 (dr9 (dr9 r.2.1))) 16 then gv9 m (dm9 (dr9 r.2.1) m) (dm9 (dr9 (dr9 r.2.1)) 30 + 1) (sd9 (dr9 (dr9 (dr9 r.2.1))) r)
  else sv9 (sd9 (dr9 (dr9 (dr9 r.2.1))) r) (opSplit (dm9 (dr9 (dr9 r.2.1)) 30 + 1) 2 r.1)
noncomputable def ac9 (m od : Int32) (c : CD) (r : Rn9) : Int32 × Rn9 :=
  if c.1 = 9 then sv9 r (opCut c.2.1 c.2.2.1 c.2.2.2 r.1) else
  if c.1 = 10 then sv9 r (opSplit c.2.1 c.2.2.1 r.1) else
  if c.1 = 11 then gv9 m c.2.1 c.2.2.1 r else
  if c.1 = 12 then sv9 r (opTake m c.2.1 c.2.2.1 r.1) else
  if c.1 = 14 then an9 m od r else bv9 c.2.1 r
/-- one missed more, or not -/
noncomputable def ms9 (x : Int32) (a : Int32 × Rn9) : Rn9 := (a.2.1, a.2.2.1, x + b9 a.1, a.2.2.2.2)
noncomputable def do9 (m od : Int32) (c : CD) (r : Rn9) : Rn9 := ms9 r.2.2.1 (ac9 m od c r)
noncomputable def ho9 (du : Du9) (c : CD) (s : StS9) : Bool :=
  if c.1 = 16 then decide (lg_cmp (Int64.ofInt (lk9 du s.2.1 (nn9 c.2.1))) 0 = (0 : Int32)) else
  if c.1 = 17 then cp9 (Int32.toInt64 (s.1 (nn9 c.2.1))) c.2.2.1 (Int32.toInt64 c.2.2.2)
  else cp9 (Int64.ofInt (lk9 du s.2.1 (nn9 c.2.1))) c.2.2.1 ((Int32.toInt64 c.2.2.2) * 2329089562800)
/-- turns left; the code that is next; the loops' rounds; steps; the rest -/
noncomputable def rn9 (s : DS) (m od : Int32) (du : Du9) : Nat → Nat → (Nat → Int32) → Nat → Rn9 → Int32 × Nat × Rn9
  | 0, _, _, n, r => (0, n, r)
  | f + 1, a, q, n, r => if dL s ≤ a then (0, n, r) else
    if (dC s a).1 = 20 then (if (dC s (dM s a)).1 = 19 ∧ ¬ q (dM s a) ≤ 1 then rn9 s m od du f (dM s a + 1) (upd q (dM s a) (q (dM s a) - 1)) n r else rn9 s m od du f (a + 1) q n r) else
    if 300 ≤ n then (1, n, r) else
    if (dC s a).1 = 21 then rn9 s m od du f (dL s) q (n + 1) r else
    if (dC s a).1 = 19 then rn9 s m od du f (a + 1) (upd q a (dC s a).2.1) (n + 1) r else
    if isTs (dC s a).1 = true then (if ho9 du (dC s a) r.1 = true then rn9 s m od du f (a + 1) q (n + 1) r else rn9 s m od du f (dM s a + 1) q (n + 1) r)
    else rn9 s m od du f (a + 1) q (n + 1) (do9 m od (dC s a) r)
/-! the seed keeps its bounds, the store too -/
noncomputable def RB9 (M : Nat) (r : Rn9) : Prop := StB M r.1 ∧ 0 ≤ r.2.1.toInt ∧ r.2.1.toInt ≤ 65535
theorem RB9.gv {M : Nat} {m k d : Int32} {r : Rn9} (h : RB9 M r) : RB9 M (gv9 m k d r).2 := ⟨StB.give (s := r.1) h.1, h.2⟩
theorem RB9.sv {M : Nat} {a : Int32 × StS9} {r : Rn9} (h : RB9 M r) (ha : StB M a.2) : RB9 M (sv9 r a).2 := ⟨ha, h.2⟩
theorem RB9.sd {M : Nat} {x : Int32} {r : Rn9} (h : RB9 M r) (hx : 0 ≤ x.toInt ∧ x.toInt ≤ 65535) : RB9 M (sd9 x r) := ⟨h.1, hx⟩
theorem RB9.an {M : Nat} {m od : Int32} {r : Rn9} (h : RB9 M r) : RB9 M (an9 m od r).2 := by
  have d3 := dr9_in (dr9_in (dr9_in h.2))
  unfold an9
  generalize dr9 (dr9 (dr9 r.2.1)) = x at d3
  generalize dm9 (dr9 r.2.1) m = k
  generalize dm9 (dr9 (dr9 r.2.1)) 30 + 1 = d
  split
  · exact h
  split
  · exact (h.sd d3).gv
  · exact (h.sd d3).sv (StB.split (s := r.1) h.1)
theorem RB9.ac {M : Nat} {m od : Int32} {c : CD} {r : Rn9} (h : RB9 M r) : RB9 M (ac9 m od c r).2 := by
  unfold ac9
  split
  · exact h.sv h.1.cut
  split
  · exact h.sv h.1.split
  split
  · exact h.gv
  split
  · exact h.sv h.1.take
  split
  · exact h.an
  · exact ⟨h.1.add, h.2⟩
theorem RB9.dn {M : Nat} {m od : Int32} {c : CD} {r : Rn9} (h : RB9 M r) : RB9 M (do9 m od c r) := ⟨(RB9.ac (m := m) (od := od) (c := c) h).1, (RB9.ac (m := m) (od := od) (c := c) h).2⟩
/-! ===== how the codes of the days nest ===== -/
/-- no block, no end -/
noncomputable def pl9 (k : Int32) : Prop := k = 9 ∨ k = 10 ∨ k = 11 ∨ k = 12 ∨ k = 13 ∨ k = 14 ∨ k = 21
theorem pl9_n {k : Int32} (h : pl9 k) : ¬ k = 20 ∧ ¬ k = 19 ∧ ¬ isTs k = true := by
  rcases h with rfl | rfl | rfl | rfl | rfl | rfl | rfl <;> exact ⟨by decide, by decide, by decide⟩
noncomputable def bl9 (c : CD) : Prop := isTs c.1 = true ∨ (c.1 = 19 ∧ 1 ≤ c.2.1.toInt ∧ c.2.1.toInt ≤ 99)
/-- steps t to u are told by the codes a to b -/
noncomputable def Sq9 (s : DS) : Nat → Nat → Nat → Nat → Nat → Prop
  | 0, t, u, a, b => t = u ∧ a = b
  | f + 1, t, u, a, b => (t = u ∧ a = b) ∨ (t < u ∧ dSp s t = a ∧ pl9 (dC s a).1 ∧ dNx s t = t + 1 ∧ Sq9 s f (t + 1) u (a + 1) b) ∨ ∃ n m, t < n ∧ n ≤ u ∧ dSp s t = a ∧ bl9 (dC s a) ∧ dNx s t = n ∧ a < m ∧ (dC s m).1 = 20 ∧ dM s a = m ∧ dM s m = a ∧ Sq9 s f (t + 1) n (a + 1) m ∧ Sq9 s f n u (m + 1) b
theorem Sq9.le {s : DS} : ∀ {f t u a b : Nat}, Sq9 s f t u a b → t ≤ u ∧ a ≤ b := by
  intro f
  induction f with
  | zero => intro t u a b h; obtain ⟨h1, h2⟩ := h; omega
  | succ f ih =>
    intro t u a b h
    rcases h with ⟨h1, h2⟩ | ⟨h1, -, -, -, h2⟩ | ⟨n, m, h1, h2, -, -, -, h3, -, -, -, -, h4⟩
    · omega
    · have := ih h2; omega
    · have := ih h4; omega
theorem Sq9.s1 {s : DS} : ∀ {f t u a b : Nat}, Sq9 s f t u a b → Sq9 s (f + 1) t u a b := by
  intro f
  induction f with
  | zero => intro t u a b h; exact Or.inl h
  | succ f ih =>
    intro t u a b h
    rcases h with h1 | ⟨h1, h2, h3, h4, h5⟩ | ⟨n, m, h1, h2, h3, h4, h5, h6, h7, h8, h9, k1, k2⟩
    · exact Or.inl h1
    · exact Or.inr (Or.inl ⟨h1, h2, h3, h4, ih h5⟩)
    · exact Or.inr (Or.inr ⟨n, m, h1, h2, h3, h4, h5, h6, h7, h8, h9, ih k1, ih k2⟩)
theorem Sq9.up {s : DS} {f t u a b : Nat} (h : Sq9 s f t u a b) : ∀ k, Sq9 s (f + k) t u a b := by
  intro k
  induction k with
  | zero => exact h
  | succ k ih => exact ih.s1
theorem Sq9.app {s : DS} {g u v b c : Nat} (h2 : Sq9 s g u v b c) : ∀ {f t a : Nat}, Sq9 s f t u a b → Sq9 s (f + g) t v a c := by
  have l2 := h2.le
  intro f
  induction f with
  | zero =>
    intro t a h
    obtain ⟨h1, h3⟩ := h
    rw [h1, h3, Nat.zero_add]; exact h2
  | succ f ih =>
    intro t a h
    have e : f + 1 + g = f + g + 1 := by omega
    rw [e]
    rcases h with ⟨h1, h3⟩ | ⟨h1, h3, h4, h5, h6⟩ | ⟨n, m, h1, h3, h4, h5, h6, h7, h8, h9, k0, k1, k2⟩
    · rw [h1, h3]
      have q := h2.up (f + 1)
      rw [show g + (f + 1) = f + g + 1 by omega] at q
      exact q
    · exact Or.inr (Or.inl ⟨by omega, h3, h4, h5, ih h6⟩)
    · exact Or.inr (Or.inr ⟨n, m, h1, by omega, h4, h5, h6, h7, h8, h9, k0, k1.up g, ih k2⟩)
theorem Sq9.cg {s s2 : DS} : ∀ {f t u a b : Nat}, Sq9 s f t u a b → (∀ k, t ≤ k → k < u → dSp s2 k = dSp s k ∧ dNx s2 k = dNx s k) → (∀ k, a ≤ k → k < b → dC s2 k = dC s k ∧ dM s2 k = dM s k) → Sq9 s2 f t u a b := by
  intro f
  induction f with
  | zero => intro t u a b h _ _; exact h
  | succ f ih =>
    intro t u a b h e1 e2
    rcases h with h1 | ⟨h1, h3, h4, h5, h6⟩ | ⟨n, m, h1, h3, h4, h5, h6, h7, h8, h9, k0, k1, k2⟩
    · exact Or.inl h1
    · have l6 := h6.le
      obtain ⟨p1, p2⟩ := e1 t (Nat.le_refl _) h1
      obtain ⟨q1, q2⟩ := e2 a (Nat.le_refl _) (by omega)
      exact Or.inr (Or.inl ⟨h1, p1.trans h3, by rw [q1]; exact h4, p2.trans h5, ih h6 (fun k x y => e1 k (by omega) y) (fun k x y => e2 k (by omega) y)⟩)
    · have l1 := k1.le
      have l2 := k2.le
      obtain ⟨p1, p2⟩ := e1 t (Nat.le_refl _) (by omega)
      obtain ⟨q1, q2⟩ := e2 a (Nat.le_refl _) (by omega)
      obtain ⟨r1, r2⟩ := e2 m (by omega) (by omega)
      exact Or.inr (Or.inr ⟨n, m, h1, h3, p1.trans h4, by rw [q1]; exact h5, p2.trans h6, h7, by rw [r1]; exact h8, q2.trans h9, r2.trans k0, ih k1 (fun k x y => e1 k (by omega) (by omega)) (fun k x y => e2 k (by omega) (by omega)), ih k2 (fun k x y => e1 k (by omega) y) (fun k x y => e2 k (by omega) y)⟩)
/-! what is told so far: the open blocks' own beginnings -/
noncomputable def tB9 (s : DS) (k : Nat) : Nat := if k = 0 then 0 else dOs s (k - 1) + 1
noncomputable def aB9 (s : DS) (k : Nat) : Nat := if k = 0 then 0 else dO s (k - 1) + 1
noncomputable def tE9 (s : DS) (k : Nat) : Nat := if k = dD s then dN s else dOs s k
noncomputable def aE9 (s : DS) (k : Nat) : Nat := if k = dD s then dL s else dO s k
noncomputable def Wf9 (s : DS) : Prop :=
  (∀ k, k < dD s → dSp s (dOs s k) = dO s k ∧ bl9 (dC s (dO s k))) ∧
  (∀ j k, j < k → k < dD s → dO s j < dO s k ∧ dOs s j < dOs s k) ∧
  (∀ k, k ≤ dD s → ∃ f, Sq9 s f (tB9 s k) (tE9 s k) (aB9 s k) (aE9 s k)) ∧
  (∀ a, a < dL s → dM s a < dL s ∧ ((dC s a).1 = 20 → dM s a < a) ∧ ((dC s a).1 = 20 ∨ ∃ t, t < dN s ∧ dSp s t = a))
theorem Wf9.z : Wf9 ds0 :=
  ⟨fun k h => absurd h (by show ¬ k < 0; omega), fun j k _ h => absurd h (by show ¬ k < 0; omega), fun k h => by
    have h0 : k = 0 := by have : k ≤ 0 := h; omega
    subst h0
    exact ⟨0, rfl, rfl⟩, fun a h => absurd h (by show ¬ a < 0; omega)⟩
theorem Wf9.a {s : DS} {c : CD} (hD : DOk s) (h : Wf9 s) (hc : pl9 c.1) : Wf9 (dsA s c) := by
  obtain ⟨-, -, -, o1, o2⟩ := hD
  obtain ⟨h1, h2, h3, h4⟩ := h
  have eC : ∀ k, ¬ k = dL s → dC (dsA s c) k = dC s k := fun k q => upC_i q
  have eM : ∀ k, ¬ k = dL s → dM (dsA s c) k = dM s k := fun k q => upN_i q
  have eS : ∀ k, ¬ k = dN s → dSp (dsA s c) k = dSp s k := fun k q => upN_i q
  have eX : ∀ k, ¬ k = dN s → dNx (dsA s c) k = dNx s k := fun k q => upN_i q
  have eC0 : dC (dsA s c) (dL s) = c := upC_s
  have eM0 : dM (dsA s c) (dL s) = dL s := upN_s
  have eS0 : dSp (dsA s c) (dN s) = dL s := upN_s
  have eX0 : dNx (dsA s c) (dN s) = dN s + 1 := upN_s
  refine ⟨fun k hk => ?_, h2, fun k hk => ?_, fun a ha => ?_⟩
  · have hk2 : k < dD s := hk
    have b1 := o1 k hk2
    have b2 := o2 k hk2
    show dSp (dsA s c) (dOs s k) = dO s k ∧ bl9 (dC (dsA s c) (dO s k))
    rw [eS _ (by omega), eC _ (by omega)]
    exact h1 k hk2
  · have hk2 : k ≤ dD s := hk
    obtain ⟨f, hf⟩ := h3 k hk2
    have lf := hf.le
    by_cases q : k = dD s
    · have e1 : tE9 s k = dN s := if_pos q
      have e2 : aE9 s k = dL s := if_pos q
      rw [e1, e2] at hf lf
      refine ⟨f + 1, ?_⟩
      show Sq9 (dsA s c) (f + 1) (tB9 s k) (if k = dD s then dN s + 1 else dOs s k) (aB9 s k) (if k = dD s then dL s + 1 else dO s k)
      rw [if_pos q, if_pos q]
      refine Sq9.app (g := 1) (u := dN s) (b := dL s) (Or.inr (Or.inl ⟨by omega, eS0, by rw [eC0]; exact hc, eX0, rfl, rfl⟩)) (hf.cg (fun j x y => ⟨eS j (by omega), eX j (by omega)⟩) (fun j x y => ⟨eC j (by omega), eM j (by omega)⟩))
    · have e1 : tE9 s k = dOs s k := if_neg q
      have e2 : aE9 s k = dO s k := if_neg q
      rw [e1, e2] at hf
      have b1 := o1 k (by omega)
      have b2 := o2 k (by omega)
      refine ⟨f, ?_⟩
      show Sq9 (dsA s c) f (tB9 s k) (if k = dD s then dN s + 1 else dOs s k) (aB9 s k) (if k = dD s then dL s + 1 else dO s k)
      rw [if_neg q, if_neg q]
      exact hf.cg (fun j x y => ⟨eS j (by omega), eX j (by omega)⟩) (fun j x y => ⟨eC j (by omega), eM j (by omega)⟩)
  · have ha2 : a < dL s + 1 := ha
    show dM (dsA s c) a < dL s + 1 ∧ ((dC (dsA s c) a).1 = 20 → dM (dsA s c) a < a) ∧ ((dC (dsA s c) a).1 = 20 ∨ ∃ t, t < dN s + 1 ∧ dSp (dsA s c) t = a)
    by_cases q : a = dL s
    · subst q
      rw [eM0, eC0]
      exact ⟨by omega, fun z => absurd z (pl9_n hc).1, Or.inr ⟨dN s, by omega, eS0⟩⟩
    · obtain ⟨g1, g2, g3⟩ := h4 a (by omega)
      rw [eM a q, eC a q]
      refine ⟨by omega, g2, g3.elim Or.inl (fun ⟨t, t1, t2⟩ => Or.inr ⟨t, by omega, (eS t (by omega)).trans t2⟩)⟩
theorem Wf9.b {s : DS} {c : CD} (hD : DOk s) (h : Wf9 s) (hc : bl9 c) : Wf9 (dsB s c) := by
  obtain ⟨-, -, -, o1, o2⟩ := hD
  obtain ⟨h1, h2, h3, h4⟩ := h
  have eC : ∀ k, ¬ k = dL s → dC (dsB s c) k = dC s k := fun k q => upC_i q
  have eM : ∀ k, ¬ k = dL s → dM (dsB s c) k = dM s k := fun k q => upN_i q
  have eS : ∀ k, ¬ k = dN s → dSp (dsB s c) k = dSp s k := fun k q => upN_i q
  have eO : ∀ k, ¬ k = dD s → dO (dsB s c) k = dO s k := fun k q => upN_i q
  have eT : ∀ k, ¬ k = dD s → dOs (dsB s c) k = dOs s k := fun k q => upN_i q
  have eC0 : dC (dsB s c) (dL s) = c := upC_s
  have eM0 : dM (dsB s c) (dL s) = dL s := upN_s
  have eS0 : dSp (dsB s c) (dN s) = dL s := upN_s
  have eO0 : dO (dsB s c) (dD s) = dL s := upN_s
  have eT0 : dOs (dsB s c) (dD s) = dN s := upN_s
  have n20 : ¬ c.1 = 20 := fun z => by
    rcases hc with q | q
    · rw [z] at q; exact absurd q (by decide)
    · rw [z] at q; exact absurd q.1 (by decide)
  refine ⟨fun k hk => ?_, fun j k hj hk => ?_, fun k hk => ?_, fun a ha => ?_⟩
  · have hk2 : k < dD s + 1 := hk
    by_cases q : k = dD s
    · subst q
      rw [eO0, eT0, eS0, eC0]
      exact ⟨rfl, hc⟩
    · have b1 := o1 k (by omega)
      have b2 := o2 k (by omega)
      rw [eO k q, eT k q, eS _ (by omega), eC _ (by omega)]
      exact h1 k (by omega)
  · have hk2 : k < dD s + 1 := hk
    rw [eO j (by omega), eT j (by omega)]
    by_cases q : k = dD s
    · subst q
      rw [eO0, eT0]
      exact ⟨o1 j hj, o2 j hj⟩
    · rw [eO k q, eT k q]
      exact h2 j k hj (by omega)
  · have hk2 : k ≤ dD s + 1 := hk
    by_cases q : k = dD s + 1
    · subst q
      refine ⟨0, ?_, ?_⟩
      · show (if dD s + 1 = 0 then 0 else dOs (dsB s c) (dD s + 1 - 1) + 1) = (if dD s + 1 = dD s + 1 then dN s + 1 else dOs (dsB s c) (dD s + 1))
        rw [if_neg (by omega), if_pos rfl, show dD s + 1 - 1 = dD s by omega, eT0]
      · show (if dD s + 1 = 0 then 0 else dO (dsB s c) (dD s + 1 - 1) + 1) = (if dD s + 1 = dD s + 1 then dL s + 1 else dO (dsB s c) (dD s + 1))
        rw [if_neg (by omega), if_pos rfl, show dD s + 1 - 1 = dD s by omega, eO0]
    · obtain ⟨f, hf⟩ := h3 k (by omega)
      have b1 : tB9 (dsB s c) k = tB9 s k := by
        unfold tB9
        by_cases z : k = 0
        · rw [if_pos z, if_pos z]
        · rw [if_neg z, if_neg z, eT _ (by omega)]
      have b2 : aB9 (dsB s c) k = aB9 s k := by
        unfold aB9
        by_cases z : k = 0
        · rw [if_pos z, if_pos z]
        · rw [if_neg z, if_neg z, eO _ (by omega)]
      have b3 : tE9 (dsB s c) k = tE9 s k := by
        show (if k = dD s + 1 then dN s + 1 else dOs (dsB s c) k) = tE9 s k
        rw [if_neg q]
        unfold tE9
        by_cases z : k = dD s
        · rw [if_pos z, z, eT0]
        · rw [if_neg z, eT k z]
      have b4 : aE9 (dsB s c) k = aE9 s k := by
        show (if k = dD s + 1 then dL s + 1 else dO (dsB s c) k) = aE9 s k
        rw [if_neg q]
        unfold aE9
        by_cases z : k = dD s
        · rw [if_pos z, z, eO0]
        · rw [if_neg z, eO k z]
      have c1 : tE9 s k ≤ dN s := by
        unfold tE9
        split
        · omega
        · have := o2 k (by omega); omega
      have c2 : aE9 s k ≤ dL s := by
        unfold aE9
        split
        · omega
        · have := o1 k (by omega); omega
      refine ⟨f, ?_⟩
      rw [b1, b2, b3, b4]
      exact hf.cg (fun j x y => ⟨eS j (by omega), rfl⟩) (fun j x y => ⟨eC j (by omega), eM j (by omega)⟩)
  · have ha2 : a < dL s + 1 := ha
    show dM (dsB s c) a < dL s + 1 ∧ ((dC (dsB s c) a).1 = 20 → dM (dsB s c) a < a) ∧ ((dC (dsB s c) a).1 = 20 ∨ ∃ t, t < dN s + 1 ∧ dSp (dsB s c) t = a)
    by_cases q : a = dL s
    · subst q
      rw [eM0, eC0]
      exact ⟨by omega, fun z => absurd z n20, Or.inr ⟨dN s, by omega, eS0⟩⟩
    · obtain ⟨g1, g2, g3⟩ := h4 a (by omega)
      rw [eM a q, eC a q]
      refine ⟨by omega, g2, g3.elim Or.inl (fun ⟨t, t1, t2⟩ => Or.inr ⟨t, by omega, (eS t (by omega)).trans t2⟩)⟩
theorem Wf9.e {s : DS} (hD : DOk s) (h : Wf9 s) (hd : ¬ dD s = 0) : Wf9 (dsE s) := by
  obtain ⟨-, -, -, o1, o2⟩ := hD
  obtain ⟨h1, h2, h3, h4⟩ := h
  obtain ⟨d, ed⟩ : ∃ d, dD s = d + 1 := ⟨dD s - 1, by omega⟩
  have eD : dD (dsE s) = d := by show dD s - 1 = d; omega
  have e1 : dD s - 1 = d := by omega
  have x1 := o1 d (by omega)
  have y1 := o2 d (by omega)
  obtain ⟨s1, s2⟩ := h1 d (by omega)
  have eC : ∀ k, ¬ k = dL s → dC (dsE s) k = dC s k := fun k q => upC_i q
  have eC0 : dC (dsE s) (dL s) = (20, 0, 0, 0) := upC_s
  have eM0 : dM (dsE s) (dL s) = dO s d := by
    show upN (upN (upN (dM s) (dL s) (dL s)) (dO s (dD s - 1)) (dL s)) (dL s) (dO s (dD s - 1)) (dL s) = dO s d
    rw [e1]; exact upN_s
  have eM1 : dM (dsE s) (dO s d) = dL s := by
    show upN (upN (upN (dM s) (dL s) (dL s)) (dO s (dD s - 1)) (dL s)) (dL s) (dO s (dD s - 1)) (dO s d) = dL s
    rw [e1, upN_i (by omega)]; exact upN_s
  have eM : ∀ k, ¬ k = dL s → ¬ k = dO s d → dM (dsE s) k = dM s k := fun k q q2 => by
    show upN (upN (upN (dM s) (dL s) (dL s)) (dO s (dD s - 1)) (dL s)) (dL s) (dO s (dD s - 1)) k = dM s k
    rw [e1, upN_i q, upN_i q2, upN_i q]
  have eX0 : dNx (dsE s) (dOs s d) = dN s := by
    show upN (dNx s) (dOs s (dD s - 1)) (dN s) (dOs s d) = dN s
    rw [e1]; exact upN_s
  have eX : ∀ k, ¬ k = dOs s d → dNx (dsE s) k = dNx s k := fun k q => by
    show upN (dNx s) (dOs s (dD s - 1)) (dN s) k = dNx s k
    rw [e1]; exact upN_i q
  refine ⟨fun k hk => ?_, fun j k hj hk => h2 j k hj (by rw [eD] at hk; omega), fun k hk => ?_, fun a ha => ?_⟩
  · rw [eD] at hk
    have b1 := o1 k (by omega)
    show dSp s (dOs s k) = dO s k ∧ bl9 (dC (dsE s) (dO s k))
    rw [eC _ (by omega)]
    exact h1 k (by omega)
  · rw [eD] at hk
    obtain ⟨f, hf⟩ := h3 k (by omega)
    have q : ¬ k = dD s := by omega
    have t1 : tE9 s k = dOs s k := if_neg q
    have t2 : aE9 s k = dO s k := if_neg q
    rw [t1, t2] at hf
    by_cases z : k = d
    · subst z
      obtain ⟨g, hg⟩ := h3 (k + 1) (by omega)
      have u1 : tB9 s (k + 1) = dOs s k + 1 := if_neg (by omega)
      have u2 : aB9 s (k + 1) = dO s k + 1 := if_neg (by omega)
      have u3 : tE9 s (k + 1) = dN s := if_pos (by omega)
      have u4 : aE9 s (k + 1) = dL s := if_pos (by omega)
      rw [u1, u2, u3, u4] at hg
      have lg := hg.le
      refine ⟨f + (g + 1), ?_⟩
      have w1 : tE9 (dsE s) k = dN s := by
        show (if k = dD (dsE s) then dN s else dOs s k) = dN s
        rw [eD]; exact if_pos rfl
      have w2 : aE9 (dsE s) k = dL s + 1 := by
        show (if k = dD (dsE s) then dL s + 1 else dO s k) = dL s + 1
        rw [eD]; exact if_pos rfl
      rw [w1, w2]
      have body : Sq9 (dsE s) g (dOs s k + 1) (dN s) (dO s k + 1) (dL s) := hg.cg (fun j x y => ⟨rfl, eX j (by omega)⟩) (fun j x y => ⟨eC j (by omega), eM j (by omega) (by omega)⟩)
      have nil : Sq9 (dsE s) g (dN s) (dN s) (dL s + 1) (dL s + 1) := by
        have z0 : Sq9 (dsE s) 0 (dN s) (dN s) (dL s + 1) (dL s + 1) := ⟨rfl, rfl⟩
        have z1 := z0.up g
        rw [Nat.zero_add] at z1
        exact z1
      refine Sq9.app (s := dsE s) (g := g + 1) (u := dOs s k) (b := dO s k) (Or.inr (Or.inr ⟨dN s, dL s, by omega, Nat.le_refl _, s1, ?_, eX0, by omega, ?_, eM1, eM0, body, nil⟩)) (hf.cg (fun j x y => ⟨rfl, eX j (by omega)⟩) (fun j x y => ⟨eC j (by omega), eM j (by omega) (by omega)⟩))
      · rw [eC _ (by omega)]; exact s2
      · rw [eC0]
    · obtain ⟨b1, b2⟩ := h2 k d (by omega) (by omega)
      refine ⟨f, ?_⟩
      have w1 : tE9 (dsE s) k = dOs s k := by
        show (if k = dD (dsE s) then dN s else dOs s k) = dOs s k
        rw [eD]; exact if_neg z
      have w2 : aE9 (dsE s) k = dO s k := by
        show (if k = dD (dsE s) then dL s + 1 else dO s k) = dO s k
        rw [eD]; exact if_neg z
      rw [w1, w2]
      exact hf.cg (fun j x y => ⟨rfl, eX j (by omega)⟩) (fun j x y => ⟨eC j (by omega), eM j (by omega) (by omega)⟩)
  · have ha2 : a < dL s + 1 := ha
    show dM (dsE s) a < dL s + 1 ∧ ((dC (dsE s) a).1 = 20 → dM (dsE s) a < a) ∧ ((dC (dsE s) a).1 = 20 ∨ ∃ t, t < dN s ∧ dSp s t = a)
    by_cases q : a = dL s
    · subst q
      rw [eM0, eC0]
      exact ⟨by omega, fun _ => x1, Or.inl rfl⟩
    · obtain ⟨g1, g2, g3⟩ := h4 a (by omega)
      rw [eC a q]
      refine ⟨?_, fun z => ?_, g3⟩
      · by_cases z : a = dO s d
        · subst z; rw [eM1]; omega
        · rw [eM a q z]; omega
      · by_cases z2 : a = dO s d
        · subst z2
          exfalso
          rcases s2 with y | y
          · rw [z] at y; exact absurd y (by decide)
          · rw [z] at y; exact absurd y.1 (by decide)
        · rw [eM a q z2]; exact g2 z
section DYW
variable {T : Nat → Int32} {e m : Nat} {N : Nat → Int64}
theorem pl9_of {k : Int32} (h : k = 9 ∨ k = 10 ∨ k = 11 ∨ k = 12 ∨ k = 13 ∨ k = 14 ∨ k = 21) : pl9 k := h
theorem dyA_b {i : Int32} {c : CD} {a b : Nat} (hi : isSt i = true) (h : dyA T e N m i a = .ok (c, b)) : (isBk i = true → bl9 c) ∧ (¬ isBk i = true → pl9 c.1) := by
  rcases isSt_c hi with rfl | rfl | rfl | rfl | rfl | rfl | rfl | rfl | rfl
  · have h1 : (rb (tkN T e 1 30 a) fun x b => rb (tkN T e 1 30 b) fun y b => rb (tkN T e 1 30 b) fun z b => (.ok ((9, x, y, z), b) : Rs CD)) = .ok (c, b) := h
    obtain ⟨x, b1, -, h2⟩ := rb_ok3 h1
    obtain ⟨y, b2, -, h3⟩ := rb_ok3 h2
    obtain ⟨z, b3, -, h4⟩ := rb_ok3 h3
    cases h4
    exact ⟨fun z => absurd z (by decide), fun _ => pl9_of (Or.inl rfl)⟩
  · have h1 : (rb (tkN T e 1 30 a) fun x b => rb (tkN T e 2 30 b) fun y b => (.ok ((10, x, y, 0), b) : Rs CD)) = .ok (c, b) := h
    obtain ⟨x, b1, -, h2⟩ := rb_ok3 h1
    obtain ⟨y, b2, -, h3⟩ := rb_ok3 h2
    cases h3
    exact ⟨fun z => absurd z (by decide), fun _ => show pl9 10 from pl9_of (by decide)⟩
  · have h1 : (rb (tkH T e N m a) fun x b => rb (tkN T e 1 30 b) fun y b => (.ok ((11, x, y, 0), b) : Rs CD)) = .ok (c, b) := h
    obtain ⟨x, b1, -, h2⟩ := rb_ok3 h1
    obtain ⟨y, b2, -, h3⟩ := rb_ok3 h2
    cases h3
    exact ⟨fun z => absurd z (by decide), fun _ => show pl9 11 from pl9_of (by decide)⟩
  · have h1 : (rb (tkH T e N m a) fun x b => rb (tkN T e 1 30 b) fun y b => (.ok ((12, x, y, 0), b) : Rs CD)) = .ok (c, b) := h
    obtain ⟨x, b1, -, h2⟩ := rb_ok3 h1
    obtain ⟨y, b2, -, h3⟩ := rb_ok3 h2
    cases h3
    exact ⟨fun z => absurd z (by decide), fun _ => show pl9 12 from pl9_of (by decide)⟩
  · have h1 : (rb (tkN T e 1 9 a) fun x b => (.ok ((13, x, 0, 0), b) : Rs CD)) = .ok (c, b) := h
    obtain ⟨x, b1, -, h2⟩ := rb_ok3 h1
    cases h2
    exact ⟨fun z => absurd z (by decide), fun _ => show pl9 13 from pl9_of (by decide)⟩
  · have h1 : (.ok ((14, 0, 0, 0), a) : Rs CD) = .ok (c, b) := h
    cases h1
    exact ⟨fun z => absurd z (by decide), fun _ => show pl9 14 from pl9_of (by decide)⟩
  · have h1 : dyT T e N m a = .ok (c, b) := h
    refine ⟨fun _ => Or.inl ?_, fun z => absurd rfl z⟩
    unfold dyT at h1
    by_cases ht : isTs (tI (tok T e a)) = true
    · rw [if_pos ht] at h1
      obtain ⟨x, b1, -, h2⟩ := rb_ok3 h1
      by_cases h16 : tI (tok T e a) = 16
      · rw [if_pos h16] at h2
        cases h2; rfl
      · rw [if_neg h16] at h2
        obtain ⟨y, b2, -, h3⟩ := rb_ok3 h2
        obtain ⟨z, b3, -, h4⟩ := rb_ok3 h3
        cases h4
        exact ht
    · rw [if_neg ht] at h1; cases h1
  · have h1 : (rb (tkN T e 1 99 a) fun x b => (.ok ((19, x, 0, 0), b) : Rs CD)) = .ok (c, b) := h
    obtain ⟨x, b1, h0, h2⟩ := rb_ok3 h1
    cases h2
    have hx := tkN_in h0
    rw [le_i, le_i] at hx
    exact ⟨fun _ => Or.inr ⟨rfl, hx.1, hx.2⟩, fun z => absurd rfl z⟩
  · have h1 : (.ok ((21, 0, 0, 0), a) : Rs CD) = .ok (c, b) := h
    cases h1
    exact ⟨fun z => absurd z (by decide), fun _ => show pl9 21 from pl9_of (by decide)⟩
theorem dyB_wf : ∀ (f : Nat) (s s2 : DS) (a b : Nat), a ≤ e → e < a + f → DOk s → Wf9 s → dyB T e N m f s a = .ok (s2, b) → DOk s2 ∧ Wf9 s2 ∧ dD s2 = 0 := by
  intro f
  induction f with
  | zero => intro s s2 a b ha hf; omega
  | succ f ih =>
    intro s s2 a b ha hf hD hW h
    have eB : dyB T e N m (f + 1) s a = if tK (tok T e a) = 0 then (if dD s = 0 then .ok (s, a) else .error (mis T e a)) else rb (if tI (tok T e a) = 20 then dyE T e s a else dyS T e N m s a) fun s b => dyB T e N m f s b := rfl
    rw [eB] at h
    by_cases k0 : tK (tok T e a) = 0
    · rw [if_pos k0] at h
      by_cases d0 : dD s = 0
      · rw [if_pos d0] at h
        cases h
        exact ⟨hD, hW, d0⟩
      · rw [if_neg d0] at h; cases h
    · rw [if_neg k0] at h
      obtain ⟨s3, b3, h1, h2⟩ := rb_ok3 h
      by_cases q : tI (tok T e a) = 20
      · rw [if_pos q] at h1
        have u := up_dyE (T := T) (e := e) (s := s) ha q
        rw [h1] at u
        have u1 : a < b3 ∧ b3 ≤ e := u
        unfold dyE at h1
        by_cases d0 : dD s = 0
        · rw [if_pos d0] at h1; cases h1
        · rw [if_neg d0] at h1
          obtain ⟨y, b4, -, h4⟩ := rb_ok3 h1
          cases h4
          exact ih _ _ _ _ u1.2 (by omega) (hD.e d0) (hW.e hD d0) h2
      · rw [if_neg q] at h1
        have u := up_dyS (T := T) (e := e) (N := N) (M := m) (s := s) ha
        rw [h1] at u
        have u1 : a < b3 ∧ b3 ≤ e := u
        unfold dyS at h1
        by_cases hi : isSt (tI (tok T e a)) = true
        · rw [if_pos hi] at h1
          by_cases n30 : dN s = 30
          · rw [if_pos n30] at h1; cases h1
          · rw [if_neg n30] at h1
            by_cases n7 : isBk (tI (tok T e a)) = true ∧ dD s = 3
            · rw [if_pos n7] at h1; cases h1
            · rw [if_neg n7] at h1
              obtain ⟨c, b4, h3, h4⟩ := rb_ok3 h1
              obtain ⟨y, b5, -, h6⟩ := rb_ok3 h4
              obtain ⟨k1, k2⟩ := dyA_b hi h3
              by_cases hb : isBk (tI (tok T e a)) = true
              · rw [if_pos hb] at h6
                cases h6
                exact ih _ _ _ _ u1.2 (by omega) (hD.b n30 (fun z => n7 ⟨hb, z⟩)) (hW.b hD (k1 hb)) h2
              · rw [if_neg hb] at h6
                cases h6
                exact ih _ _ _ _ u1.2 (by omega) (hD.a n30) (hW.a hD (k2 hb)) h2
        · rw [if_neg hi] at h1; cases h1
end DYW
end PT14x0
section PT14x1
/-! ===== the class lives its days: by the pure machine ===== -/
theorem cut_c9 {d a b : Int32} {s : StS9} : (opCut d a b s).2.2.2 = s.2.2 + b9 (opCut d a b s).1 := by
  unfold opCut
  split
  · split
    · exact (Int32.add_zero _).symm
    · split
      · rfl
      · exact (Int32.add_zero _).symm
  · exact (Int32.add_zero _).symm
theorem split_c9 {d n : Int32} {s : StS9} : (opSplit d n s).2.2.2 = s.2.2 + b9 (opSplit d n s).1 := by
  unfold opSplit
  split
  · split
    · split
      · exact (Int32.add_zero _).symm
      · split
        · rfl
        · exact (Int32.add_zero _).symm
    · exact (Int32.add_zero _).symm
  · exact (Int32.add_zero _).symm
theorem give_c9 {m k d : Int32} {s : StS9} : (opGive m k d s).2.2.2 = s.2.2 := by
  unfold opGive
  split
  · split <;> rfl
  · rfl
theorem take_c9 {m k d : Int32} {s : StS9} : (opTake m k d s).2.2.2 = s.2.2 := by
  unfold opTake
  split
  · split
    · split <;> rfl
    · rfl
  · rfl
theorem add_c9 {n : Int32} {s : StS9} : (opAdd n s).2.2.2 = s.2.2 := by
  unfold opAdd
  split
  · split <;> rfl
  · rfl
theorem sd9_1 {x : Int32} {r : Rn9} : (sd9 x r).1 = r.1 := rfl
theorem b9_01 {x : Int32} : b9 x = 0 ∨ b9 x = 1 := by
  unfold b9
  split
  · exact Or.inr rfl
  · exact Or.inl rfl
noncomputable def bo9 (b : Bool) : Int32 := bif b then 1 else 0
theorem bo9_t {p : Prop} [Decidable p] (h : p) : bo9 (decide p) = 1 := by rw [decide_eq_true h]; rfl
theorem bo9_f {p : Prop} [Decidable p] (h : ¬ p) : bo9 (decide p) = 0 := by rw [decide_eq_false h]; rfl
/-- what the acts write; what a run writes -/
noncomputable abbrev WAc (v0 o : Nat) : Nat → Nat → Prop := fun c k => WBk o c k ∨ (c = v0 ∧ (k = 2 ∨ k = 3 ∨ k = 4 ∨ k = 5 ∨ k = 7))
noncomputable abbrev FrAc (v0 o : Nat) (I : Im) (J : Jm) (I2 : Im) (J2 : Jm) : Prop := FrW (WAc v0 o) nV I J I2 J2
noncomputable abbrev WLf (v0 o : Nat) : Nat → Nat → Prop := fun c k => WBk o c k ∨ c = v0 ∨ c = v0 + 1
noncomputable abbrev FrLf (v0 o : Nat) (I : Im) (J : Jm) (I2 : Im) (J2 : Jm) : Prop := FrW (WLf v0 o) nV I J I2 J2
/-- the run's numbers in the Life at v0 -/
noncomputable def LfA (v0 o M : Nat) (c0 : Int32) (r : Rn9) (I : Im) : Prop := BkA o M r.1 I ∧ I v0 7 = r.2.1 ∧ I v0 2 = r.2.2.1 ∧ I v0 4 = r.2.2.2.1 ∧ I v0 5 = r.2.2.2.2 ∧ I v0 3 = r.1.2.2 - c0
/-- codes and mates, in the Days at p -/
noncomputable def SDc (s : DS) (p : Nat) (I : Im) : Prop := I p 2 = nI (dL s) ∧ ∀ k, k < dL s → I (p + 1) k = (dC s k).1 ∧ I (p + 2) k = (dC s k).2.1 ∧ I (p + 3) k = (dC s k).2.2.1 ∧ I (p + 4) k = (dC s k).2.2.2 ∧ I (p + 5) k = nI (dM s k)
section RNC
variable {I I1 : Im} {J : Jm} {R : Rm} {Q : Qt} {M v0 o p : Nat} {c0 : Int32} {r : Rn9} {m od : Int32} {s : DS}
theorem FrBk.ac (h : FrBk o I J I1 J) : FrAc v0 o I J I1 J := h.up (fun _ _ q => Or.inl q) (fun _ _ q => q)
theorem FrAc.lf (h : FrAc v0 o I J I1 J) : FrLf v0 o I J I1 J := h.up (fun _ _ q => q.elim Or.inl (fun z => Or.inr (Or.inl z.1))) (fun _ _ q => q)
theorem FrBk.v (hv : o + 5 < v0) (h : FrBk o I J I1 J) (k : Nat) : I1 v0 k = I v0 k := h.i (fun q => by rcases q with q | q | q <;> omega)
theorem BkA.lf {k : Nat} {v : Int32} {st : StS9} (hv : o + 5 < v0) (h : BkA o M st I) : BkA o M st (uI I v0 k v) :=
  ⟨fun d a b => (rd_ne (by first | decide | omega)).trans (h.1 d a b), fun i hi => (rd_ne (by first | decide | omega)).trans (h.2.1 i hi), (rd_ne (by first | decide | omega)).trans h.2.2⟩
theorem LfA.cu {st : StS9} {y : Int32} (hv : o + 5 < v0) (h : LfA v0 o M c0 r I) (h1 : BkA o M st I1) (hF : FrBk o I J I1 J) (hy : st.2.2 = r.1.2.2 + y) : LfA v0 o M c0 (st, r.2) (uI I1 v0 3 (I1 v0 3 + y)) := by
  obtain ⟨-, e7, e2, e4, e5, e3⟩ := h
  refine ⟨h1.lf hv, ?_, ?_, ?_, ?_, ?_⟩
  · rw [rd_k (by decide), hF.v hv]; exact e7
  · rw [rd_k (by decide), hF.v hv]; exact e2
  · rw [rd_k (by decide), hF.v hv]; exact e4
  · rw [rd_k (by decide), hF.v hv]; exact e5
  · rw [rd_eq, hF.v hv, e3]
    show r.1.2.2 - c0 + y = st.2.2 - c0
    rw [hy, Int32.sub_eq_add_neg, Int32.sub_eq_add_neg, Int32.add_assoc, Int32.add_comm (-c0) y, ← Int32.add_assoc]
theorem LfA.gi {st : StS9} {y : Int32} (hv : o + 5 < v0) (h : LfA v0 o M c0 r I) (h1 : BkA o M st I1) (hF : FrBk o I J I1 J) (hy : st.2.2 = r.1.2.2) : LfA v0 o M c0 (st, r.2.1, r.2.2.1, r.2.2.2.1 + y, r.2.2.2.2) (uI I1 v0 4 (I1 v0 4 + y)) := by
  obtain ⟨-, e7, e2, e4, e5, e3⟩ := h
  refine ⟨h1.lf hv, ?_, ?_, ?_, ?_, ?_⟩
  · rw [rd_k (by decide), hF.v hv]; exact e7
  · rw [rd_k (by decide), hF.v hv]; exact e2
  · rw [rd_eq, hF.v hv, e4]
  · rw [rd_k (by decide), hF.v hv]; exact e5
  · rw [rd_k (by decide), hF.v hv, e3]
    show r.1.2.2 - c0 = st.2.2 - c0
    rw [hy]
theorem LfA.ba {st : StS9} {y : Int32} (hv : o + 5 < v0) (h : LfA v0 o M c0 r I) (h1 : BkA o M st I1) (hF : FrBk o I J I1 J) (hy : st.2.2 = r.1.2.2) : LfA v0 o M c0 (st, r.2.1, r.2.2.1, r.2.2.2.1, r.2.2.2.2 + y) (uI I1 v0 5 (I1 v0 5 + y)) := by
  obtain ⟨-, e7, e2, e4, e5, e3⟩ := h
  refine ⟨h1.lf hv, ?_, ?_, ?_, ?_, ?_⟩
  · rw [rd_k (by decide), hF.v hv]; exact e7
  · rw [rd_k (by decide), hF.v hv]; exact e2
  · rw [rd_k (by decide), hF.v hv]; exact e4
  · rw [rd_eq, hF.v hv, e5]
  · rw [rd_k (by decide), hF.v hv, e3]
    show r.1.2.2 - c0 = st.2.2 - c0
    rw [hy]
theorem LfA.ta {st : StS9} (hv : o + 5 < v0) (h : LfA v0 o M c0 r I) (h1 : BkA o M st I1) (hF : FrBk o I J I1 J) (hy : st.2.2 = r.1.2.2) : LfA v0 o M c0 (st, r.2) I1 := by
  obtain ⟨-, e7, e2, e4, e5, e3⟩ := h
  refine ⟨h1, ?_, ?_, ?_, ?_, ?_⟩
  · rw [hF.v hv]; exact e7
  · rw [hF.v hv]; exact e2
  · rw [hF.v hv]; exact e4
  · rw [hF.v hv]; exact e5
  · rw [hF.v hv, e3]
    show r.1.2.2 - c0 = st.2.2 - c0
    rw [hy]
theorem LfA.sd {x : Int32} (hv : o + 5 < v0) (h : LfA v0 o M c0 r I) : LfA v0 o M c0 (sd9 x r) (uI I v0 7 x) := by
  obtain ⟨e1, e7, e2, e4, e5, e3⟩ := h
  exact ⟨e1.lf hv, rd_eq, (rd_k (by decide)).trans e2, (rd_k (by decide)).trans e4, (rd_k (by decide)).trans e5, (rd_k (by decide)).trans e3⟩
theorem LfA.sd3 {x y z : Int32} (hv : o + 5 < v0) (h : LfA v0 o M c0 r I) : LfA v0 o M c0 (sd9 z r) (uI (uI (uI I v0 7 x) v0 7 y) v0 7 z) := by
  have k := ((h.sd (x := x) hv).sd (x := y) hv).sd (x := z) hv
  exact k
theorem LfA.ms {x z : Int32} (hv : o + 5 < v0) (h : LfA v0 o M c0 r I) : LfA v0 o M c0 (ms9 x (z, r)) (uI I v0 2 (x + b9 z)) := by
  obtain ⟨e1, e7, e2, e4, e5, e3⟩ := h
  exact ⟨e1.lf hv, (rd_k (by decide)).trans e7, rd_eq, (rd_k (by decide)).trans e4, (rd_k (by decide)).trans e5, (rd_k (by decide)).trans e3⟩
theorem px_cDraw {e : Nat} {n : Int32} (hL : isO 112 v0 4 = true) (hn : (1 : Int32) ≤ n) (hQ : Q (dm9 (dr9 (I v0 7)) n) 0 (uI I v0 7 (dr9 (I v0 7))) J R) : AM (e + 1) 52 112 [.ref v0, .int n] I J R Q := by
  refine w_X4_draw (bif_t hL ⟨by decide, bif_t hL ⟨fun _ => bif_t hL ⟨by decide, fun z => by rw [z] at hn; exact absurd hn (by decide), ?_⟩, fun c => absurd hn c⟩⟩)
  rw [rd_eq]
  exact hQ
theorem px_lCut {e : Nat} {d a b : Int32} (hL : isO 112 v0 4 = true) (hO : isO 112 o 0 = true) (hv : o + 5 < v0) (h : LfA v0 o M c0 r I) (hQ : ∀ I2, LfA v0 o M c0 (sv9 r (opCut d a b r.1)).2 I2 → FrAc v0 o I J I2 J → Q (sv9 r (opCut d a b r.1)).1 0 I2 J R) : AM (e + 3) 48 112 [.ref v0, .ref o, .int d, .int a, .int b] I J R Q := by
  have hy := cut_c9 (d := d) (a := a) (b := b) (s := r.1)
  refine w_X4_cutUp (bif_t hO (px_cutUp hO h.1 (fun I1 h1 hF => ⟨fun c => bif_t hL ⟨fun _ => bif_t hL ⟨Or.inl rfl, ?_⟩, fun z => absurd rfl z⟩, fun c => bif_t hL ⟨fun z => absurd z (by decide), fun _ => bif_t hL ⟨Or.inr rfl, ?_⟩⟩⟩)))
  · have e0 : b9 (opCut d a b r.1).1 = 0 := if_neg c
    have k := hQ _ (h.cu hv h1 hF hy) (hF.ac.u (Or.inr ⟨rfl, by decide⟩))
    unfold sv9 at k
    rw [e0] at k
    exact k
  · have e0 : b9 (opCut d a b r.1).1 = 1 := if_pos c
    have k := hQ _ (h.cu hv h1 hF hy) (hF.ac.u (Or.inr ⟨rfl, by decide⟩))
    unfold sv9 at k
    rw [e0] at k
    exact k
theorem px_lSplit {e : Nat} {d n : Int32} (hL : isO 112 v0 4 = true) (hO : isO 112 o 0 = true) (hv : o + 5 < v0) (h : LfA v0 o M c0 r I) (hQ : ∀ I2, LfA v0 o M c0 (sv9 r (opSplit d n r.1)).2 I2 → FrAc v0 o I J I2 J → Q (sv9 r (opSplit d n r.1)).1 0 I2 J R) : AM (e + 3) 49 112 [.ref v0, .ref o, .int d, .int n] I J R Q := by
  have hy := split_c9 (d := d) (n := n) (s := r.1)
  refine w_X4_splitUp (bif_t hO (px_splitUp hO h.1 (fun I1 h1 hF => ⟨fun c => bif_t hL ⟨fun _ => bif_t hL ⟨Or.inl rfl, ?_⟩, fun z => absurd rfl z⟩, fun c => bif_t hL ⟨fun z => absurd z (by decide), fun _ => bif_t hL ⟨Or.inr rfl, ?_⟩⟩⟩)))
  · have e0 : b9 (opSplit d n r.1).1 = 0 := if_neg c
    have k := hQ _ (h.cu hv h1 hF hy) (hF.ac.u (Or.inr ⟨rfl, by decide⟩))
    unfold sv9 at k
    rw [e0] at k
    exact k
  · have e0 : b9 (opSplit d n r.1).1 = 1 := if_pos c
    have k := hQ _ (h.cu hv h1 hF hy) (hF.ac.u (Or.inr ⟨rfl, by decide⟩))
    unfold sv9 at k
    rw [e0] at k
    exact k
theorem px_lSplit2 {e : Nat} {d n : Int32} {s1 : StS9} (e1 : r.1 = s1) (hL : isO 112 v0 4 = true) (hO : isO 112 o 0 = true) (hv : o + 5 < v0) (h : LfA v0 o M c0 r I) (hQ : ∀ I2, LfA v0 o M c0 (sv9 r (opSplit d n s1)).2 I2 → FrAc v0 o I J I2 J → Q (sv9 r (opSplit d n s1)).1 0 I2 J R) : AM (e + 3) 49 112 [.ref v0, .ref o, .int d, .int n] I J R Q := by
  subst e1
  exact px_lSplit hL hO hv h hQ
theorem px_lGive {e : Nat} {k d : Int32} (hL : isO 112 v0 4 = true) (hO : isO 112 o 0 = true) (hv : o + 5 < v0) (em : I o 4 = m) (hm : m.toInt = (M : Int) ∧ M ≤ 6) (h : LfA v0 o M c0 r I) (hQ : ∀ I2, LfA v0 o M c0 (gv9 m k d r).2 I2 → FrAc v0 o I J I2 J → Q (gv9 m k d r).1 0 I2 J R) : AM (e + 3) 50 112 [.ref v0, .ref o, .int k, .int d] I J R Q := by
  subst em
  have hy := give_c9 (m := I o 4) (k := k) (d := d) (s := r.1)
  refine w_X4_handOver (bif_t hO (px_handOver hO hm h.1 (fun I1 h1 hF => ⟨fun c => bif_t hL ⟨fun _ => bif_t hL ⟨Or.inl rfl, ?_⟩, fun z => absurd rfl z⟩, fun c => bif_t hL ⟨fun z => absurd z (by decide), fun _ => bif_t hL ⟨Or.inr rfl, ?_⟩⟩⟩)))
  · have e0 : b9 (opGive (I o 4) k d r.1).1 = 0 := if_neg c
    have k := hQ _ (h.gi (y := b9 (opGive (I o 4) k d r.1).1) hv h1 hF hy) (hF.ac.u (Or.inr ⟨rfl, by decide⟩))
    unfold gv9 at k
    rw [e0] at k
    exact k
  · have e0 : b9 (opGive (I o 4) k d r.1).1 = 1 := if_pos c
    have k := hQ _ (h.gi (y := b9 (opGive (I o 4) k d r.1).1) hv h1 hF hy) (hF.ac.u (Or.inr ⟨rfl, by decide⟩))
    unfold gv9 at k
    rw [e0] at k
    exact k
theorem px_lAdd {e : Nat} {n : Int32} (hL : isO 112 v0 4 = true) (hO : isO 112 o 0 = true) (hv : o + 5 < v0) (h : LfA v0 o M c0 r I) (hQ : ∀ I2, LfA v0 o M c0 (bv9 n r).2 I2 → FrAc v0 o I J I2 J → Q (bv9 n r).1 0 I2 J R) : AM (e + 2) 51 112 [.ref v0, .ref o, .int n] I J R Q := by
  have hy := add_c9 (n := n) (s := r.1)
  refine w_X4_addLoaves (bif_t hO (px_addLoaves hO h.1 (fun I1 h1 hF => ⟨fun c => bif_t hL ⟨fun _ => bif_t hL ⟨Or.inl rfl, ?_⟩, fun z => absurd rfl z⟩, fun c => bif_t hL ⟨fun z => absurd z (by decide), fun _ => bif_t hL ⟨Or.inr rfl, ?_⟩⟩⟩)))
  · have e0 : b9 (opAdd n r.1).1 = 0 := if_neg c
    have k := hQ _ (h.ba (y := if (opAdd n r.1).1 = 0 then n else 0) hv h1 hF hy) (hF.ac.u (Or.inr ⟨rfl, by decide⟩))
    unfold bv9 at k
    rw [e0, if_neg c] at k
    exact k
  · have e0 : b9 (opAdd n r.1).1 = 1 := if_pos c
    have k := hQ _ (h.ba (y := if (opAdd n r.1).1 = 0 then n else 0) hv h1 hF hy) (hF.ac.u (Or.inr ⟨rfl, by decide⟩))
    unfold bv9 at k
    rw [e0, if_pos c] at k
    exact k
theorem px_lAny {e : Nat} (hL : isO 112 v0 4 = true) (hO : isO 112 o 0 = true) (hv : o + 5 < v0) (em : I o 4 = m) (hm : m.toInt = (M : Int) ∧ M ≤ 6) (eo : I o 1 = od) (h : LfA v0 o M c0 r I) (hQ : ∀ I2, LfA v0 o M c0 (an9 m od r).2 I2 → FrAc v0 o I J I2 J → Q (an9 m od r).1 0 I2 J R) : AM (e + 4) 47 112 [.ref v0, .ref o] I J R Q := by
  refine w_X4_doAny (bif_t hO ?_)
  rw [em]
  have e7 := h.2.1
  refine ⟨fun c1 => bif_t hO (bif_t hL (px_cDraw hL c1 (bif_t hL (px_cDraw hL (by decide) (bif_t hL (px_cDraw hL (by decide) (bif_t hO ?_))))))), fun c1 => ?_⟩
  · have n0 : ¬ m = 0 := fun z => by rw [z] at c1; exact absurd c1 (by decide)
    rw [rd_eq, rd_eq, e7]
    have h3 : LfA v0 o M c0 (sd9 (dr9 (dr9 (dr9 r.2.1))) r) (uI (uI (uI I v0 7 (dr9 r.2.1)) v0 7 (dr9 (dr9 r.2.1))) v0 7 (dr9 (dr9 (dr9 r.2.1)))) := h.sd3 hv
    have hF3 : FrAc v0 o I J (uI (uI (uI I v0 7 (dr9 r.2.1)) v0 7 (dr9 (dr9 r.2.1))) v0 7 (dr9 (dr9 (dr9 r.2.1)))) J := ((FrW.rf.u (Or.inr ⟨rfl, by decide⟩)).u (Or.inr ⟨rfl, by decide⟩)).u (Or.inr ⟨rfl, by decide⟩)
    have em3 : uI (uI (uI I v0 7 (dr9 r.2.1)) v0 7 (dr9 (dr9 r.2.1))) v0 7 (dr9 (dr9 (dr9 r.2.1))) o 4 = m := by rw [rd_ne (by first | decide | omega), rd_ne (by first | decide | omega), rd_ne (by first | decide | omega)]; exact em
    have eo3 : uI (uI (uI I v0 7 (dr9 r.2.1)) v0 7 (dr9 (dr9 r.2.1))) v0 7 (dr9 (dr9 (dr9 r.2.1))) o 1 = od := by rw [rd_ne (by first | decide | omega), rd_ne (by first | decide | omega), rd_ne (by first | decide | omega)]; exact eo
    rw [eo3]
    generalize uI (uI (uI I v0 7 (dr9 r.2.1)) v0 7 (dr9 (dr9 r.2.1))) v0 7 (dr9 (dr9 (dr9 r.2.1))) = A at h3 hF3 em3
    refine ⟨fun c => bif_t hL ?_, fun c => bif_t hL ?_⟩
    · have ea : an9 m od r = gv9 m (dm9 (dr9 r.2.1) m) (dm9 (dr9 (dr9 r.2.1)) 30 + 1) (sd9 (dr9 (dr9 (dr9 r.2.1))) r) := (if_neg n0).trans (if_pos c)
      rw [ea] at hQ
      exact px_lGive hL hO hv em3 hm h3 (fun I2 h2 hF hb => ⟨hb, hQ I2 h2 (hF3.tr hF)⟩)
    · have ea : an9 m od r = sv9 (sd9 (dr9 (dr9 (dr9 r.2.1))) r) (opSplit (dm9 (dr9 (dr9 r.2.1)) 30 + 1) 2 r.1) := (if_neg n0).trans (if_neg c)
      rw [ea] at hQ
      exact px_lSplit2 (s1 := r.1) sd9_1 hL hO hv h3 (fun I2 h2 hF hb => ⟨hb, hQ I2 h2 (hF3.tr hF)⟩)
  · have n0 : m = 0 := by
      apply Int32.toInt_inj.mp
      rw [le_i, show (1 : Int32).toInt = 1 from rfl] at c1
      rw [show (0 : Int32).toInt = 0 from rfl]
      omega
    have ea : an9 m od r = (0, r) := if_pos n0
    rw [ea] at hQ
    exact ⟨Or.inl rfl, hQ I h FrW.rf⟩
theorem px_lAct {e a : Nat} {c : CD} (hL : isO 112 v0 4 = true) (hO : isO 112 o 0 = true) (hP : isO 112 p 2 = true) (hv : o + 5 < v0) (ha : a < 60) (g1 : I (p + 1) a = c.1) (g2 : I (p + 2) a = c.2.1) (g3 : I (p + 3) a = c.2.2.1) (g4 : I (p + 4) a = c.2.2.2) (n14 : ¬ c.1 = 14) (em : I o 4 = m) (hm : m.toInt = (M : Int) ∧ M ≤ 6) (h : LfA v0 o M c0 r I) (hQ : ∀ I2, LfA v0 o M c0 (ac9 m od c r).2 I2 → FrAc v0 o I J I2 J → Q (ac9 m od c r).1 0 I2 J R) : AM (e + 4) 46 112 [.ref v0, .ref o, .ref p, .int (nI a)] I J R Q := by
  obtain ⟨a1, l1, -⟩ := fa_2_3 hP
  obtain ⟨a2, l2, -⟩ := fa_2_4 hP
  obtain ⟨a3, l3, -⟩ := fa_2_5 hP
  obtain ⟨a4, l4, -⟩ := fa_2_6 hP
  have v60 : vp_in (nI a) 60 := vp_nI (by omega) (by omega)
  have x1 : vp_in (nI a) (aL (p + 1)) := by rw [l1]; exact v60
  have x2 : vp_in (nI a) (aL (p + 2)) := by rw [l2]; exact v60
  have x3 : vp_in (nI a) (aL (p + 3)) := by rw [l3]; exact v60
  have x4 : vp_in (nI a) (aL (p + 4)) := by rw [l4]; exact v60
  refine w_X4_act (bif_t hP (bif_t a2 ⟨x2, bif_t hP (bif_t a3 ⟨x3, bif_t hP (bif_t a1 ⟨x1, ?_⟩)⟩)⟩))
  rw [tn_nI (by omega), g1, g2, g3, g4]
  refine ⟨fun c9 => bif_t hP (bif_t a4 ⟨x4, bif_t hL ?_⟩), fun n9 => ⟨fun c10 => bif_t hL ?_, fun n10 => ⟨fun c11 => bif_t hL ?_, fun n11 => ⟨fun c12 => bif_t hO ?_, fun n12 => bif_t hL ?_⟩⟩⟩⟩
  · have ea : ac9 m od c r = sv9 r (opCut c.2.1 c.2.2.1 c.2.2.2 r.1) := if_pos c9
    rw [ea] at hQ
    exact px_lCut hL hO hv h (fun I2 h2 hF hb => ⟨hb, hQ I2 h2 hF⟩)
  · have ea : ac9 m od c r = sv9 r (opSplit c.2.1 c.2.2.1 r.1) := (if_neg n9).trans (if_pos c10)
    rw [ea] at hQ
    exact px_lSplit hL hO hv h (fun I2 h2 hF hb => ⟨hb, hQ I2 h2 hF⟩)
  · have ea : ac9 m od c r = gv9 m c.2.1 c.2.2.1 r := (if_neg n9).trans ((if_neg n10).trans (if_pos c11))
    rw [ea] at hQ
    exact px_lGive hL hO hv em hm h (fun I2 h2 hF hb => ⟨hb, hQ I2 h2 hF⟩)
  · have ea : ac9 m od c r = sv9 r (opTake m c.2.1 c.2.2.1 r.1) := (if_neg n9).trans ((if_neg n10).trans ((if_neg n11).trans (if_pos c12)))
    rw [ea] at hQ
    have hm2 : (I o 4).toInt = (M : Int) ∧ M ≤ 6 := by rw [em]; exact hm
    refine px_handBack hO hm2 h.1 (fun I2 h2 hF => ?_)
    rw [em] at h2 ⊢
    have kq := hQ I2 (h.ta hv h2 hF take_c9) hF.ac
    unfold sv9 at kq
    refine ⟨fun z => ⟨Or.inl rfl, ?_⟩, fun z => ⟨Or.inr rfl, ?_⟩⟩
    · have e0 : b9 (opTake m c.2.1 c.2.2.1 r.1).1 = 0 := if_neg z
      rw [e0] at kq
      exact kq
    · have e0 : b9 (opTake m c.2.1 c.2.2.1 r.1).1 = 1 := if_pos z
      rw [e0] at kq
      exact kq
  · have ea : ac9 m od c r = bv9 c.2.1 r := (if_neg n9).trans ((if_neg n10).trans ((if_neg n11).trans ((if_neg n12).trans (if_neg n14))))
    rw [ea] at hQ
    exact px_lAdd hL hO hv h (fun I2 h2 hF hb => ⟨hb, hQ I2 h2 hF⟩)
theorem px_cmp9 {e : Nat} {a b : Int64} {g : Int32} (hQ : Q (bo9 (cp9 a g b)) 0 I J R) : AM (e + 1) 45 112 [.long a, .int g, .long b] I J R Q := by
  refine w_X4_compares ⟨fun n60 => ⟨fun n62 => ?_, fun c62 => ?_⟩, fun c60 => ?_⟩
  · have ec : cp9 a g b = decide (lg_cmp a b = (0 : Int32)) := (if_neg n60).trans (if_neg n62)
    rw [ec] at hQ
    refine ⟨fun c => ⟨Or.inl rfl, ?_⟩, fun c => ⟨Or.inr rfl, ?_⟩⟩
    · rw [bo9_f c] at hQ; exact hQ
    · rw [bo9_t c] at hQ; exact hQ
  · have ec : cp9 a g b = decide (¬ lg_cmp a b ≤ (0 : Int32)) := (if_neg n60).trans (if_pos c62)
    rw [ec] at hQ
    refine ⟨fun c => ⟨Or.inl rfl, ?_⟩, fun c => ⟨Or.inr rfl, ?_⟩⟩
    · rw [bo9_f (fun z => z c)] at hQ; exact hQ
    · rw [bo9_t c] at hQ; exact hQ
  · have ec : cp9 a g b = decide (¬ (0 : Int32) ≤ lg_cmp a b) := if_pos c60
    rw [ec] at hQ
    refine ⟨fun c => ⟨Or.inl rfl, ?_⟩, fun c => ⟨Or.inr rfl, ?_⟩⟩
    · rw [bo9_f (fun z => z c)] at hQ; exact hQ
    · rw [bo9_t c] at hQ; exact hQ
theorem of9 {y : Int64} {l : Int} (h : y.toInt = l) : y = Int64.ofInt l := by rw [← h]; exact (Int64.ofInt_toInt y).symm
/-- the tests' men and slices are there -/
noncomputable def VC9 (m : Int32) (c : CD) : Prop := (c.1 = 16 ∨ c.1 = 18 → (0 : Int32) ≤ c.2.1 ∧ c.2.1 < m) ∧ (c.1 = 17 → sq9 c.2.1)
theorem isTs_c {i : Int32} (h : isTs i = true) : i = 16 ∨ i = 17 ∨ i = 18 := by
  unfold isTs at h
  rw [Bool.or_eq_true, Bool.or_eq_true, beq_iff_eq, beq_iff_eq, beq_iff_eq] at h
  exact h
theorem px_lHold {e a : Nat} {c : CD} {du : Du9} (hO : isO 112 o 0 = true) (hP : isO 112 p 2 = true) (ha : a < 60) (g1 : I (p + 1) a = c.1) (g2 : I (p + 2) a = c.2.1) (g3 : I (p + 3) a = c.2.2.1) (g4 : I (p + 4) a = c.2.2.2) (hT : isTs c.1 = true) (hV : VC9 m c) (em : I o 4 = m) (hm : m.toInt = (M : Int) ∧ M ≤ 6) (hd : DuA o M du I) (hs : ∀ k, k < M → sh (du k).1 (du k).2) (h : BkA o M r.1 I) (hQ : Q (bo9 (ho9 du c r.1)) 0 I J R) : AM (e + 4) 44 112 [.ref o, .ref p, .int (nI a)] I J R Q := by
  obtain ⟨a1, l1, -⟩ := fa_2_3 hP
  obtain ⟨a2, l2, -⟩ := fa_2_4 hP
  obtain ⟨a3, l3, -⟩ := fa_2_5 hP
  obtain ⟨a4, l4, -⟩ := fa_2_6 hP
  obtain ⟨b0, k0, -⟩ := fa_0_0 hO
  have v60 : vp_in (nI a) 60 := vp_nI (by omega) (by omega)
  have x1 : vp_in (nI a) (aL (p + 1)) := by rw [l1]; exact v60
  have x2 : vp_in (nI a) (aL (p + 2)) := by rw [l2]; exact v60
  have x3 : vp_in (nI a) (aL (p + 3)) := by rw [l3]; exact v60
  have x4 : vp_in (nI a) (aL (p + 4)) := by rw [l4]; exact v60
  have hm2 : (I o 4).toInt = (M : Int) ∧ M ≤ 6 := by rw [em]; exact hm
  refine w_X4_holdsTrue (bif_t hP (bif_t a2 ⟨x2, bif_t hP (bif_t a4 ⟨x4, bif_t hP (bif_t a1 ⟨x1, ?_⟩)⟩)⟩))
  rw [tn_nI (by omega), g1, g2, g4]
  refine ⟨fun c16 => bif_t hO ?_, fun n16 => ⟨fun c17 => ?_, fun n17 => bif_t hO ?_⟩⟩
  · have hk := hV.1 (Or.inl c16)
    have hk2 : (0 : Int32) ≤ c.2.1 ∧ c.2.1 < I o 4 := by rw [em]; exact hk
    have nk := (mn_nn hk hm).1
    have eh : ho9 du c r.1 = decide (lg_cmp (Int64.ofInt (lk9 du r.1.2.1 (nn9 c.2.1))) 0 = (0 : Int32)) := if_pos c16
    rw [eh] at hQ
    refine px_cMan9 hO (fun _ _ => ⟨fun z => absurd z (by decide), fun _ => bif_t hO (px_lacking hO hk2 hm2 h hd (hs _ nk) (fun y hy => ?_))⟩) (fun z => absurd hk2 z)
    rw [← of9 hy] at hQ
    refine ⟨fun c => ⟨Or.inl rfl, ?_⟩, fun c => ⟨Or.inr rfl, ?_⟩⟩
    · rw [bo9_f c] at hQ; exact hQ
    · rw [bo9_t c] at hQ; exact hQ
  · have hq := hV.2 c17
    obtain ⟨-, q1, q2⟩ := sq_nn hq
    have eh : ho9 du c r.1 = cp9 (Int32.toInt64 (r.1.1 (nn9 c.2.1))) c.2.2.1 (Int32.toInt64 c.2.2.2) := (if_neg n16).trans (if_pos c17)
    rw [eh] at hQ
    refine px_sl9 (fun _ _ => ⟨fun z => absurd z (by decide), fun _ => bif_t hO (bif_t b0 ⟨by rw [k0]; exact sq_vp hq (by decide), bif_t hP (bif_t a3 ⟨x3, ?_⟩)⟩)⟩) (fun z => absurd hq z)
    have e1 : I (o + 1) (Int32.toNatClampNeg c.2.1) = r.1.1 (nn9 c.2.1) := h.1 _ q1 q2
    rw [e1, g3]
    refine px_cmp9 (fun _ => ?_)
    cases z : cp9 (Int32.toInt64 (r.1.1 (nn9 c.2.1))) c.2.2.1 (Int32.toInt64 c.2.2.2) with
    | true => rw [z] at hQ; exact ⟨fun y => absurd y (show ¬ bo9 true = 0 by decide), fun _ => ⟨Or.inr rfl, hQ⟩⟩
    | false => rw [z] at hQ; exact ⟨fun _ => ⟨Or.inl rfl, hQ⟩, fun y => absurd (show bo9 false = 0 from rfl) y⟩
  · have c18 : c.1 = 18 := (isTs_c hT).elim (fun z => absurd z n16) (fun z => z.elim (fun y => absurd y n17) id)
    have hk := hV.1 (Or.inr c18)
    have hk2 : (0 : Int32) ≤ c.2.1 ∧ c.2.1 < I o 4 := by rw [em]; exact hk
    have nk := (mn_nn hk hm).1
    have eh : ho9 du c r.1 = cp9 (Int64.ofInt (lk9 du r.1.2.1 (nn9 c.2.1))) c.2.2.1 ((Int32.toInt64 c.2.2.2) * 2329089562800) := (if_neg n16).trans (if_neg n17)
    rw [eh] at hQ
    refine px_cMan9 hO (fun _ _ => ⟨fun z => absurd z (by decide), fun _ => bif_t hO (px_lacking hO hk2 hm2 h hd (hs _ nk) (fun y hy => bif_t hP (bif_t a3 ⟨x3, ?_⟩)))⟩) (fun z => absurd hk2 z)
    rw [← of9 hy] at hQ
    rw [g3]
    refine px_cmp9 (fun _ => ?_)
    cases z : cp9 y c.2.2.1 ((Int32.toInt64 c.2.2.2) * 2329089562800) with
    | true => rw [z] at hQ; exact ⟨fun y => absurd y (show ¬ bo9 true = 0 by decide), fun _ => ⟨Or.inr rfl, hQ⟩⟩
    | false => rw [z] at hQ; exact ⟨fun _ => ⟨Or.inl rfl, hQ⟩, fun y => absurd (show bo9 false = 0 from rfl) y⟩
end RNC
end PT14x1
section PT14x2
/-! ===== the class lives its days: its turns ===== -/
section RND
variable {I : Im} {J : Jm} {R : Rm} {Q : Qt} {M v0 o p : Nat} {c0 : Int32} {r : Rn9} {m od : Int32} {s : DS} {du : Du9}
theorem nle_b9 {a b : Nat} (ha : a < 2 ^ 31) (hb : b < 2 ^ 31) : nI a ≤ nI b ↔ a ≤ b := by
  rw [Int32.le_iff_toInt_le, nI_toInt ha, nI_toInt hb]; omega
theorem nI_s1 {a : Nat} : nI a + 1 = nI (a + 1) := nI_k1 a
theorem px_lStep {e a : Nat} {c : CD} (hL : isO 112 v0 4 = true) (hO : isO 112 o 0 = true) (hP : isO 112 p 2 = true) (hv : o + 5 < v0) (ha : a < 60) (ep : I p 2 = nI (dL s)) (g1 : I (p + 1) a = c.1) (g2 : I (p + 2) a = c.2.1) (g3 : I (p + 3) a = c.2.2.1) (g4 : I (p + 4) a = c.2.2.2) (g5 : I (p + 5) a = nI (dM s a)) (n20 : ¬ c.1 = 20) (hV : VC9 m c) (em : I o 4 = m) (hm : m.toInt = (M : Int) ∧ M ≤ 6) (eo : I o 1 = od) (hd : DuA o M du I) (hs : ∀ k, k < M → sh (du k).1 (du k).2) (h : LfA v0 o M c0 r I)
    (q21 : c.1 = 21 → Q (nI (dL s)) 0 I J R) (q19 : c.1 = 19 → Q (nI (a + 1)) 0 (uI I (v0 + 1) a c.2.1) J R) (qT : isTs c.1 = true → (ho9 du c r.1 = true → Q (nI (a + 1)) 0 I J R) ∧ (¬ ho9 du c r.1 = true → Q (nI (dM s a + 1)) 0 I J R)) (qA : ¬ c.1 = 21 → ¬ c.1 = 19 → ¬ isTs c.1 = true → ∀ I2, LfA v0 o M c0 (do9 m od c r) I2 → FrAc v0 o I J I2 J → Q (nI (a + 1)) 0 I2 J R) : AM (e + 5) 43 112 [.ref v0, .ref o, .ref p, .int (nI a)] I J R Q := by
  obtain ⟨a1, l1, -⟩ := fa_2_3 hP
  obtain ⟨a2, l2, -⟩ := fa_2_4 hP
  obtain ⟨a5, l5, -⟩ := fa_2_7 hP
  obtain ⟨w1, k1, -⟩ := fa_4_8 hL
  have v60 : vp_in (nI a) 60 := vp_nI (by omega) (by omega)
  have x1 : vp_in (nI a) (aL (p + 1)) := by rw [l1]; exact v60
  have x2 : vp_in (nI a) (aL (p + 2)) := by rw [l2]; exact v60
  have x5 : vp_in (nI a) (aL (p + 5)) := by rw [l5]; exact v60
  have xw : vp_in (nI a) (aL (v0 + 1)) := by rw [k1]; exact v60
  have e2 := h.2.2.1
  have T : isTs c.1 = true → AM (e + 4) 44 112 [.ref o, .ref p, .int (nI a)] I J R (fun x5 _ I5 J5 _ => (x5 = 0 ∨ x5 = 1) → ((x5 = (0 : Int32) → (bif isO 112 p 2 then (bif isA 112 (p + 5) 0 then (vp_in (nI a) (aL (p + 5)) ∧ Q ((I5 (p + 5) a) + 1) 0 I5 J5 R) else False) else False)) ∧ (¬ x5 = (0 : Int32) → Q (nI a + 1) 0 I5 J5 R))) := fun hT => by
    refine px_lHold hO hP ha g1 g2 g3 g4 hT hV em hm hd hs h.1 (fun _ => ?_)
    obtain ⟨t1, t2⟩ := qT hT
    cases z : ho9 du c r.1 with
    | true => exact ⟨fun y => absurd y (show ¬ bo9 true = 0 by decide), fun _ => by rw [nI_s1]; exact t1 z⟩
    | false => exact ⟨fun _ => bif_t hP (bif_t a5 ⟨x5, by rw [g5, nI_s1]; exact t2 (by rw [z]; decide)⟩), fun y => absurd (show bo9 false = 0 from rfl) y⟩
  have A : ¬ c.1 = 14 → ¬ c.1 = 21 → ¬ c.1 = 19 → ¬ isTs c.1 = true → AM (e + 4) 46 112 [.ref v0, .ref o, .ref p, .int (nI a)] I J R (fun x6 _ I6 J6 _ => (x6 = 0 ∨ x6 = 1) → ((x6 = (0 : Int32) → (bif isO 112 v0 4 then Q (nI a + 1) 0 (uI I6 v0 2 ((I v0 2) + 1)) J6 R else False)) ∧ (¬ x6 = (0 : Int32) → (bif isO 112 v0 4 then Q (nI a + 1) 0 (uI I6 v0 2 ((I v0 2) + 0)) J6 R else False)))) := fun n14 n21 n19 nT => by
    refine px_lAct (od := od) hL hO hP hv ha g1 g2 g3 g4 n14 em hm h (fun I2 h2 hF _ => ?_)
    have k := qA n21 n19 nT _ (LfA.ms (x := r.2.2.1) (z := (ac9 m od c r).1) hv h2) (hF.u (Or.inr ⟨rfl, by decide⟩))
    rw [e2, nI_s1]
    refine ⟨fun z => bif_t hL ?_, fun z => bif_t hL ?_⟩
    · rw [show b9 (ac9 m od c r).1 = 1 from if_pos z] at k; exact k
    · rw [show b9 (ac9 m od c r).1 = 0 from if_neg z] at k; exact k
  refine w_X4_behindStep (bif_t hP (bif_t a1 ⟨x1, ?_⟩))
  rw [tn_nI (by omega), g1]
  refine ⟨fun c14 => bif_t hL (bif_t hL (px_lAny hL hO hv em hm eo h (fun I2 h2 hF _ => ?_))), fun n14 => ⟨fun c15 => bif_t hL (bif_t hL (A n14 (by rw [c15]; decide) (by rw [c15]; decide) (by rw [c15]; decide))), fun n15 => ⟨fun c16 => T (by rw [c16]; decide), fun n16 => ⟨fun c17 => T (by rw [c17]; decide), fun n17 => ⟨fun c18 => T (by rw [c18]; decide), fun n18 => ⟨fun c19 => bif_t hL (bif_t hP (bif_t a2 ⟨x2, bif_t w1 ⟨xw, ?_⟩⟩)), fun n19 => ⟨fun c20 => absurd c20 n20, fun _ => ⟨fun c21 => bif_t hP ?_, fun n21 => bif_t hL (bif_t hL (A n14 n21 n19 (fun z => (isTs_c z).elim n16 (fun y => y.elim n17 n18))))⟩⟩⟩⟩⟩⟩⟩⟩
  · have ea : ac9 m od c r = an9 m od r := (if_neg (by rw [c14]; decide)).trans ((if_neg (by rw [c14]; decide)).trans ((if_neg (by rw [c14]; decide)).trans ((if_neg (by rw [c14]; decide)).trans (if_pos c14))))
    have k := qA (by rw [c14]; decide) (by rw [c14]; decide) (by rw [c14]; decide) (uI I2 v0 2 (r.2.2.1 + b9 (an9 m od r).1)) (by unfold do9; rw [ea]; exact LfA.ms (x := r.2.2.1) (z := (an9 m od r).1) hv h2) (hF.u (Or.inr ⟨rfl, by decide⟩))
    rw [e2, nI_s1]
    refine ⟨fun z => bif_t hL ?_, fun z => bif_t hL ?_⟩
    · rw [show b9 (an9 m od r).1 = 1 from if_pos z] at k; exact k
    · rw [show b9 (an9 m od r).1 = 0 from if_neg z] at k; exact k
  · rw [g2, nI_s1]; exact q19 c19
  · rw [ep]; exact q21 c21
theorem px_lEnd {e a : Nat} {q : Nat → Int32} (hL : isO 112 v0 4 = true) (hP : isO 112 p 2 = true) (ha : a < 60) (hS : SDc s p I) (hq : ∀ k, k < 60 → I (v0 + 1) k = q k) (h1 : a < dL s) (h2 : dM s a < a)
    (hQ : Q (if (dC s (dM s a)).1 = 19 ∧ ¬ q (dM s a) ≤ 1 then nI (dM s a + 1) else nI (a + 1)) 0 (if (dC s (dM s a)).1 = 19 ∧ ¬ q (dM s a) ≤ 1 then uI I (v0 + 1) (dM s a) (q (dM s a) - 1) else I) J R) : AM (e + 1) 42 112 [.ref v0, .ref p, .int (nI a)] I J R Q := by
  obtain ⟨a1, l1, -⟩ := fa_2_3 hP
  obtain ⟨a5, l5, -⟩ := fa_2_7 hP
  obtain ⟨w1, k1, -⟩ := fa_4_8 hL
  have v60 : vp_in (nI a) 60 := vp_nI (by omega) (by omega)
  have m60 : vp_in (nI (dM s a)) 60 := vp_nI (by omega) (by omega)
  have x5 : vp_in (nI a) (aL (p + 5)) := by rw [l5]; exact v60
  have y1 : vp_in (nI (dM s a)) (aL (p + 1)) := by rw [l1]; exact m60
  have yw : vp_in (nI (dM s a)) (aL (v0 + 1)) := by rw [k1]; exact m60
  have em : I (p + 5) a = nI (dM s a) := (hS.2 a h1).2.2.2.2
  have ec : I (p + 1) (dM s a) = (dC s (dM s a)).1 := (hS.2 (dM s a) (by omega)).1
  have eq : I (v0 + 1) (dM s a) = q (dM s a) := hq _ (by omega)
  refine am_X4_behindEnd (fun P hc => sg_X4_behindEnd_0 hc _ _ _ _ _ _ (bif_t hP (bif_t a5 ⟨x5, ?_⟩)))
  rw [tn_nI (by omega), em]
  refine ⟨fun z => absurd z (nI_pos (by omega)), fun _ => ⟨fun z => absurd ((nle_nI (by omega) (by omega)).mp z) (by omega), fun _ => ⟨fun z => absurd z (by decide), fun _ => bif_t hP (bif_t a1 ⟨y1, ?_⟩)⟩⟩⟩
  rw [tn_nI (by omega), ec, eq, nI_s1, nI_s1]
  refine ⟨fun n19 => ?_, fun c19 => bif_t hL (bif_t w1 ⟨yw, fun c => ?_, fun c => bif_t hL (bif_t w1 ⟨yw, bif_t w1 ⟨yw, ?_⟩⟩)⟩)⟩
  · rw [if_neg (fun z => n19 z.1), if_neg (fun z => n19 z.1)] at hQ; exact hQ
  · rw [if_neg (fun z => z.2 c), if_neg (fun z => z.2 c)] at hQ; exact hQ
  · rw [if_pos ⟨c19, c⟩, if_pos ⟨c19, c⟩] at hQ; exact hQ
theorem SDc.lf {I2 : Im} {J2 : Jm} (ho : o + 5 < p) (hp : p + 5 < v0) (h : SDc s p I) (hF : FrLf v0 o I J I2 J2) : SDc s p I2 := by
  have e : ∀ c, p ≤ c → c ≤ p + 5 → I2 c = I c := fun c a b => hF.c (fun k q => by rcases q with (q | q | q) | q | q <;> omega)
  refine ⟨by rw [e p (by omega) (by omega)]; exact h.1, fun k hk => ?_⟩
  rw [e (p + 1) (by omega) (by omega), e (p + 2) (by omega) (by omega), e (p + 3) (by omega) (by omega), e (p + 4) (by omega) (by omega), e (p + 5) (by omega) (by omega)]
  exact h.2 k hk
theorem DuA.lf {I2 : Im} {J2 : Jm} (ho : o + 5 < p) (hp : p + 5 < v0) (h : DuA o M du I) (hF : FrLf v0 o I J I2 J2) : DuA o M du I2 := by
  have e3 : I2 (o + 3) = I (o + 3) := hF.c (fun k q => by rcases q with (q | q | q) | q | q <;> omega)
  have e4 : I2 (o + 4) = I (o + 4) := hF.c (fun k q => by rcases q with (q | q | q) | q | q <;> omega)
  unfold DuA
  rw [e3, e4]
  exact h
theorem px_run4 {e : Nat} {sd : Int32} {st : StS9} (hL : isO 112 v0 4 = true) (hO : isO 112 o 0 = true) (hP : isO 112 p 2 = true) (ho : o + 5 < p) (hp : p + 5 < v0) (hD : DOk s) (hW : Wf9 s) (hS : SDc s p I) (hV : ∀ a, a < dL s → VC9 m (dC s a)) (em : I o 4 = m) (hm : m.toInt = (M : Int) ∧ M ≤ 6) (eo : I o 1 = od) (hd : DuA o M du I) (hs : ∀ k, k < M → sh (du k).1 (du k).2) (h : BkA o M st I)
    (hQ : ∀ I2, LfA v0 o M st.2.2 (rn9 s m od du 1000000 0 (I (v0 + 1)) 0 (st, sd, 0, 0, 0)).2.2 I2 → I2 v0 0 = 1 → I2 v0 1 = nI (rn9 s m od du 1000000 0 (I (v0 + 1)) 0 (st, sd, 0, 0, 0)).2.1 → I2 v0 6 = (rn9 s m od du 1000000 0 (I (v0 + 1)) 0 (st, sd, 0, 0, 0)).1 → FrLf v0 o I J I2 J → Q 0 0 I2 J R) : AM (e + 6) 41 112 [.ref v0, .ref o, .ref p, .int sd] I J R Q := by
  have hL60 : dL s ≤ 60 := by have := hD.1; have := hD.2.2.1; omega
  refine am_X4_run (fun P hc => sg_X4_run_0 hc _ _ _ _ _ _ _ (bif_t hL ⟨Or.inr rfl, bif_t hL (bif_t hL (bif_t hL (bif_t hL (bif_t hL (bif_t hL (bif_t hL ?_))))))⟩))
  have fin : ∀ (q : Nat → Int32) (f t a n : Nat) (r : Rn9) (M1 : Im), t ≤ 1000000 → (∀ k, k < 60 → M1 (v0 + 1) k = q k) → n ≤ 300 → FrLf v0 o I J M1 J → M1 v0 0 = 1 → M1 v0 1 = nI n → LfA v0 o M st.2.2 r M1 → (∀ I2, LfA v0 o M st.2.2 r I2 → I2 v0 0 = 1 → I2 v0 1 = nI n → I2 v0 6 = 1 → FrLf v0 o I J I2 J → Q 0 0 I2 J R) → P 46 112 [(0, .ref v0), (1, .ref o), (2, .ref p), (4, .int (nI a)), (5, .int (nI t))] [] (uI M1 v0 6 1) J R := by
    intro q f t a n r M1 ht hq hn hF e0 e1 hA hQ1
    have k : Q 0 0 (uI M1 v0 6 1) J R := hQ1 _ ⟨hA.1.lf (by omega), (rd_k (by decide)).trans hA.2.1, (rd_k (by decide)).trans hA.2.2.1, (rd_k (by decide)).trans hA.2.2.2.1, (rd_k (by decide)).trans hA.2.2.2.2.1, (rd_k (by decide)).trans hA.2.2.2.2.2⟩ ((rd_k (by decide)).trans e0) ((rd_k (by decide)).trans e1) rd_eq (hF.u (Or.inr (Or.inl rfl)))
    refine sg_X4_run_46 hc _ _ _ _ _ _ _ _ ⟨fun _ => k, fun _ => bif_t hL ⟨fun _ => k, fun z => ?_⟩⟩
    rw [rd_eq] at z
    exact absurd z (by decide)
  have L : ∀ (f t a : Nat) (q : Nat → Int32) (n : Nat) (r : Rn9) (M1 : Im), t + f = 1000000 → a ≤ dL s → (∀ k, k < 60 → M1 (v0 + 1) k = q k) → n ≤ 300 → FrLf v0 o I J M1 J → M1 v0 0 = 1 → M1 v0 1 = nI n → M1 v0 6 = 0 → LfA v0 o M st.2.2 r M1 → (∀ I2, LfA v0 o M st.2.2 (rn9 s m od du f a q n r).2.2 I2 → I2 v0 0 = 1 → I2 v0 1 = nI (rn9 s m od du f a q n r).2.1 → I2 v0 6 = (rn9 s m od du f a q n r).1 → FrLf v0 o I J I2 J → Q 0 0 I2 J R) → P 46 112 [(0, .ref v0), (1, .ref o), (2, .ref p), (4, .int (nI a)), (5, .int (nI t))] [] M1 J R := by
    intro f
    induction f with
    | zero =>
      intro t a q n r M1 ht ha hq hn hF e0 e1 e6 hA hQ1
      exact sg_X4_run_46 hc _ _ _ _ _ _ _ _ ⟨fun _ => hQ1 M1 hA e0 e1 e6 hF, fun c => absurd ((nle_b9 (a := 1000000) (by omega) (by omega)).mpr (by omega)) c⟩
    | succ f ih =>
      intro t a q n r M1 ht ha hq hn hF e0 e1 e6 hA hQ1
      have hS1 := hS.lf ho hp hF
      have em1 : M1 o 4 = m := (hF.i (fun q => by rcases q with (q | q | q) | q | q <;> omega)).trans em
      have eo1 : M1 o 1 = od := (hF.i (fun q => by rcases q with (q | q | q) | q | q <;> omega)).trans eo
      have hd1 := hd.lf ho hp hF
      have er : rn9 s m od du (f + 1) a q n r = if dL s ≤ a then (0, n, r) else
        if (dC s a).1 = 20 then (if (dC s (dM s a)).1 = 19 ∧ ¬ q (dM s a) ≤ 1 then rn9 s m od du f (dM s a + 1) (upd q (dM s a) (q (dM s a) - 1)) n r else rn9 s m od du f (a + 1) q n r) else
        if 300 ≤ n then (1, n, r) else
        if (dC s a).1 = 21 then rn9 s m od du f (dL s) q (n + 1) r else
        if (dC s a).1 = 19 then rn9 s m od du f (a + 1) (upd q a (dC s a).2.1) (n + 1) r else
        if isTs (dC s a).1 = true then (if ho9 du (dC s a) r.1 = true then rn9 s m od du f (a + 1) q (n + 1) r else rn9 s m od du f (dM s a + 1) q (n + 1) r)
        else rn9 s m od du f (a + 1) q (n + 1) (do9 m od (dC s a) r) := rfl
      refine sg_X4_run_46 hc _ _ _ _ _ _ _ _ ⟨fun c => absurd ((nle_b9 (a := 1000000) (by omega) (by omega)).mp c) (by omega), fun _ => bif_t hL ⟨fun c => absurd e6 c, fun _ => ⟨fun c => absurd c (nI_pos (by omega)), fun _ => bif_t hP ?_⟩⟩⟩
      rw [hS1.1]
      refine ⟨fun c => ?_, fun c => ?_⟩
      · have c2 : dL s ≤ a := (nle_nI (by omega) (by omega)).mp c
        rw [er, if_pos c2] at hQ1
        exact hQ1 M1 hA e0 e1 e6 hF
      have c2 : ¬ dL s ≤ a := fun z => c ((nle_nI (by omega) (by omega)).mpr z)
      rw [er, if_neg c2] at hQ1
      obtain ⟨g1, g2, g3, g4, g5⟩ := hS1.2 a (by omega)
      obtain ⟨a1, l1, -⟩ := fa_2_3 hP
      have x1 : vp_in (nI a) (aL (p + 1)) := by rw [l1]; exact vp_nI (by omega) (by omega)
      obtain ⟨m1, m2, -⟩ := hW.2.2.2 a (by omega)
      refine bif_t hP (bif_t a1 ⟨x1, ?_⟩)
      rw [tn_nI (by omega), g1]
      refine ⟨fun n20 => bif_t hL ?_, fun c20 => bif_t hL ?_⟩
      · rw [if_neg n20] at hQ1
        rw [e1]
        refine ⟨fun c3 => bif_t hL (bif_t hL (bif_t hL ?_)), fun c3 => bif_t hL ?_⟩
        · have c4 : n < 300 := (nlt_nI (b := 300) (by omega) (by omega)).mp c3
          rw [if_neg (by omega : ¬ 300 ≤ n)] at hQ1
          rw [nI_s1]
          have hF2 : FrLf v0 o I J (uI M1 v0 1 (nI (n + 1))) J := hF.u (Or.inr (Or.inl rfl))
          have hS2 := hS.lf ho hp hF2
          obtain ⟨g1, g2, g3, g4, g5⟩ := hS2.2 a (by omega)
          have em2 : uI M1 v0 1 (nI (n + 1)) o 4 = m := (rd_ne (by first | decide | omega)).trans em1
          have eo2 : uI M1 v0 1 (nI (n + 1)) o 1 = od := (rd_ne (by first | decide | omega)).trans eo1
          have hd2 := hd.lf ho hp hF2
          have hA2 : LfA v0 o M st.2.2 r (uI M1 v0 1 (nI (n + 1))) := ⟨hA.1.lf (by omega), (rd_k (by decide)).trans hA.2.1, (rd_k (by decide)).trans hA.2.2.1, (rd_k (by decide)).trans hA.2.2.2.1, (rd_k (by decide)).trans hA.2.2.2.2.1, (rd_k (by decide)).trans hA.2.2.2.2.2⟩
          have f0 : uI M1 v0 1 (nI (n + 1)) v0 0 = 1 := (rd_k (by decide)).trans e0
          have f1 : uI M1 v0 1 (nI (n + 1)) v0 1 = nI (n + 1) := rd_eq
          have f6 : uI M1 v0 1 (nI (n + 1)) v0 6 = 0 := (rd_k (by decide)).trans e6
          have fq : ∀ k, k < 60 → uI M1 v0 1 (nI (n + 1)) (v0 + 1) k = q k := fun k hk => (rd_ne (by first | decide | omega)).trans (hq k hk)
          generalize uI M1 v0 1 (nI (n + 1)) = A at hF2 g1 g2 g3 g4 g5 em2 eo2 hd2 hA2 f0 f1 f6 fq hS2
          refine px_lStep hL hO hP (by omega) (by omega) hS2.1 g1 g2 g3 g4 g5 n20 (hV a (by omega)) em2 hm eo2 hd2 hs hA2 (fun c21 => ?_) (fun c19 => ?_) (fun hT => ?_) (fun n21 n19 nT I2 h2 hF3 => ?_)
          · rw [nI_s1]
            rw [if_pos c21] at hQ1
            exact ih (t + 1) (dL s) q (n + 1) r A (by omega) (Nat.le_refl _) fq (by omega) hF2 f0 f1 f6 hA2 hQ1
          · rw [nI_s1]
            rw [if_neg (by rw [c19]; decide), if_pos c19] at hQ1
            refine ih (t + 1) (a + 1) _ (n + 1) r _ (by omega) (by omega) (fun k hk => ?_) (by omega) (hF2.u (Or.inr (Or.inr rfl))) ((rd_ne (by first | decide | omega)).trans f0) ((rd_ne (by first | decide | omega)).trans f1) ((rd_ne (by first | decide | omega)).trans f6) ⟨hA2.1.lf (by omega), (rd_ne (by first | decide | omega)).trans hA2.2.1, (rd_ne (by first | decide | omega)).trans hA2.2.2.1, (rd_ne (by first | decide | omega)).trans hA2.2.2.2.1, (rd_ne (by first | decide | omega)).trans hA2.2.2.2.2.1, (rd_ne (by first | decide | omega)).trans hA2.2.2.2.2.2⟩ hQ1
            by_cases z : k = a
            · subst z; rw [rd_eq]; exact upd_at9.symm
            · rw [rd_k z]; exact (fq k hk).trans (upd_ne9 z).symm
          · rw [nI_s1]
            have b21 : ¬ (dC s a).1 = 21 := fun z => by rw [z] at hT; exact absurd hT (by decide)
            have b19 : ¬ (dC s a).1 = 19 := fun z => by rw [z] at hT; exact absurd hT (by decide)
            rw [if_neg b21, if_neg b19, if_pos hT] at hQ1
            refine ⟨fun z => ?_, fun z => ?_⟩
            · rw [if_pos z] at hQ1
              exact ih (t + 1) (a + 1) q (n + 1) r A (by omega) (by omega) fq (by omega) hF2 f0 f1 f6 hA2 hQ1
            · rw [if_neg z] at hQ1
              exact ih (t + 1) (dM s a + 1) q (n + 1) r A (by omega) (by omega) fq (by omega) hF2 f0 f1 f6 hA2 hQ1
          · rw [nI_s1]
            rw [if_neg n21, if_neg n19, if_neg nT] at hQ1
            have o0 : ∀ k, k = 0 ∨ k = 1 ∨ k = 6 → I2 v0 k = A v0 k := fun k hk => hF3.i (fun q => by rcases q with (q | q | q) | q <;> omega)
            refine ih (t + 1) (a + 1) q (n + 1) _ I2 (by omega) (by omega) (fun k hk => (hF3.i (fun q => by rcases q with (q | q | q) | q <;> omega)).trans (fq k hk)) (by omega) (hF2.tr hF3.lf) ((o0 0 (by omega)).trans f0) ((o0 1 (by omega)).trans f1) ((o0 6 (by omega)).trans f6) h2 hQ1
        · have c4 : 300 ≤ n := by
            rcases Nat.lt_or_ge n 300 with z | z
            · exact absurd ((nlt_nI (b := 300) (by omega) (by omega)).mpr z) c3
            · exact z
          rw [if_pos c4] at hQ1
          rw [nI_s1]
          exact fin q f (t + 1) a n r M1 (by omega) hq hn hF e0 e1 hA hQ1
      · rw [if_pos c20] at hQ1
        refine px_lEnd hL hP (by omega) hS1 hq (by omega) (m2 c20) ?_
        rw [nI_s1]
        by_cases z : (dC s (dM s a)).1 = 19 ∧ ¬ q (dM s a) ≤ 1
        · rw [if_pos z] at hQ1
          rw [if_pos z, if_pos z]
          have m3 := m2 c20
          refine ih (t + 1) (dM s a + 1) _ n r _ (by omega) (by omega) (fun k hk => ?_) hn (hF.u (Or.inr (Or.inr rfl))) ((rd_ne (by first | decide | omega)).trans e0) ((rd_ne (by first | decide | omega)).trans e1) ((rd_ne (by first | decide | omega)).trans e6) ⟨hA.1.lf (by omega), (rd_ne (by first | decide | omega)).trans hA.2.1, (rd_ne (by first | decide | omega)).trans hA.2.2.1, (rd_ne (by first | decide | omega)).trans hA.2.2.2.1, (rd_ne (by first | decide | omega)).trans hA.2.2.2.2.1, (rd_ne (by first | decide | omega)).trans hA.2.2.2.2.2⟩ hQ1
          by_cases y : k = dM s a
          · subst y; rw [rd_eq]; exact upd_at9.symm
          · rw [rd_k y]; exact (hq k hk).trans (upd_ne9 y).symm
        · rw [if_neg z] at hQ1
          rw [if_neg z, if_neg z]
          exact ih (t + 1) (a + 1) q n r M1 (by omega) (by omega) hq hn hF e0 e1 e6 hA hQ1
  have hFs : FrLf v0 o I J (uI (uI (uI (uI (uI (uI (uI (uI I v0 0 1) v0 1 0) v0 2 0) v0 3 0) v0 4 0) v0 5 0) v0 6 0) v0 7 sd) J := (((((((FrW.rf.u (Or.inr (Or.inl rfl))).u (Or.inr (Or.inl rfl))).u (Or.inr (Or.inl rfl))).u (Or.inr (Or.inl rfl))).u (Or.inr (Or.inl rfl))).u (Or.inr (Or.inl rfl))).u (Or.inr (Or.inl rfl))).u (Or.inr (Or.inl rfl))
  refine L 1000000 0 0 (I (v0 + 1)) 0 (st, sd, 0, 0, 0) _ (by omega) (by omega) (fun k _ => ?_) (by omega) hFs ?_ ?_ ?_ ⟨?_, rd_eq, ?_, ?_, ?_, ?_⟩ hQ
  · rw [rd_ne (by first | decide | omega), rd_ne (by first | decide | omega), rd_ne (by first | decide | omega), rd_ne (by first | decide | omega), rd_ne (by first | decide | omega), rd_ne (by first | decide | omega), rd_ne (by first | decide | omega), rd_ne (by first | decide | omega)]
  · rw [rd_k (by decide), rd_k (by decide), rd_k (by decide), rd_k (by decide), rd_k (by decide), rd_k (by decide), rd_k (by decide), rd_eq]
  · show _ = (0 : Int32)
    rw [rd_k (by decide), rd_k (by decide), rd_k (by decide), rd_k (by decide), rd_k (by decide), rd_k (by decide), rd_eq]
  · rw [rd_k (by decide), rd_eq]
  · exact (((((((h.lf (by omega)).lf (by omega)).lf (by omega)).lf (by omega)).lf (by omega)).lf (by omega)).lf (by omega)).lf (by omega)
  · show _ = (0 : Int32)
    rw [rd_k (by decide), rd_k (by decide), rd_k (by decide), rd_k (by decide), rd_k (by decide), rd_eq]
  · show _ = (0 : Int32)
    rw [rd_k (by decide), rd_k (by decide), rd_k (by decide), rd_eq]
  · show _ = (0 : Int32)
    rw [rd_k (by decide), rd_k (by decide), rd_eq]
  · show _ = st.2.2 - st.2.2
    rw [rd_k (by decide), rd_k (by decide), rd_k (by decide), rd_k (by decide), rd_eq, Int32.sub_self]
end RND
end PT14x2
section PT14x3
/-! ===== the reference lives its days: one step's act, one test ===== -/
noncomputable abbrev WRz9 : Nat → Nat → Prop := fun c k => WRs c k ∨ (c = 97 ∧ (41 ≤ k ∧ k ≤ 48 ∧ ¬ k = 45))
noncomputable abbrev FrRz9 (I : Im) (J : Jm) (I2 : Im) (J2 : Jm) : Prop := FrW WRz9 nV I J I2 J2
noncomputable abbrev WRg9 : Nat → Nat → Prop := fun c k => WRs c k ∨ (c = 97 ∧ (k = 42 ∨ k = 46 ∨ k = 47))
noncomputable abbrev FrRg9 (I : Im) (J : Jm) (I2 : Im) (J2 : Jm) : Prop := FrW WRg9 nV I J I2 J2
/-- the run's numbers in the reference -/
noncomputable def RfM (M n : Nat) (r : Rn9) (I : Im) : Prop := BkR M r.1 I ∧ I 97 42 = r.2.1 ∧ I 97 44 = r.2.2.1 ∧ I 97 46 = r.2.2.2.1 ∧ I 97 47 = r.2.2.2.2 ∧ I 97 43 = nI n
/-- what a step's act is of is there -/
noncomputable def VA9 (m : Int32) (c : CD) : Prop := (c.1 = 9 → sq9 c.2.1 ∧ sq9 c.2.2.1 ∧ sq9 c.2.2.2) ∧ (c.1 = 10 → sq9 c.2.1 ∧ (2 : Int32) ≤ c.2.2.1 ∧ c.2.2.1 ≤ 30) ∧ (c.1 = 11 ∨ c.1 = 12 → ((0 : Int32) ≤ c.2.1 ∧ c.2.1 < m) ∧ sq9 c.2.2.1) ∧ (c.1 = 13 → (1 : Int32) ≤ c.2.1 ∧ c.2.1 ≤ 99)
theorem stW_k {i : Int32} (h : i = 9 ∨ i = 10 ∨ i = 11 ∨ i = 12 ∨ i = 13 ∨ i = 14) : (stW i = 0 → i = 9) ∧ (stW i = 1 → i = 10) ∧ (stW i = 2 → i = 11) ∧ (stW i = 3 → i = 12) ∧ (stW i = 4 → i = 13) ∧ (¬ stW i = 0 → ¬ stW i = 1 → ¬ stW i = 2 → ¬ stW i = 3 → ¬ stW i = 4 → i = 14) := by
  rcases h with rfl | rfl | rfl | rfl | rfl | rfl
  · exact ⟨fun _ => rfl, fun z => absurd z (show ¬ stW 9 = 1 by decide), fun z => absurd z (show ¬ stW 9 = 2 by decide), fun z => absurd z (show ¬ stW 9 = 3 by decide), fun z => absurd z (show ¬ stW 9 = 4 by decide), fun z _ _ _ _ => absurd (show stW 9 = 0 from rfl) z⟩
  · exact ⟨fun z => absurd z (show ¬ stW 10 = 0 by decide), fun _ => rfl, fun z => absurd z (show ¬ stW 10 = 2 by decide), fun z => absurd z (show ¬ stW 10 = 3 by decide), fun z => absurd z (show ¬ stW 10 = 4 by decide), fun _ z _ _ _ => absurd (show stW 10 = 1 from rfl) z⟩
  · exact ⟨fun z => absurd z (show ¬ stW 11 = 0 by decide), fun z => absurd z (show ¬ stW 11 = 1 by decide), fun _ => rfl, fun z => absurd z (show ¬ stW 11 = 3 by decide), fun z => absurd z (show ¬ stW 11 = 4 by decide), fun _ _ z _ _ => absurd (show stW 11 = 2 from rfl) z⟩
  · exact ⟨fun z => absurd z (show ¬ stW 12 = 0 by decide), fun z => absurd z (show ¬ stW 12 = 1 by decide), fun z => absurd z (show ¬ stW 12 = 2 by decide), fun _ => rfl, fun z => absurd z (show ¬ stW 12 = 4 by decide), fun _ _ _ z _ => absurd (show stW 12 = 3 from rfl) z⟩
  · exact ⟨fun z => absurd z (show ¬ stW 13 = 0 by decide), fun z => absurd z (show ¬ stW 13 = 1 by decide), fun z => absurd z (show ¬ stW 13 = 2 by decide), fun z => absurd z (show ¬ stW 13 = 3 by decide), fun _ => rfl, fun _ _ _ _ z => absurd (show stW 13 = 4 from rfl) z⟩
  · exact ⟨fun z => absurd z (show ¬ stW 14 = 0 by decide), fun z => absurd z (show ¬ stW 14 = 1 by decide), fun z => absurd z (show ¬ stW 14 = 2 by decide), fun z => absurd z (show ¬ stW 14 = 3 by decide), fun z => absurd z (show ¬ stW 14 = 4 by decide), fun _ _ _ _ _ => rfl⟩
section RNE
variable {I I1 : Im} {J : Jm} {R : Rm} {Q : Qt} {M n : Nat} {r : Rn9} {m od : Int32} {s : DS} {du : Du9}
theorem FrRs.rg (h : FrRs I J I1 J) : FrRg9 I J I1 J := h.up (fun _ _ q => Or.inl q) (fun _ _ q => q)
theorem FrRg9.rf (h : FrRg9 I J I1 J) : FrRz9 I J I1 J := h.up (fun _ _ q => q.elim Or.inl (fun z => Or.inr ⟨z.1, by have := z.2; omega⟩)) (fun _ _ q => q)
theorem FrRs.v (h : FrRs I J I1 J) (k : Nat) : I1 97 k = I 97 k := h.i (fun q => absurd q.1 (by decide))
theorem RfM.st {st : StS9} (h : RfM M n r I) (h1 : BkR M st I1) (hF : FrRs I J I1 J) : RfM M n (st, r.2) I1 := by
  obtain ⟨-, e2, e4, e6, e7, e3⟩ := h
  exact ⟨h1, (hF.v 42).trans e2, (hF.v 44).trans e4, (hF.v 46).trans e6, (hF.v 47).trans e7, (hF.v 43).trans e3⟩
theorem RfM.gi {st : StS9} {y : Int32} (h : RfM M n r I) (h1 : BkR M st I1) (hF : FrRs I J I1 J) : RfM M n (st, r.2.1, r.2.2.1, r.2.2.2.1 + y, r.2.2.2.2) (uI I1 97 46 (I1 97 46 + y)) := by
  obtain ⟨-, e2, e4, e6, e7, e3⟩ := h
  exact ⟨h1.sk, ((rd_k (by decide)).trans (hF.v 42)).trans e2, ((rd_k (by decide)).trans (hF.v 44)).trans e4, by rw [rd_eq, hF.v 46, e6], ((rd_k (by decide)).trans (hF.v 47)).trans e7, ((rd_k (by decide)).trans (hF.v 43)).trans e3⟩
theorem RfM.ba {st : StS9} {y : Int32} (h : RfM M n r I) (h1 : BkR M st I1) (hF : FrRs I J I1 J) : RfM M n (st, r.2.1, r.2.2.1, r.2.2.2.1, r.2.2.2.2 + y) (uI I1 97 47 (I1 97 47 + y)) := by
  obtain ⟨-, e2, e4, e6, e7, e3⟩ := h
  exact ⟨h1.sk, ((rd_k (by decide)).trans (hF.v 42)).trans e2, ((rd_k (by decide)).trans (hF.v 44)).trans e4, ((rd_k (by decide)).trans (hF.v 46)).trans e6, by rw [rd_eq, hF.v 47, e7], ((rd_k (by decide)).trans (hF.v 43)).trans e3⟩
theorem RfM.sd {x : Int32} (h : RfM M n r I) : RfM M n (sd9 x r) (uI I 97 42 x) := by
  obtain ⟨e1, e2, e4, e6, e7, e3⟩ := h
  exact ⟨e1.sk, rd_eq, (rd_k (by decide)).trans e4, (rd_k (by decide)).trans e6, (rd_k (by decide)).trans e7, (rd_k (by decide)).trans e3⟩
theorem RfM.sd3 {x y z : Int32} (h : RfM M n r I) : RfM M n (sd9 z r) (uI (uI (uI I 97 42 x) 97 42 y) 97 42 z) := by
  have k := ((h.sd (x := x)).sd (x := y)).sd (x := z)
  exact k
theorem RfM.ms {x z : Int32} (h : RfM M n r I) : RfM M n (ms9 x (z, r)) (uI I 97 44 (x + b9 z)) := by
  obtain ⟨e1, e2, e4, e6, e7, e3⟩ := h
  exact ⟨e1.sk, (rd_k (by decide)).trans e2, rd_eq, (rd_k (by decide)).trans e6, (rd_k (by decide)).trans e7, (rd_k (by decide)).trans e3⟩
theorem RfM.nx (h : RfM M n r I) : RfM M (n + 1) r (uI I 97 43 (nI (n + 1))) := by
  obtain ⟨e1, e2, e4, e6, e7, e3⟩ := h
  exact ⟨e1.sk, (rd_k (by decide)).trans e2, (rd_k (by decide)).trans e4, (rd_k (by decide)).trans e6, (rd_k (by decide)).trans e7, rd_eq⟩
theorem RfM.fl {k : Nat} {v : Int32} (hk : k = 41 ∨ k = 48) (h : RfM M n r I) : RfM M n r (uI I 97 k v) := by
  obtain ⟨e1, e2, e4, e6, e7, e3⟩ := h
  exact ⟨e1.sk, (rd_k (by omega)).trans e2, (rd_k (by omega)).trans e4, (rd_k (by omega)).trans e6, (rd_k (by omega)).trans e7, (rd_k (by omega)).trans e3⟩
theorem px_mDraw {e : Nat} {x : Int32} (hn : ¬ x = 0) (hQ : Q (dm9 (dr9 (I 97 42)) x) 0 (uI I 97 42 (dr9 (I 97 42))) J R) : AM (e + 1) 304 112 [.ref 97, .int x] I J R Q := by
  refine w_X12_draw ⟨by decide, by decide, hn, ?_⟩
  rw [rd_eq]
  exact hQ
theorem px_mGiven {e : Nat} {k d : Int32} (hk : (0 : Int32) ≤ k ∧ k < m) (hm : m.toInt = (M : Int) ∧ M ≤ 6) (hd : sq9 d) (hb : StB M r.1) (h : RfM M n r I) (hQ : ∀ I2, RfM M n (gv9 m k d r).2 I2 → FrRg9 I J I2 J → Q (gv9 m k d r).1 0 I2 J R) : AM (e + 3) 305 112 [.ref 97, .int k, .int d] I J R Q := by
  have nd := (sq_nn hd).2
  have nk := (mn_nn hk hm).1
  refine w_X12_isGiven (px_gives hk hm hd h.1 (hb.lo _ nd.1 nd.2) (hb.hv0 _ nk) (fun I2 h2 hF _ => ?_))
  have kq := hQ _ (h.gi (y := b9 (opGive m k d r.1).1) h2 hF) (hF.rg.u (Or.inr ⟨rfl, by decide⟩))
  unfold gv9 at kq
  refine ⟨fun z => ⟨b9_01, ?_⟩, fun z => ⟨b9_01, ?_⟩⟩
  · rw [z] at kq ⊢; exact kq
  · have z1 : b9 (opGive m k d r.1).1 = 1 := b9_01.resolve_left z
    rw [z1] at kq ⊢; exact kq
theorem px_mBaked {e : Nat} {x : Int32} (hx : (1 : Int32) ≤ x ∧ x ≤ 99) (h : RfM M n r I) (hQ : ∀ I2, RfM M n (bv9 x r).2 I2 → FrRg9 I J I2 J → Q (bv9 x r).1 0 I2 J R) : AM (e + 2) 306 112 [.ref 97, .int x] I J R Q := by
  refine w_X12_isBaked (px_bakes hx h.1 (fun I2 h2 hF _ => ?_))
  have kq := hQ _ (h.ba (y := if (opAdd x r.1).1 = 0 then x else 0) h2 hF) (hF.rg.u (Or.inr ⟨rfl, by decide⟩))
  unfold bv9 at kq
  refine ⟨fun z => ⟨b9_01, ?_⟩, fun z => ⟨b9_01, ?_⟩⟩
  · rw [if_neg (b9_z z)] at kq; exact kq
  · rw [if_pos (b9_nz z)] at kq; exact kq
theorem px_mSplits {e : Nat} {d x : Int32} (hd : sq9 d) (hx : (2 : Int32) ≤ x ∧ x ≤ 30) (hb : StB M r.1) (h : RfM M n r I) (hQ : ∀ I2, RfM M n (sv9 r (opSplit d x r.1)).2 I2 → FrRg9 I J I2 J → Q (sv9 r (opSplit d x r.1)).1 0 I2 J R) : AM (e + 2) 259 112 [.ref 97, .int d, .int x] I J R Q := by
  have nd := (sq_nn hd).2
  exact px_splits hd hx h.1 (hb.lo _ nd.1 nd.2) (fun I2 h2 hF => hQ I2 (h.st h2 hF) hF.rg)
theorem px_mSplits2 {e : Nat} {d x : Int32} {s1 : StS9} (e1 : r.1 = s1) (hd : sq9 d) (hx : (2 : Int32) ≤ x ∧ x ≤ 30) (hb : StB M s1) (h : RfM M n r I) (hQ : ∀ I2, RfM M n (sv9 r (opSplit d x s1)).2 I2 → FrRg9 I J I2 J → Q (sv9 r (opSplit d x s1)).1 0 I2 J R) : AM (e + 2) 259 112 [.ref 97, .int d, .int x] I J R Q := by
  subst e1
  exact px_mSplits hd hx hb h hQ
theorem px_mAny {e : Nat} (em : I 102 0 = m) (hm : m.toInt = (M : Int) ∧ M ≤ 6) (eo : I 102 1 = od) (hb : RB9 M r) (h : RfM M n r I) (hQ : ∀ I2, RfM M n (an9 m od r).2 I2 → FrRg9 I J I2 J → Q (an9 m od r).1 0 I2 J R) : AM (e + 4) 307 112 [.ref 97] I J R Q := by
  have t0 : Int32.toNatClampNeg 0 = 0 := rfl
  have t1 : Int32.toNatClampNeg 1 = 1 := rfl
  have v0 : vp_in 0 1620 := vp_of (a := 0) rfl (by decide) (by decide)
  have v1 : vp_in 1 1620 := vp_of (a := 1) rfl (by decide) (by decide)
  have e2 := h.2.1
  have d1 := dr9_in hb.2
  have d2 := dr9_in d1
  have d3 := dr9_in d2
  refine w_X12_isAny ⟨v0, ?_⟩
  rw [t0, t1, em]
  refine ⟨fun n0 => ⟨v0, px_mDraw n0 (px_mDraw (by decide) (px_mDraw (by decide) ⟨v1, ?_⟩))⟩, fun c0 => ?_⟩
  · rw [rd_eq, rd_eq, e2]
    have h3 : RfM M n (sd9 (dr9 (dr9 (dr9 r.2.1))) r) (uI (uI (uI I 97 42 (dr9 r.2.1)) 97 42 (dr9 (dr9 r.2.1))) 97 42 (dr9 (dr9 (dr9 r.2.1)))) := h.sd3
    have hF3 : FrRg9 I J (uI (uI (uI I 97 42 (dr9 r.2.1)) 97 42 (dr9 (dr9 r.2.1))) 97 42 (dr9 (dr9 (dr9 r.2.1)))) J := ((FrW.rf.u (Or.inr ⟨rfl, by decide⟩)).u (Or.inr ⟨rfl, by decide⟩)).u (Or.inr ⟨rfl, by decide⟩)
    have eo3 : uI (uI (uI I 97 42 (dr9 r.2.1)) 97 42 (dr9 (dr9 r.2.1))) 97 42 (dr9 (dr9 (dr9 r.2.1))) 102 1 = od := by rw [rd_ne (by decide), rd_ne (by decide), rd_ne (by decide)]; exact eo
    rw [eo3]
    generalize uI (uI (uI I 97 42 (dr9 r.2.1)) 97 42 (dr9 (dr9 r.2.1))) 97 42 (dr9 (dr9 (dr9 r.2.1))) = A at h3 hF3
    have m1 : 1 ≤ m.toInt := by
      have : ¬ m.toInt = 0 := fun z => n0 (Int32.toInt_inj.mp z)
      omega
    have k1 := dm9_in (n := m) d1 m1
    have k2 := dm9_in (n := 30) d2 (by decide)
    have e30 : (30 : Int32).toInt = 30 := rfl
    have i1' : (1 : Int32).toInt = 1 := rfl
    have es : (dm9 (dr9 (dr9 r.2.1)) 30 + 1).toInt = (dm9 (dr9 (dr9 r.2.1)) 30).toInt + 1 := ti_add rfl i1' (by omega)
    have hsl : sq9 (dm9 (dr9 (dr9 r.2.1)) 30 + 1) := ⟨by rw [le_i, es]; omega, by rw [le_i, es]; omega⟩
    have hk : (0 : Int32) ≤ dm9 (dr9 r.2.1) m ∧ dm9 (dr9 r.2.1) m < m := ⟨by rw [le_i, show (0 : Int32).toInt = 0 from rfl]; omega, by rw [Int32.lt_iff_toInt_lt]; omega⟩
    refine ⟨fun c => ?_, fun c => ?_⟩
    · have ea : an9 m od r = gv9 m (dm9 (dr9 r.2.1) m) (dm9 (dr9 (dr9 r.2.1)) 30 + 1) (sd9 (dr9 (dr9 (dr9 r.2.1))) r) := (if_neg n0).trans (if_pos c)
      rw [ea] at hQ
      exact px_mGiven (r := sd9 (dr9 (dr9 (dr9 r.2.1))) r) hk hm hsl (hb.sd d3).1 h3 (fun I2 h2 hF hb => ⟨hb, hQ I2 h2 (hF3.tr hF)⟩)
    · have ea : an9 m od r = sv9 (sd9 (dr9 (dr9 (dr9 r.2.1))) r) (opSplit (dm9 (dr9 (dr9 r.2.1)) 30 + 1) 2 r.1) := (if_neg n0).trans (if_neg c)
      rw [ea] at hQ
      exact px_mSplits2 (r := sd9 (dr9 (dr9 (dr9 r.2.1))) r) (s1 := r.1) sd9_1 hsl (by decide) hb.1 h3 (fun I2 h2 hF hb => ⟨hb, hQ I2 h2 (hF3.tr hF)⟩)
  · have ea : an9 m od r = (0, r) := if_pos c0
    rw [ea] at hQ
    exact ⟨Or.inl rfl, hQ I h FrW.rf⟩
theorem tn_w {w : Nat} (h : w + 8 < 1620) : Int32.toNatClampNeg (nI w) = w ∧ Int32.toNatClampNeg (nI w + 1) = w + 1 ∧ Int32.toNatClampNeg (nI w + 2) = w + 2 ∧ Int32.toNatClampNeg (nI w + 3) = w + 3 ∧ Int32.toNatClampNeg (nI w + 5) = w + 5 ∧ Int32.toNatClampNeg (nI w + 6) = w + 6 ∧ Int32.toNatClampNeg (nI w + 7) = w + 7 ∧ Int32.toNatClampNeg (nI w + 8) = w + 8 := by
  refine ⟨tn_nI (by omega), ?_, ?_, ?_, ?_, ?_, ?_, ?_⟩
  · rw [show (1 : Int32) = nI 1 from rfl, wk_k (by omega), tn_nI (by omega)]
  · rw [show (2 : Int32) = nI 2 from rfl, wk_k (by omega), tn_nI (by omega)]
  · rw [show (3 : Int32) = nI 3 from rfl, wk_k (by omega), tn_nI (by omega)]
  · rw [show (5 : Int32) = nI 5 from rfl, wk_k (by omega), tn_nI (by omega)]
  · rw [show (6 : Int32) = nI 6 from rfl, wk_k (by omega), tn_nI (by omega)]
  · rw [show (7 : Int32) = nI 7 from rfl, wk_k (by omega), tn_nI (by omega)]
  · rw [show (8 : Int32) = nI 8 from rfl, wk_k (by omega), tn_nI (by omega)]
theorem vp_w {w : Nat} (h : w + 8 < 1620) : vp_in (nI w) 1620 ∧ vp_in (nI w + 1) 1620 ∧ vp_in (nI w + 2) 1620 ∧ vp_in (nI w + 3) 1620 ∧ vp_in (nI w + 5) 1620 ∧ vp_in (nI w + 6) 1620 ∧ vp_in (nI w + 7) 1620 ∧ vp_in (nI w + 8) 1620 := by
  refine ⟨vp_of (a := ((w : Nat) : Int)) (nI_toInt (by omega)) (by omega) (by omega), ?_, ?_, ?_, ?_, ?_, ?_, ?_⟩
  · rw [show (1 : Int32) = nI 1 from rfl, wk_k (by omega)]; exact vp_of (a := ((w + 1 : Nat) : Int)) (nI_toInt (by omega)) (by omega) (by omega)
  · rw [show (2 : Int32) = nI 2 from rfl, wk_k (by omega)]; exact vp_of (a := ((w + 2 : Nat) : Int)) (nI_toInt (by omega)) (by omega) (by omega)
  · rw [show (3 : Int32) = nI 3 from rfl, wk_k (by omega)]; exact vp_of (a := ((w + 3 : Nat) : Int)) (nI_toInt (by omega)) (by omega) (by omega)
  · rw [show (5 : Int32) = nI 5 from rfl, wk_k (by omega)]; exact vp_of (a := ((w + 5 : Nat) : Int)) (nI_toInt (by omega)) (by omega) (by omega)
  · rw [show (6 : Int32) = nI 6 from rfl, wk_k (by omega)]; exact vp_of (a := ((w + 6 : Nat) : Int)) (nI_toInt (by omega)) (by omega) (by omega)
  · rw [show (7 : Int32) = nI 7 from rfl, wk_k (by omega)]; exact vp_of (a := ((w + 7 : Nat) : Int)) (nI_toInt (by omega)) (by omega) (by omega)
  · rw [show (8 : Int32) = nI 8 from rfl, wk_k (by omega)]; exact vp_of (a := ((w + 8 : Nat) : Int)) (nI_toInt (by omega)) (by omega) (by omega)
theorem px_mDoes {e w : Nat} {c : CD} (hw : w + 8 < 1620) (hc : c.1 = 9 ∨ c.1 = 10 ∨ c.1 = 11 ∨ c.1 = 12 ∨ c.1 = 13 ∨ c.1 = 14) (hk : I 102 w = stW c.1) (hr : RcO c (I 102) w) (hV : VA9 m c) (em : I 102 0 = m) (hm : m.toInt = (M : Int) ∧ M ≤ 6) (eo : I 102 1 = od) (hb : RB9 M r) (h : RfM M n r I) (hQ : ∀ I2, RfM M n (ac9 m od c r).2 I2 → FrRg9 I J I2 J → Q (ac9 m od c r).1 0 I2 J R) : AM (e + 5) 308 112 [.ref 97, .int (nI w)] I J R Q := by
  obtain ⟨t0, t1, t2, t3, -, -, -, -⟩ := tn_w hw
  obtain ⟨v0, v1, v2, v3, -, -, -, -⟩ := vp_w hw
  obtain ⟨s0, s1, s2, s3, s4, s5⟩ := stW_k hc
  obtain ⟨r9, r2, r1, -, -⟩ := hr
  obtain ⟨a9, a10, a11, a13⟩ := hV
  refine w_X12_does ⟨v0, v1, ?_⟩
  rw [t0, t1, t2, t3, hk]
  refine ⟨fun n0 => ⟨fun n1 => ⟨fun n2 => ⟨fun n3 => ⟨fun n4 => ?_, fun k4 => ?_⟩, fun k3 => ⟨v2, ?_⟩⟩, fun k2 => ⟨v2, ?_⟩⟩, fun k1 => ⟨v2, ?_⟩⟩, fun k0 => ⟨v2, v3, ?_⟩⟩
  · have q := s5 n0 n1 n2 n3 n4
    have ea : ac9 m od c r = an9 m od r := (if_neg (by rw [q]; decide)).trans ((if_neg (by rw [q]; decide)).trans ((if_neg (by rw [q]; decide)).trans ((if_neg (by rw [q]; decide)).trans (if_pos q))))
    rw [ea] at hQ
    exact px_mAny em hm eo hb h (fun I2 h2 hF hb => ⟨hb, hQ I2 h2 hF⟩)
  · have q := s4 k4
    have ea : ac9 m od c r = bv9 c.2.1 r := (if_neg (by rw [q]; decide)).trans ((if_neg (by rw [q]; decide)).trans ((if_neg (by rw [q]; decide)).trans ((if_neg (by rw [q]; decide)).trans (if_neg (by rw [q]; decide)))))
    rw [ea] at hQ
    rw [r1 (Or.inl q)]
    exact px_mBaked (a13 q) h (fun I2 h2 hF hb => ⟨hb, hQ I2 h2 hF⟩)
  · have q := s3 k3
    have ea : ac9 m od c r = sv9 r (opTake m c.2.1 c.2.2.1 r.1) := (if_neg (by rw [q]; decide)).trans ((if_neg (by rw [q]; decide)).trans ((if_neg (by rw [q]; decide)).trans (if_pos q)))
    rw [ea] at hQ
    obtain ⟨f1, f2⟩ := r2 (Or.inr (Or.inr q))
    obtain ⟨g1, g2⟩ := a11 (Or.inr q)
    have nd := (sq_nn g2).2
    have nk := (mn_nn g1 hm).1
    rw [f1, f2]
    exact px_takes g1 hm g2 h.1 (hb.1.hi _ nd.1 nd.2) (hb.1.hv0 _ nk) (fun I2 h2 hF hb => ⟨hb, hQ I2 (h.st h2 hF) hF.rg⟩)
  · have q := s2 k2
    have ea : ac9 m od c r = gv9 m c.2.1 c.2.2.1 r := (if_neg (by rw [q]; decide)).trans ((if_neg (by rw [q]; decide)).trans (if_pos q))
    rw [ea] at hQ
    obtain ⟨f1, f2⟩ := r2 (Or.inr (Or.inl q))
    obtain ⟨g1, g2⟩ := a11 (Or.inl q)
    rw [f1, f2]
    exact px_mGiven g1 hm g2 hb.1 h (fun I2 h2 hF hb => ⟨hb, hQ I2 h2 hF⟩)
  · have q := s1 k1
    have ea : ac9 m od c r = sv9 r (opSplit c.2.1 c.2.2.1 r.1) := (if_neg (by rw [q]; decide)).trans (if_pos q)
    rw [ea] at hQ
    obtain ⟨f1, f2⟩ := r2 (Or.inl q)
    obtain ⟨g1, g2⟩ := a10 q
    rw [f1, f2]
    exact px_mSplits g1 g2 hb.1 h (fun I2 h2 hF hb => ⟨hb, hQ I2 h2 hF⟩)
  · have q := s0 k0
    have ea : ac9 m od c r = sv9 r (opCut c.2.1 c.2.2.1 c.2.2.2 r.1) := if_pos q
    rw [ea] at hQ
    obtain ⟨f1, f2, f3⟩ := r9 q
    obtain ⟨g1, g2, g3⟩ := a9 q
    have nd := (sq_nn g1).2
    rw [f1, f2, f3]
    exact px_cuts g1 g2 g3 h.1 (hb.1.lo _ nd.1 nd.2) (fun I2 h2 hF hb => ⟨hb, hQ I2 (h.st h2 hF) hF.rg⟩)
theorem leafC9 {a b : Int64} {g : Int32} {V : Prop} (hV : V) (hQ : Q (bo9 (cp9 a g b)) 0 I J R) : ((¬ g = 60 → (V ∧ ((¬ g = 62 → ((¬ (lg_cmp a b) = (0 : Int32) → (((0 : Int32) = 0 ∨ (0 : Int32) = 1) ∧ Q 0 0 I J R)) ∧ ((lg_cmp a b) = (0 : Int32) → (((1 : Int32) = 0 ∨ (1 : Int32) = 1) ∧ Q 1 0 I J R)))) ∧ (g = 62 → (((lg_cmp a b) ≤ (0 : Int32) → (((0 : Int32) = 0 ∨ (0 : Int32) = 1) ∧ Q 0 0 I J R)) ∧ (¬ (lg_cmp a b) ≤ (0 : Int32) → (((1 : Int32) = 0 ∨ (1 : Int32) = 1) ∧ Q 1 0 I J R))))))) ∧ (g = 60 → (((0 : Int32) ≤ (lg_cmp a b) → (((0 : Int32) = 0 ∨ (0 : Int32) = 1) ∧ Q 0 0 I J R)) ∧ (¬ (0 : Int32) ≤ (lg_cmp a b) → (((1 : Int32) = 0 ∨ (1 : Int32) = 1) ∧ Q 1 0 I J R))))) := by
  refine ⟨fun n60 => ⟨hV, fun n62 => ?_, fun c62 => ?_⟩, fun c60 => ?_⟩
  · have ec : cp9 a g b = decide (lg_cmp a b = (0 : Int32)) := (if_neg n60).trans (if_neg n62)
    rw [ec] at hQ
    refine ⟨fun c => ⟨Or.inl rfl, ?_⟩, fun c => ⟨Or.inr rfl, ?_⟩⟩
    · rw [bo9_f c] at hQ; exact hQ
    · rw [bo9_t c] at hQ; exact hQ
  · have ec : cp9 a g b = decide (¬ lg_cmp a b ≤ (0 : Int32)) := (if_neg n60).trans (if_pos c62)
    rw [ec] at hQ
    refine ⟨fun c => ⟨Or.inl rfl, ?_⟩, fun c => ⟨Or.inr rfl, ?_⟩⟩
    · rw [bo9_f (fun z => z c)] at hQ; exact hQ
    · rw [bo9_t c] at hQ; exact hQ
  · have ec : cp9 a g b = decide (¬ (0 : Int32) ≤ lg_cmp a b) := if_pos c60
    rw [ec] at hQ
    refine ⟨fun c => ⟨Or.inl rfl, ?_⟩, fun c => ⟨Or.inr rfl, ?_⟩⟩
    · rw [bo9_f (fun z => z c)] at hQ; exact hQ
    · rw [bo9_t c] at hQ; exact hQ
theorem teW_k {i : Int32} (h : i = 16 ∨ i = 17 ∨ i = 18) : (teW i = 0 → i = 16) ∧ (teW i = 1 → i = 17) ∧ (¬ teW i = 0 → ¬ teW i = 1 → i = 18) := by
  rcases h with rfl | rfl | rfl
  · exact ⟨fun _ => rfl, fun z => absurd z (show ¬ teW 16 = 1 by decide), fun z _ => absurd (show teW 16 = 0 from rfl) z⟩
  · exact ⟨fun z => absurd z (show ¬ teW 17 = 0 by decide), fun _ => rfl, fun _ z => absurd (show teW 17 = 1 from rfl) z⟩
  · exact ⟨fun z => absurd z (show ¬ teW 18 = 0 by decide), fun z => absurd z (show ¬ teW 18 = 1 by decide), fun _ _ => rfl⟩
theorem px_mHold {e w : Nat} {c : CD} (hw : w + 8 < 1620) (hT : isTs c.1 = true) (hr : RcO c (I 102) w) (hV : VC9 m c) (em : I 102 0 = m) (hm : m.toInt = (M : Int) ∧ M ≤ 6) (hd : DuR M du I) (hs : ∀ k, k < M → sh (du k).1 (du k).2) (hb : StB M r.1) (h : BkR M r.1 I) (hQ : Q (bo9 (ho9 du c r.1)) 0 I J R) : AM (e + 4) 309 112 [.ref 97, .int (nI w)] I J R Q := by
  obtain ⟨t0, t1, t2, t3, t5, t6, t7, -⟩ := tn_w hw
  obtain ⟨v0, v1, v2, v3, v5, v6, v7, -⟩ := vp_w hw
  obtain ⟨s0, s1, s2⟩ := teW_k (isTs_c hT)
  obtain ⟨-, -, -, rT, r7⟩ := hr
  obtain ⟨f5, f1⟩ := rT hT
  refine w_X12_holds ⟨v5, v1, ?_⟩
  rw [t5, t1, t6, t7, f5, f1]
  refine ⟨fun n0 => ⟨fun n1 => ?_, fun k1 => ?_⟩, fun k0 => ?_⟩
  · have c18 := s2 n0 n1
    have hk := hV.1 (Or.inr c18)
    have nk := (mn_nn hk hm).1
    obtain ⟨f7, f6⟩ := r7 (Or.inr c18)
    have eh : ho9 du c r.1 = cp9 (Int64.ofInt (lk9 du r.1.2.1 (nn9 c.2.1))) c.2.2.1 ((Int32.toInt64 c.2.2.2) * 2329089562800) := (if_neg (by rw [c18]; decide)).trans (if_neg (by rw [c18]; decide))
    rw [eh] at hQ
    refine px_lackOf hk hm h (hb.hv0 _ nk) hd (hs _ nk) (fun y hy => ⟨fun _ => ⟨v6, v7, ?_⟩, fun z => absurd z n1⟩)
    rw [← of9 hy] at hQ
    rw [f7, f6]
    exact leafC9 v7 hQ
  · have c17 := s1 k1
    have hq := hV.2 c17
    obtain ⟨-, q1, q2⟩ := sq_nn hq
    obtain ⟨ix, vx⟩ := ix_st hq
    obtain ⟨f7, f6⟩ := r7 (Or.inl c17)
    have eh : ho9 du c r.1 = cp9 (Int32.toInt64 (r.1.1 (nn9 c.2.1))) c.2.2.1 (Int32.toInt64 c.2.2.2) := (if_neg (by rw [c17]; decide)).trans (if_pos c17)
    rw [eh] at hQ
    rw [ix, h.1 _ q1 q2, f7, f6]
    exact ⟨vx, fun z => absurd k1 z, fun _ => ⟨v6, v7, leafC9 v7 hQ⟩⟩
  · have c16 := s0 k0
    have hk := hV.1 (Or.inl c16)
    have nk := (mn_nn hk hm).1
    have eh : ho9 du c r.1 = decide (lg_cmp (Int64.ofInt (lk9 du r.1.2.1 (nn9 c.2.1))) 0 = (0 : Int32)) := if_pos c16
    rw [eh] at hQ
    refine px_lackOf hk hm h (hb.hv0 _ nk) hd (hs _ nk) (fun y hy => ?_)
    rw [← of9 hy] at hQ
    refine ⟨fun z => ⟨Or.inl rfl, ?_⟩, fun z => ⟨Or.inr rfl, ?_⟩⟩
    · rw [bo9_f z] at hQ; exact hQ
    · rw [bo9_t z] at hQ; exact hQ
end RNE
end PT14x3
section PT14x4
/-! ===== the reference lives its days: its steps, block in block ===== -/
noncomputable def Ev9 (s : DS) (M : Nat) (m od : Int32) (du : Du9) (I0 : Im) : Prop :=
  (I0 102 0 = m ∧ I0 102 1 = od ∧ DuR M du I0) ∧ (m.toInt = (M : Int) ∧ M ≤ 6) ∧ (∀ k, k < M → sh (du k).1 (du k).2) ∧ dN s ≤ 30 ∧
  ∀ t, t < dN s → (I0 102 (54 + 9 * t) = kcR (dC s (dSp s t)).1 ∧ RcO (dC s (dSp s t)) (I0 102) (54 + 9 * t) ∧ I0 102 (54 + 9 * t + 8) = nI (dNx s t)) ∧ VA9 m (dC s (dSp s t)) ∧ VC9 m (dC s (dSp s t))
/-- in the midst of a run -/
noncomputable def In9 (M : Nat) (I0 : Im) (J : Jm) (n : Nat) (r : Rn9) (I : Im) : Prop := FrRz9 I0 J I J ∧ RfM M n r I ∧ n ≤ 300 ∧ RB9 M r
section RNF
variable {I0 I : Im} {J : Jm} {R : Rm} {Q : Qt} {M n : Nat} {r : Rn9} {m od : Int32} {s : DS} {du : Du9}
theorem In9.i {j : Nat} (h : In9 M I0 J n r I) (hj : j = 0 ∨ j = 1 ∨ (34 ≤ j ∧ j ≤ 45) ∨ 52 ≤ j) : I 102 j = I0 102 j := h.1.i (fun q => by rcases q with ⟨-, q⟩ | q <;> omega)
theorem In9.dus (h : In9 M I0 J n r I) (hM : M ≤ 6) (hd : DuR M du I0) : DuR M du I := fun k hk => by
  rw [h.i (j := 34 + k) (by omega), h.i (j := 40 + k) (by omega)]; exact hd k hk
theorem In9.rc {c : CD} {w : Nat} (h : In9 M I0 J n r I) (hw : 52 ≤ w) (hr : RcO c (I0 102) w) : RcO c (I 102) w := hr.cp (fun k k1 _ => h.i (by omega))
theorem ew9 {t : Nat} (ht : t < 30) : (54 : Int32) + 9 * nI t = nI (54 + 9 * t) := by
  have e9 : (9 : Int32) * nI t = nI (9 * t) := by rw [show (9 : Int32) = nI 9 from rfl]; exact nI_mul (by omega) (by omega) (by omega)
  rw [e9, show (54 : Int32) = nI 54 from rfl]
  exact nI_add 54 (9 * t)
/-- the pure machine: one turn -/
theorem rn9_s {f a : Nat} {q : Nat → Int32} {x : Nat} : rn9 s m od du (f + 1) a q x r = if dL s ≤ a then (0, x, r) else
    if (dC s a).1 = 20 then (if (dC s (dM s a)).1 = 19 ∧ ¬ q (dM s a) ≤ 1 then rn9 s m od du f (dM s a + 1) (upd q (dM s a) (q (dM s a) - 1)) x r else rn9 s m od du f (a + 1) q x r) else
    if 300 ≤ x then (1, x, r) else
    if (dC s a).1 = 21 then rn9 s m od du f (dL s) q (x + 1) r else
    if (dC s a).1 = 19 then rn9 s m od du f (a + 1) (upd q a (dC s a).2.1) (x + 1) r else
    if isTs (dC s a).1 = true then (if ho9 du (dC s a) r.1 = true then rn9 s m od du f (a + 1) q (x + 1) r else rn9 s m od du f (dM s a + 1) q (x + 1) r)
    else rn9 s m od du f (a + 1) q (x + 1) (do9 m od (dC s a) r) := rfl
theorem rn9_end {f : Nat} {q : Nat → Int32} {x : Nat} (hf : 1 ≤ f) : rn9 s m od du f (dL s) q x r = (0, x, r) := by
  obtain ⟨f, rfl⟩ : ∃ f', f = f' + 1 := ⟨f - 1, by omega⟩
  rw [rn9_s, if_pos (Nat.le_refl _)]
/-- behind the last step there is: what the class's machine says of the rest -/
noncomputable abbrev KH9 (s : DS) (m od : Int32) (du : Du9) (M : Nat) (I0 : Im) (J : Jm) (n0 : Nat) (z a b : Nat) (q : Nat → Int32) (X : Int32 × Nat × Rn9) (G : Im → Prop) : Prop := ∀ (I2 : Im) (f2 : Nat) (q2 : Nat → Int32) (n2 : Nat) (r2 : Rn9), In9 M I0 J n2 r2 I2 → n0 ≤ n2 → I2 97 41 = 0 → I2 97 48 = 0 → 200 * (301 - n2) + z ≤ f2 → (∀ k, k < a → q2 k = q k) → X = rn9 s m od du f2 b q2 n2 r2 → G I2
noncomputable abbrev SH9 (M : Nat) (I0 : Im) (J : Jm) (X : Int32 × Nat × Rn9) (G : Im → Prop) : Prop := ∀ (I2 : Im) (l : Int32) (n2 : Nat) (r2 : Rn9), In9 M I0 J n2 r2 I2 → ¬ I2 97 41 = 0 → I2 97 48 = l → X = (l, n2, r2) → G I2
/-- a step that is no block -/
theorem px_one9 {D t a z f : Nat} {q : Nat → Int32} (hE : Ev9 s M m od du I0) (ht : t < dN s) (ea : dSp s t = a) (haL : a < dL s) (hc : pl9 (dC s a).1) (hI : In9 M I0 J n r I) (h41 : I 97 41 = 0) (h48 : I 97 48 = 0) (hf : 200 * (301 - n) + z ≤ f)
    (hK : KH9 s m od du M I0 J n z a (a + 1) q (rn9 s m od du f a q n r) (fun I2 => Q 0 0 I2 J R)) (hS : SH9 M I0 J (rn9 s m od du f a q n r) (fun I2 => Q 0 0 I2 J R)) : AM (D + 9) 310 112 [.ref 97, .int (nI t)] I J R Q := by
  obtain ⟨⟨em, eo, hd⟩, hm, hs, h30, hT⟩ := hE
  obtain ⟨⟨tk, tr, tx⟩, tv, tc⟩ := hT t ht
  rw [ea] at tk tr tv tc
  obtain ⟨hF, hR, hn, hB⟩ := id hI
  have ew := ew9 (t := t) (by omega)
  have hw : 54 + 9 * t + 8 < 1620 := by omega
  obtain ⟨t0, -, -, -, -, -, -, t8⟩ := tn_w hw
  obtain ⟨v0, -, -, -, -, -, -, v8⟩ := vp_w hw
  obtain ⟨n20, n19, nT⟩ := pl9_n hc
  obtain ⟨f, rfl⟩ : ∃ f', f = f' + 1 := ⟨f - 1, by omega⟩
  rw [rn9_s, if_neg (by omega), if_neg n20] at hK hS
  have e43 := hR.2.2.2.2.2
  have ek : I 102 (54 + 9 * t) = stW (dC s a).1 := by
    rw [hI.i (by omega), tk]
    exact if_neg nT
  refine am_X12_doOne (fun P hc2 => sg_X12_doOne_0 hc2 _ _ _ _ ?_)
  have e1 : nI n + 1 = nI (n + 1) := nI_s1
  rw [ew, e43, e1]
  have en : uI I 97 43 (nI (n + 1)) 102 = I 102 := uI_ne (by decide)
  rw [en, t0, ek]
  have e300 : (300 : Int32) = nI 300 := rfl
  refine ⟨fun n3 => ⟨v0, ?_⟩, fun c3 => ⟨Or.inr rfl, ?_⟩⟩
  · have n4 : ¬ n = 300 := fun z => n3 (by rw [z]; rfl)
    rw [if_neg (by omega)] at hK hS
    have hI2 : In9 M I0 J (n + 1) r (uI I 97 43 (nI (n + 1))) := ⟨hF.u (Or.inr ⟨rfl, by decide⟩), hR.nx, by omega, hB⟩
    have g41 : uI I 97 43 (nI (n + 1)) 97 41 = 0 := (rd_k (by decide)).trans h41
    have g48 : uI I 97 43 (nI (n + 1)) 97 48 = 0 := (rd_k (by decide)).trans h48
    by_cases c21 : (dC s a).1 = 21
    · rw [c21]
      rw [if_pos c21] at hS
      refine ⟨fun _ => ⟨fun _ => sg_X12_doOne_110 hc2 _ _ _ _ _ _ ⟨fun _ => ⟨fun c => absurd c (by decide), fun _ => ⟨Or.inr rfl, ?_⟩⟩, fun c => absurd c (by decide)⟩, fun c => absurd c (by decide)⟩, fun c => absurd (show (6 : Int32) ≤ stW 21 by decide) c⟩
      exact hS _ 0 (n + 1) r ⟨hI2.1.u (Or.inr ⟨rfl, by decide⟩), hI2.2.1.fl (Or.inl rfl), hI2.2.2⟩ (by rw [rd_eq]; decide) ((rd_k (by decide)).trans g48) (rn9_end (by omega))
    · have hc6 : (dC s a).1 = 9 ∨ (dC s a).1 = 10 ∨ (dC s a).1 = 11 ∨ (dC s a).1 = 12 ∨ (dC s a).1 = 13 ∨ (dC s a).1 = 14 := by
        rcases hc with y | y | y | y | y | y | y
        · exact Or.inl y
        · exact Or.inr (Or.inl y)
        · exact Or.inr (Or.inr (Or.inl y))
        · exact Or.inr (Or.inr (Or.inr (Or.inl y)))
        · exact Or.inr (Or.inr (Or.inr (Or.inr (Or.inl y))))
        · exact Or.inr (Or.inr (Or.inr (Or.inr (Or.inr y))))
        · exact absurd y c21
      have k6 : ¬ (6 : Int32) ≤ stW (dC s a).1 := by
        rcases hc6 with y | y | y | y | y | y <;> rw [y] <;> decide
      rw [if_neg c21, if_neg n19, if_neg nT] at hK
      refine ⟨fun c => absurd c k6, fun _ => ?_⟩
      refine px_mDoes (c := dC s a) (m := m) (od := od) (M := M) (n := n + 1) (r := r) hw hc6 ((congrFun en _).trans ek) (hI2.rc (by omega) tr) tv ((hI2.i (Or.inl rfl)).trans em) hm ((hI2.i (by omega)).trans eo) hB hI2.2.1 (fun I2 h2 hF2 _ => ?_)
      have e44 : uI I 97 43 (nI (n + 1)) 97 44 = r.2.2.1 := hI2.2.1.2.2.1
      rw [e44]
      have fin : ∀ y : Int32, y = b9 (ac9 m od (dC s a) r).1 → Q 0 0 (uI I2 97 44 (r.2.2.1 + y)) J R := fun y hy => by
        subst hy
        exact hK _ f q (n + 1) (do9 m od (dC s a) r) ⟨(hI2.1.tr hF2.rf).u (Or.inr ⟨rfl, by decide⟩), h2.ms, by omega, hB.dn⟩ (by omega) ((rd_k (by decide)).trans ((hF2.i (fun y => by rcases y with y | y <;> omega)).trans g41)) ((rd_k (by decide)).trans ((hF2.i (fun y => by rcases y with y | y <;> omega)).trans g48)) (by omega) (fun _ _ => rfl) rfl
      exact ⟨fun y => fin _ (if_pos y).symm, fun y => fin _ (if_neg y).symm⟩
  · have n4 : n = 300 := (nI_eq (by omega) (by omega)).mp (c3.trans e300)
    rw [if_pos (by omega)] at hS
    exact hS _ 1 n r ⟨(hF.u (Or.inr ⟨rfl, by decide⟩)).u (Or.inr ⟨rfl, by decide⟩), (hR.fl (Or.inl rfl)).fl (Or.inr rfl), hn, hB⟩ (by rw [rd_k (by decide), rd_eq]; decide) rd_eq rfl
/-- the end of a block: the class goes on behind it, or back to its loop -/
theorem rn9_wh {f a mm : Nat} {q : Nat → Int32} {x : Nat} (hf : 1 ≤ f) (hm : mm < dL s) (c20 : (dC s mm).1 = 20) (e : dM s mm = a) (n19 : ¬ ((dC s a).1 = 19 ∧ ¬ q a ≤ 1)) : rn9 s m od du f mm q x r = rn9 s m od du (f - 1) (mm + 1) q x r := by
  obtain ⟨f, rfl⟩ : ∃ f', f = f' + 1 := ⟨f - 1, by omega⟩
  rw [rn9_s, if_neg (by omega), if_pos c20, e, if_neg n19, Nat.add_sub_cancel]
theorem rn9_lp {f a mm : Nat} {q : Nat → Int32} {x : Nat} (hf : 1 ≤ f) (hm : mm < dL s) (c20 : (dC s mm).1 = 20) (e : dM s mm = a) (h19 : (dC s a).1 = 19 ∧ ¬ q a ≤ 1) : rn9 s m od du f mm q x r = rn9 s m od du (f - 1) (a + 1) (upd q a (q a - 1)) x r := by
  obtain ⟨f, rfl⟩ : ∃ f', f = f' + 1 := ⟨f - 1, by omega⟩
  rw [rn9_s, if_neg (by omega), if_pos c20, e, if_pos h19, Nat.add_sub_cancel]
/-- what is asked of a block's inside -/
noncomputable abbrev BH9 (s : DS) (m od : Int32) (du : Du9) (M : Nat) (I0 : Im) (J : Jm) (R : Rm) (D t nn a mm : Nat) : Prop := ∀ (G : Qt) (I2 : Im) (f2 z2 n2 : Nat) (q2 : Nat → Int32) (r2 : Rn9), In9 M I0 J n2 r2 I2 → I2 97 41 = 0 → I2 97 48 = 0 → 200 * (301 - n2) + z2 ≤ f2 → KH9 s m od du M I0 J n2 z2 (a + 1) mm q2 (rn9 s m od du f2 (a + 1) q2 n2 r2) (fun I3 => G 0 0 I3 J R) → SH9 M I0 J (rn9 s m od du f2 (a + 1) q2 n2 r2) (fun I3 => G 0 0 I3 J R) → AM (D + 8) 311 112 [.ref 97, .int (nI (t + 1)), .int (nI nn)] I2 J R G
theorem px_blk9 {D t a mm nn z f : Nat} {q : Nat → Int32} (hE : Ev9 s M m od du I0) (ht : t < dN s) (ea : dSp s t = a) (haL : a < dL s) (hc : bl9 (dC s a)) (enx : dNx s t = nn) (hmL : mm < dL s) (c20 : (dC s mm).1 = 20) (eM : dM s a = mm) (eM2 : dM s mm = a) (ham : a < mm) (hI : In9 M I0 J n r I) (h41 : I 97 41 = 0) (h48 : I 97 48 = 0) (hf : 200 * (301 - n) + z ≤ f) (hBd : BH9 s m od du M I0 J R D t nn a mm)
    (hK : KH9 s m od du M I0 J n z a (mm + 1) q (rn9 s m od du f a q n r) (fun I2 => Q 0 0 I2 J R)) (hS : SH9 M I0 J (rn9 s m od du f a q n r) (fun I2 => Q 0 0 I2 J R)) : AM (D + 9) 310 112 [.ref 97, .int (nI t)] I J R Q := by
  obtain ⟨⟨em, eo, hd⟩, hm, hs, h30, hT⟩ := hE
  obtain ⟨⟨tk, tr, tx⟩, tv, tc⟩ := hT t ht
  rw [ea] at tk tr tv tc
  rw [enx] at tx
  obtain ⟨hF, hR, hn, hB⟩ := id hI
  have ew := ew9 (t := t) (by omega)
  have hw : 54 + 9 * t + 8 < 1620 := by omega
  obtain ⟨t0, t1, -, -, -, -, -, t8⟩ := tn_w hw
  obtain ⟨v0, v1, -, -, -, -, -, v8⟩ := vp_w hw
  have n20 : ¬ (dC s a).1 = 20 := fun z => by
    rcases hc with y | y
    · rw [z] at y; exact absurd y (by decide)
    · rw [z] at y; exact absurd y.1 (by decide)
  have n21 : ¬ (dC s a).1 = 21 := fun z => by
    rcases hc with y | y
    · rw [z] at y; exact absurd y (by decide)
    · rw [z] at y; exact absurd y.1 (by decide)
  obtain ⟨f, rfl⟩ : ∃ f', f = f' + 1 := ⟨f - 1, by omega⟩
  rw [rn9_s, if_neg (by omega), if_neg n20] at hK hS
  have e43 := hR.2.2.2.2.2
  have ek : I 102 (54 + 9 * t) = kcR (dC s a).1 := (hI.i (by omega)).trans tk
  refine am_X12_doOne (fun P hc2 => sg_X12_doOne_0 hc2 _ _ _ _ ?_)
  have e1 : nI n + 1 = nI (n + 1) := nI_s1
  have e1t : nI t + 1 = nI (t + 1) := nI_s1
  rw [ew, e43, e1, e1t]
  have en : uI I 97 43 (nI (n + 1)) 102 = I 102 := uI_ne (by decide)
  rw [en, t0, t8, ek]
  have e300 : (300 : Int32) = nI 300 := rfl
  refine ⟨fun n3 => ⟨v0, ?_⟩, fun c3 => ⟨Or.inr rfl, ?_⟩⟩
  · have n4 : ¬ n = 300 := fun z => n3 (by rw [z]; rfl)
    rw [if_neg (by omega), if_neg n21] at hK hS
    have hI2 : In9 M I0 J (n + 1) r (uI I 97 43 (nI (n + 1))) := ⟨hF.u (Or.inr ⟨rfl, by decide⟩), hR.nx, by omega, hB⟩
    have g41 : uI I 97 43 (nI (n + 1)) 97 41 = 0 := (rd_k (by decide)).trans h41
    have g48 : uI I 97 43 (nI (n + 1)) 97 48 = 0 := (rd_k (by decide)).trans h48
    have gx : ∀ {n2 : Nat} {r2 : Rn9} {I2 : Im}, In9 M I0 J n2 r2 I2 → I2 102 (54 + 9 * t + 8) = nI nn := fun h2 => (h2.i (by omega)).trans tx
    have hM6 := hm.2
    rcases hc with hTs | ⟨c19, x1, x99⟩
    · have k6 : kcR (dC s a).1 = 6 := if_pos hTs
      have n19 : ¬ (dC s a).1 = 19 := fun z => by rw [z] at hTs; exact absurd hTs (by decide)
      rw [if_neg n19, if_pos hTs] at hK hS
      rw [k6]
      refine ⟨fun _ => ⟨fun c => absurd rfl c, fun _ => ?_⟩, fun c => absurd (show (6 : Int32) ≤ 6 by decide) c⟩
      refine px_mHold (c := dC s a) (m := m) (M := M) (r := r) (du := du) hw hTs (hI2.rc (by omega) tr) tc ((hI2.i (Or.inl rfl)).trans em) hm (hI2.dus hM6 hd) hs hB.1 hI2.2.1.1 (fun _ => ?_)
      cases y : ho9 du (dC s a) r.1 with
      | true =>
        rw [if_pos y] at hK hS
        refine ⟨fun w => absurd w (show ¬ bo9 true = 0 by decide), fun _ => ⟨v8, ?_⟩⟩
        rw [gx hI2]
        exact hBd _ _ f (z + 1) (n + 1) q r hI2 g41 g48 (by omega) (fun I3 f3 q3 n3 r3 hI3 hn3 k41 k48 hf3 hq3 eX => hK I3 (f3 - 1) q3 n3 r3 hI3 (by omega) k41 k48 (by omega) (fun k hk => hq3 k (by omega)) (eX.trans (rn9_wh (by omega) hmL c20 eM2 (fun w => n19 w.1)))) hS
      | false =>
        rw [if_neg (by rw [y]; decide)] at hK
        refine ⟨fun _ => sg_X12_doOne_110 hc2 _ _ _ _ _ _ ⟨fun _ => ⟨fun _ => ?_, fun c => absurd (show (6 : Int32) ≤ 7 by decide) c⟩, fun c => absurd c (by decide)⟩, fun w => absurd (show bo9 false = 0 from rfl) w⟩
        rw [eM] at hK
        exact hK _ f q (n + 1) r hI2 (by omega) g41 g48 (by omega) (fun _ _ => rfl) rfl
    · have k7 : kcR (dC s a).1 = 7 := by rw [c19]; rfl
      rw [if_pos c19] at hK hS
      rw [k7]
      refine ⟨fun _ => ⟨fun _ => sg_X12_doOne_110 hc2 _ _ _ _ _ _ ⟨fun c => absurd rfl c, fun _ => ?_⟩, fun c => absurd c (by decide)⟩, fun c => absurd (show (6 : Int32) ≤ 7 by decide) c⟩
      obtain ⟨X, hX, eX0⟩ : ∃ X : Nat, (1 ≤ X ∧ X ≤ 99) ∧ (dC s a).2.1 = nI X := ⟨(dC s a).2.1.toInt.toNat, by omega, Int32.toInt_inj.mp (by rw [nI_toInt (by omega)]; omega)⟩
      rw [eX0] at hK hS
      have ex1 : ∀ {n2 : Nat} {r2 : Rn9} {I2 : Im}, In9 M I0 J n2 r2 I2 → I2 102 (54 + 9 * t + 1) = nI X := fun h2 => ((h2.rc (by omega) tr).2.2.1 (Or.inr c19)).trans eX0
      have stp : ∀ (k : Nat) (I3 : Im) (l : Int32) (n3 : Nat) (r3 : Rn9), In9 M I0 J n3 r3 I3 → ¬ I3 97 41 = 0 → Q 0 0 I3 J R → P 119 112 [(0, .ref 97), (1, .int (nI t)), (2, .int (nI (54 + 9 * t))), (4, .int (nI k))] [] I3 J R := fun k I3 l n3 r3 hI3 hs3 hQ3 => sg_X12_doOne_119 hc2 _ _ _ _ _ _ ⟨v1, fun _ => hQ3, fun _ => ⟨fun _ => hQ3, fun c => absurd c hs3⟩⟩
      have L : ∀ (j k : Nat) (I3 : Im) (f3 : Nat) (q3 : Nat → Int32) (n3 : Nat) (r3 : Rn9), k + (j + 1) = X → In9 M I0 J n3 r3 I3 → n + 1 ≤ n3 → I3 97 41 = 0 → I3 97 48 = 0 → 200 * (301 - n3) + z + (j + 1) ≤ f3 → (∀ i, i < a → q3 i = q i) → q3 a = nI (j + 1) → rn9 s m od du f (a + 1) (upd q a (nI X)) (n + 1) r = rn9 s m od du f3 (a + 1) q3 n3 r3 → P 119 112 [(0, .ref 97), (1, .int (nI t)), (2, .int (nI (54 + 9 * t))), (4, .int (nI k))] [] I3 J R := by
        intro j
        induction j with
        | zero =>
          intro k I3 f3 q3 n3 r3 hk hI3 hn3 k41 k48 hf3 hq3 qa eX
          refine sg_X12_doOne_119 hc2 _ _ _ _ _ _ ?_
          have e1k : nI k + 1 = nI (k + 1) := nI_s1
          rw [t1, t8, ex1 hI3, gx hI3, e1t, e1k]
          refine ⟨v1, fun c => absurd ((nle_nI (by omega) (by omega)).mp c) (by omega), fun _ => ⟨fun c => absurd k41 c, fun _ => ⟨v8, ?_⟩⟩⟩
          refine hBd _ _ f3 (z + 1) n3 q3 r3 hI3 k41 k48 (by omega) (fun I4 f4 q4 n4 r4 hI4 hn4 j41 j48 hf4 hq4 eY => ?_) (fun I4 l n4 r4 hI4 hs4 hl eY => stp (k + 1) I4 l n4 r4 hI4 hs4 (hS I4 l n4 r4 hI4 hs4 hl (eX.trans eY)))
          have qa4 : q4 a = nI 1 := (hq4 a (by omega)).trans qa
          refine sg_X12_doOne_119 hc2 _ _ _ _ _ _ ⟨v1, fun _ => ?_, fun c => absurd ?_ c⟩
          · exact hK I4 (f4 - 1) q4 n4 r4 hI4 (by omega) j41 j48 (by omega) (fun i hi => (hq4 i (by omega)).trans (hq3 i hi)) ((eX.trans eY).trans (rn9_wh (by omega) hmL c20 eM2 (fun w => w.2 (by rw [qa4]; decide))))
          · rw [t1, ex1 hI4]
            exact (nle_nI (by omega) (by omega)).mpr (by omega)
        | succ j ih =>
          intro k I3 f3 q3 n3 r3 hk hI3 hn3 k41 k48 hf3 hq3 qa eX
          refine sg_X12_doOne_119 hc2 _ _ _ _ _ _ ?_
          have e1k : nI k + 1 = nI (k + 1) := nI_s1
          rw [t1, t8, ex1 hI3, gx hI3, e1t, e1k]
          refine ⟨v1, fun c => absurd ((nle_nI (by omega) (by omega)).mp c) (by omega), fun _ => ⟨fun c => absurd k41 c, fun _ => ⟨v8, ?_⟩⟩⟩
          refine hBd _ _ f3 (z + (j + 1 + 1)) n3 q3 r3 hI3 k41 k48 (by omega) (fun I4 f4 q4 n4 r4 hI4 hn4 j41 j48 hf4 hq4 eY => ?_) (fun I4 l n4 r4 hI4 hs4 hl eY => stp (k + 1) I4 l n4 r4 hI4 hs4 (hS I4 l n4 r4 hI4 hs4 hl (eX.trans eY)))
          have qa4 : q4 a = nI (j + 1 + 1) := (hq4 a (by omega)).trans qa
          have big : ¬ q4 a ≤ 1 := fun w => by
            rw [qa4] at w
            have := (nle_nI (b := 1) (by omega) (by omega)).mp w
            omega
          refine ih (k + 1) I4 (f4 - 1) _ n4 r4 (by omega) hI4 (by omega) j41 j48 (by omega) (fun i hi => ?_) ?_ ((eX.trans eY).trans (rn9_lp (by omega) hmL c20 eM2 ⟨c19, big⟩))
          · rw [upd_ne9 (by omega)]
            exact (hq4 i (by omega)).trans (hq3 i hi)
          · rw [upd_at9, qa4, nI_pred]
      obtain ⟨j, hj⟩ : ∃ j, X = j + 1 := ⟨X - 1, by omega⟩
      exact L j 0 _ f (upd q a (nI X)) (n + 1) r (by omega) hI2 (by omega) g41 g48 (by omega) (fun i hi => upd_ne9 (by omega)) (by rw [upd_at9, hj]) rfl
  · have n4 : n = 300 := (nI_eq (by omega) (by omega)).mp (c3.trans e300)
    rw [if_pos (by omega)] at hS
    exact hS _ 1 n r ⟨(hF.u (Or.inr ⟨rfl, by decide⟩)).u (Or.inr ⟨rfl, by decide⟩), (hR.fl (Or.inl rfl)).fl (Or.inr rfl), hn, hB⟩ (by rw [rd_k (by decide), rd_eq]; decide) rd_eq rfl
theorem px_all9 (hE : Ev9 s M m od du I0) : ∀ (g D : Nat) (Q : Qt) (t u a b z f n : Nat) (q : Nat → Int32) (r : Rn9) (I : Im), 2 * g + 7 ≤ D → Sq9 s g t u a b → u ≤ dN s → b ≤ dL s → In9 M I0 J n r I → I 97 41 = 0 → I 97 48 = 0 → 200 * (301 - n) + z ≤ f → KH9 s m od du M I0 J n z a b q (rn9 s m od du f a q n r) (fun I2 => Q 0 0 I2 J R) → SH9 M I0 J (rn9 s m od du f a q n r) (fun I2 => Q 0 0 I2 J R) → ∀ P : Kt, Cl (AM D) true false 0 (fun _ => 0) 0 112 kX12_doAll (fun _ => Q) P → P 2 112 [(0, .ref 97), (2, .int (nI u)), (3, .int (nI t))] [] I J R := by
  have h30 : dN s ≤ 30 := hE.2.2.2.1
  have nil : ∀ (D : Nat) (Q : Qt) (t a z f n : Nat) (q : Nat → Int32) (r : Rn9) (I : Im), t ≤ dN s → In9 M I0 J n r I → I 97 41 = 0 → I 97 48 = 0 → 200 * (301 - n) + z ≤ f → KH9 s m od du M I0 J n z a a q (rn9 s m od du f a q n r) (fun I2 => Q 0 0 I2 J R) → ∀ P : Kt, Cl (AM D) true false 0 (fun _ => 0) 0 112 kX12_doAll (fun _ => Q) P → P 2 112 [(0, .ref 97), (2, .int (nI t)), (3, .int (nI t))] [] I J R := by
    intro D Q t a z f n q r I ht hI h41 h48 hf hK P hc
    exact sg_X12_doAll_2 hc _ _ _ _ _ ⟨fun _ => hK I f q n r hI (Nat.le_refl _) h41 h48 hf (fun _ _ => rfl) rfl, fun c => absurd ((nle_nI (by omega) (by omega)).mpr (Nat.le_refl _)) c⟩
  intro g
  induction g with
  | zero =>
    intro D Q t u a b z f n q r I hD hq hu hb hI h41 h48 hf hK hS P hc
    obtain ⟨h1, h2⟩ := hq
    subst h1
    subst h2
    exact nil D Q t a z f n q r I hu hI h41 h48 hf hK P hc
  | succ g ih =>
    intro D Q t u a b z f n q r I hD hq hu hb hI h41 h48 hf hK hS P hc
    rcases hq with ⟨h1, h2⟩ | hq
    · subst h1
      subst h2
      exact nil D Q t a z f n q r I hu hI h41 h48 hf hK P hc
    have htu : t < u := by
      rcases hq with ⟨h1, -⟩ | ⟨nn, mm, h1, h2, -⟩ <;> omega
    obtain ⟨D, rfl⟩ : ∃ D', D = D' + 9 := ⟨D - 9, by omega⟩
    have hw : 54 + 9 * t + 8 < 1620 := by omega
    have ew := ew9 (t := t) (by omega)
    obtain ⟨-, -, -, -, -, -, -, t8⟩ := tn_w hw
    obtain ⟨-, -, -, -, -, -, -, v8⟩ := vp_w hw
    have gx : ∀ {n2 : Nat} {r2 : Rn9} {I2 : Im}, In9 M I0 J n2 r2 I2 → I2 102 (54 + 9 * t + 8) = nI (dNx s t) := fun h2 => (h2.i (by omega)).trans (hE.2.2.2.2 t (by omega)).1.2.2
    have stp : ∀ (k : Int32) (I3 : Im), ¬ I3 97 41 = 0 → Q 0 0 I3 J R → P 2 112 [(0, .ref 97), (2, .int (nI u)), (3, .int k)] [] I3 J R := fun k I3 hs3 hQ3 => sg_X12_doAll_2 hc _ _ _ _ _ ⟨fun _ => hQ3, fun _ => ⟨fun _ => hQ3, fun c => absurd c hs3⟩⟩
    refine sg_X12_doAll_2 hc _ _ _ _ _ ⟨fun c => absurd ((nle_nI (by omega) (by omega)).mp c) (by omega), fun _ => ⟨fun c => absurd h41 c, fun _ => ?_⟩⟩
    rw [ew, t8]
    rcases hq with ⟨-, es, hpl, ex, hq2⟩ | ⟨nn, mm, h1, h2, es, hbl, ex, ham, c20, eM, eM2, hqb, hq2⟩
    · have l2 := hq2.le
      refine px_one9 (z := z) (f := f) (q := q) (n := n) (r := r) hE (by omega) es (by omega) hpl hI h41 h48 hf (fun I2 f2 q2 n2 r2 hI2 hn2 k41 k48 hf2 hq3 eX => ⟨v8, ?_⟩) (fun I2 l n2 r2 hI2 hs2 hl eX => ⟨v8, stp _ I2 hs2 (hS I2 l n2 r2 hI2 hs2 hl eX)⟩)
      rw [gx hI2, ex]
      exact ih (D + 9) Q (t + 1) u (a + 1) b z f2 n2 q2 r2 I2 (by omega) hq2 hu hb hI2 k41 k48 hf2 (fun I3 f3 q3 n3 r3 hI3 hn3 j41 j48 hf3 hq4 eY => hK I3 f3 q3 n3 r3 hI3 (by omega) j41 j48 hf3 (fun k hk => (hq4 k (by omega)).trans (hq3 k hk)) (eX.trans eY)) (fun I3 l n3 r3 hI3 hs3 hl eY => hS I3 l n3 r3 hI3 hs3 hl (eX.trans eY)) P hc
    · have l1 := hqb.le
      have l2 := hq2.le
      refine px_blk9 (z := z) (f := f) (q := q) (n := n) (r := r) hE (by omega) es (by omega) hbl ex (by omega) c20 eM eM2 ham hI h41 h48 hf (fun G I2 f2 z2 n2 q2 r2 hI2 k41 k48 hf2 hK2 hS2 => ?_) (fun I2 f2 q2 n2 r2 hI2 hn2 k41 k48 hf2 hq3 eX => ⟨v8, ?_⟩) (fun I2 l n2 r2 hI2 hs2 hl eX => ⟨v8, stp _ I2 hs2 (hS I2 l n2 r2 hI2 hs2 hl eX)⟩)
      · exact am_X12_doAll (fun P2 hc2 => sg_X12_doAll_0 hc2 _ _ _ _ _ (ih (D + 7) G (t + 1) nn (a + 1) mm z2 f2 n2 q2 r2 I2 (by omega) hqb (by omega) (by omega) hI2 k41 k48 hf2 hK2 hS2 P2 hc2))
      · rw [gx hI2, ex]
        exact ih (D + 9) Q nn u (mm + 1) b z f2 n2 q2 r2 I2 (by omega) hq2 hu hb hI2 k41 k48 hf2 (fun I3 f3 q3 n3 r3 hI3 hn3 j41 j48 hf3 hq4 eY => hK I3 f3 q3 n3 r3 hI3 (by omega) j41 j48 hf3 (fun k hk => (hq4 k (by omega)).trans (hq3 k hk)) (eX.trans eY)) (fun I3 l n3 r3 hI3 hs3 hl eY => hS I3 l n3 r3 hI3 hs3 hl (eX.trans eY)) P hc
end RNF
end PT14x4
