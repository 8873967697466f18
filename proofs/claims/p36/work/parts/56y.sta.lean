section PT14x0
/-! ===== the days, lived: a pure machine ===== -/
/-- the store; the seed; missed, given, baked -/
noncomputable abbrev Rn9 : Type := StS9 × Int32 × Int32 × Int32 × Int32
noncomputable def dr9 (x : Int32) : Int32 := ((x * 2971) + 10993) - ((x * 2971) + 10993) / 65536 * 65536
noncomputable def dm9 (x n : Int32) : Int32 := (x / 8) - (x / 8) / n * n
theorem dr9_in {x : Int32} (h : 0 ≤ x.toInt ∧ x.toInt ≤ 65535) : 0 ≤ (dr9 x).toInt ∧ (dr9 x).toInt ≤ 65535 := by
  have e1 : (x * 2971).toInt = x.toInt * 2971 := ti_mul rfl (show (2971 : Int32).toInt = 2971 from rfl) (by omega)
  have e2 : (x * 2971 + 10993).toInt = x.toInt * 2971 + 10993 := ti_add e1 (show (10993 : Int32).toInt = 10993 from rfl) (by omega)
  have e3 := ti_rem e2 (show (65536 : Int32).toInt = 65536 from rfl) (by omega) (by omega)
  unfold dr9
  omega
theorem dm9_in {x n : Int32} (h : 0 ≤ x.toInt ∧ x.toInt ≤ 65535) (hn : 1 ≤ n.toInt) : 0 ≤ (dm9 x n).toInt ∧ (dm9 x n).toInt < n.toInt := by
  have e1 : (x / 8).toInt = x.toInt / 8 := ti_div rfl (show (8 : Int32).toInt = 8 from rfl) (by omega) (by omega)
  have e3 := ti_rem e1 (rfl : n.toInt = n.toInt) (by omega) (by omega)
  unfold dm9
  omega
noncomputable def cp9 (a : Int64) (g : Int32) (b : Int64) : Bool := if g = 60 then decide (¬ (0 : Int32) ≤ lg_cmp a b) else if g = 62 then decide (¬ lg_cmp a b ≤ (0 : Int32)) else decide (lg_cmp a b = (0 : Int32))
noncomputable def sv9 (r : Rn9) (a : Int32 × StS9) : Int32 × Rn9 := (b9 a.1, a.2, r.2)
noncomputable def gv9 (m k d : Int32) (r : Rn9) : Int32 × Rn9 := (b9 (opGive m k d r.1).1, (opGive m k d r.1).2, r.2.1, r.2.2.1, r.2.2.2.1 + b9 (opGive m k d r.1).1, r.2.2.2.2)
noncomputable def bv9 (n : Int32) (r : Rn9) : Int32 × Rn9 := (b9 (opAdd n r.1).1, (opAdd n r.1).2, r.2.1, r.2.2.1, r.2.2.2.1, r.2.2.2.2 + (if (opAdd n r.1).1 = 0 then n else 0))
noncomputable def sd9 (x : Int32) (r : Rn9) : Rn9 := (r.1, x, r.2.2)
noncomputable def an9 (m od : Int32) (r : Rn9) : Int32 × Rn9 :=
  if m = 0 then (0, r) else
  if od ≤ dm9 (dr9 (dr9 (dr9 r.2.1))) 16 then gv9 m (dm9 (dr9 r.2.1) m) (dm9 (dr9 (dr9 r.2.1)) 30 + 1) (sd9 (dr9 (dr9 (dr9 r.2.1))) r)
  else sv9 (sd9 (dr9 (dr9 (dr9 r.2.1))) r) (opSplit (dm9 (dr9 (dr9 r.2.1)) 30 + 1) 2 r.1)
noncomputable def ac9 (m od : Int32) (c : CD) (r : Rn9) : Int32 × Rn9 :=
  if c.1 = 9 then sv9 r (opCut c.2.1 c.2.2.1 c.2.2.2 r.1) else
  if c.1 = 10 then sv9 r (opSplit c.2.1 c.2.2.1 r.1) else
  if c.1 = 11 then gv9 m c.2.1 c.2.2.1 r else
  if c.1 = 12 then sv9 r (opTake m c.2.1 c.2.2.1 r.1) else
  if c.1 = 14 then an9 m od r else bv9 c.2.1 r
/-- one missed more, or not -/
noncomputable def ms9 (x : Int32) (a : Int32 × Rn9) : Rn9 := (a.2.1, a.2.2.1, x + b9 a.1, a.2.2.2.2)
noncomputable def do9 (m od : Int32) (c : CD) (r : Rn9) : Rn9 := ms9 r.2.2.1 (ac9 m od c r)
noncomputable def ho9 (du : Du9) (c : CD) (s : StS9) : Bool :=
  if c.1 = 16 then decide (lg_cmp (Int64.ofInt (lk9 du s.2.1 (nn9 c.2.1))) 0 = (0 : Int32)) else
  if c.1 = 17 then cp9 (Int32.toInt64 (s.1 (nn9 c.2.1))) c.2.2.1 (Int32.toInt64 c.2.2.2)
  else cp9 (Int64.ofInt (lk9 du s.2.1 (nn9 c.2.1))) c.2.2.1 ((Int32.toInt64 c.2.2.2) * 2329089562800)
/-- turns left; the code that is next; the loops' rounds; steps; the rest -/
noncomputable def rn9 (s : DS) (m od : Int32) (du : Du9) : Nat → Nat → (Nat → Int32) → Nat → Rn9 → Int32 × Nat × Rn9
  | 0, _, _, n, r => (0, n, r)
  | f + 1, a, q, n, r => if dL s ≤ a then (0, n, r) else
    if (dC s a).1 = 20 then (if (dC s (dM s a)).1 = 19 ∧ ¬ q (dM s a) ≤ 1 then rn9 s m od du f (dM s a + 1) (upd q (dM s a) (q (dM s a) - 1)) n r else rn9 s m od du f (a + 1) q n r) else
    if 300 ≤ n then (1, n, r) else
    if (dC s a).1 = 21 then rn9 s m od du f (dL s) q (n + 1) r else
    if (dC s a).1 = 19 then rn9 s m od du f (a + 1) (upd q a (dC s a).2.1) (n + 1) r else
    if isTs (dC s a).1 = true then (if ho9 du (dC s a) r.1 = true then rn9 s m od du f (a + 1) q (n + 1) r else rn9 s m od du f (dM s a + 1) q (n + 1) r)
    else rn9 s m od du f (a + 1) q (n + 1) (do9 m od (dC s a) r)
/-! the seed keeps its bounds, the store too -/
noncomputable def RB9 (M : Nat) (r : Rn9) : Prop := StB M r.1 ∧ 0 ≤ r.2.1.toInt ∧ r.2.1.toInt ≤ 65535
theorem RB9.gv {M : Nat} {m k d : Int32} {r : Rn9} (h : RB9 M r) : RB9 M (gv9 m k d r).2 := ⟨StB.give (s := r.1) h.1, h.2⟩
theorem RB9.sv {M : Nat} {a : Int32 × StS9} {r : Rn9} (h : RB9 M r) (ha : StB M a.2) : RB9 M (sv9 r a).2 := ⟨ha, h.2⟩
theorem RB9.sd {M : Nat} {x : Int32} {r : Rn9} (h : RB9 M r) (hx : 0 ≤ x.toInt ∧ x.toInt ≤ 65535) : RB9 M (sd9 x r) := ⟨h.1, hx⟩
theorem RB9.an {M : Nat} {m od : Int32} {r : Rn9} (h : RB9 M r) : RB9 M (an9 m od r).2 := by
  have d3 := dr9_in (dr9_in (dr9_in h.2))
  unfold an9
  generalize dr9 (dr9 (dr9 r.2.1)) = x at d3
  generalize dm9 (dr9 r.2.1) m = k
  generalize dm9 (dr9 (dr9 r.2.1)) 30 + 1 = d
  split
  · exact h
  split
  · exact (h.sd d3).gv
  · exact (h.sd d3).sv (StB.split (s := r.1) h.1)
theorem RB9.ac {M : Nat} {m od : Int32} {c : CD} {r : Rn9} (h : RB9 M r) : RB9 M (ac9 m od c r).2 := by
  unfold ac9
  split
  · exact h.sv h.1.cut
  split
  · exact h.sv h.1.split
  split
  · exact h.gv
  split
  · exact h.sv h.1.take
  split
  · exact h.an
  · exact ⟨h.1.add, h.2⟩
theorem RB9.dn {M : Nat} {m od : Int32} {c : CD} {r : Rn9} (h : RB9 M r) : RB9 M (do9 m od c r) := ⟨(RB9.ac (m := m) (od := od) (c := c) h).1, (RB9.ac (m := m) (od := od) (c := c) h).2⟩
/-! ===== how the codes of the days nest ===== -/
/-- no block, no end -/
noncomputable def pl9 (k : Int32) : Prop := k = 9 ∨ k = 10 ∨ k = 11 ∨ k = 12 ∨ k = 13 ∨ k = 14 ∨ k = 21
theorem pl9_n {k : Int32} (h : pl9 k) : ¬ k = 20 ∧ ¬ k = 19 ∧ ¬ isTs k = true := by
  rcases h with rfl | rfl | rfl | rfl | rfl | rfl | rfl <;> exact ⟨by decide, by decide, by decide⟩
noncomputable def bl9 (c : CD) : Prop := isTs c.1 = true ∨ (c.1 = 19 ∧ 1 ≤ c.2.1.toInt ∧ c.2.1.toInt ≤ 99)
/-- steps t to u are told by the codes a to b -/
noncomputable def Sq9 (s : DS) : Nat → Nat → Nat → Nat → Nat → Prop
  | 0, t, u, a, b => t = u ∧ a = b
  | f + 1, t, u, a, b => (t = u ∧ a = b) ∨ (t < u ∧ dSp s t = a ∧ pl9 (dC s a).1 ∧ dNx s t = t + 1 ∧ Sq9 s f (t + 1) u (a + 1) b) ∨ ∃ n m, t < n ∧ n ≤ u ∧ dSp s t = a ∧ bl9 (dC s a) ∧ dNx s t = n ∧ a < m ∧ (dC s m).1 = 20 ∧ dM s a = m ∧ dM s m = a ∧ Sq9 s f (t + 1) n (a + 1) m ∧ Sq9 s f n u (m + 1) b
theorem Sq9.le {s : DS} : ∀ {f t u a b : Nat}, Sq9 s f t u a b → t ≤ u ∧ a ≤ b := by
  intro f
  induction f with
  | zero => intro t u a b h; obtain ⟨h1, h2⟩ := h; omega
  | succ f ih =>
    intro t u a b h
    rcases h with ⟨h1, h2⟩ | ⟨h1, -, -, -, h2⟩ | ⟨n, m, h1, h2, -, -, -, h3, -, -, -, -, h4⟩
    · omega
    · have := ih h2; omega
    · have := ih h4; omega
theorem Sq9.s1 {s : DS} : ∀ {f t u a b : Nat}, Sq9 s f t u a b → Sq9 s (f + 1) t u a b := by
  intro f
  induction f with
  | zero => intro t u a b h; exact Or.inl h
  | succ f ih =>
    intro t u a b h
    rcases h with h1 | ⟨h1, h2, h3, h4, h5⟩ | ⟨n, m, h1, h2, h3, h4, h5, h6, h7, h8, h9, k1, k2⟩
    · exact Or.inl h1
    · exact Or.inr (Or.inl ⟨h1, h2, h3, h4, ih h5⟩)
    · exact Or.inr (Or.inr ⟨n, m, h1, h2, h3, h4, h5, h6, h7, h8, h9, ih k1, ih k2⟩)
theorem Sq9.up {s : DS} {f t u a b : Nat} (h : Sq9 s f t u a b) : ∀ k, Sq9 s (f + k) t u a b := by
  intro k
  induction k with
  | zero => exact h
  | succ k ih => exact ih.s1
theorem Sq9.app {s : DS} {g u v b c : Nat} (h2 : Sq9 s g u v b c) : ∀ {f t a : Nat}, Sq9 s f t u a b → Sq9 s (f + g) t v a c := by
  have l2 := h2.le
  intro f
  induction f with
  | zero =>
    intro t a h
    obtain ⟨h1, h3⟩ := h
    rw [h1, h3, Nat.zero_add]; exact h2
  | succ f ih =>
    intro t a h
    have e : f + 1 + g = f + g + 1 := by omega
    rw [e]
    rcases h with ⟨h1, h3⟩ | ⟨h1, h3, h4, h5, h6⟩ | ⟨n, m, h1, h3, h4, h5, h6, h7, h8, h9, k0, k1, k2⟩
    · rw [h1, h3]
      have q := h2.up (f + 1)
      rw [show g + (f + 1) = f + g + 1 by omega] at q
      exact q
    · exact Or.inr (Or.inl ⟨by omega, h3, h4, h5, ih h6⟩)
    · exact Or.inr (Or.inr ⟨n, m, h1, by omega, h4, h5, h6, h7, h8, h9, k0, k1.up g, ih k2⟩)
theorem Sq9.cg {s s2 : DS} : ∀ {f t u a b : Nat}, Sq9 s f t u a b → (∀ k, t ≤ k → k < u → dSp s2 k = dSp s k ∧ dNx s2 k = dNx s k) → (∀ k, a ≤ k → k < b → dC s2 k = dC s k ∧ dM s2 k = dM s k) → Sq9 s2 f t u a b := by
  intro f
  induction f with
  | zero => intro t u a b h _ _; exact h
  | succ f ih =>
    intro t u a b h e1 e2
    rcases h with h1 | ⟨h1, h3, h4, h5, h6⟩ | ⟨n, m, h1, h3, h4, h5, h6, h7, h8, h9, k0, k1, k2⟩
    · exact Or.inl h1
    · have l6 := h6.le
      obtain ⟨p1, p2⟩ := e1 t (Nat.le_refl _) h1
      obtain ⟨q1, q2⟩ := e2 a (Nat.le_refl _) (by omega)
      exact Or.inr (Or.inl ⟨h1, p1.trans h3, by rw [q1]; exact h4, p2.trans h5, ih h6 (fun k x y => e1 k (by omega) y) (fun k x y => e2 k (by omega) y)⟩)
    · have l1 := k1.le
      have l2 := k2.le
      obtain ⟨p1, p2⟩ := e1 t (Nat.le_refl _) (by omega)
      obtain ⟨q1, q2⟩ := e2 a (Nat.le_refl _) (by omega)
      obtain ⟨r1, r2⟩ := e2 m (by omega) (by omega)
      exact Or.inr (Or.inr ⟨n, m, h1, h3, p1.trans h4, by rw [q1]; exact h5, p2.trans h6, h7, by rw [r1]; exact h8, q2.trans h9, r2.trans k0, ih k1 (fun k x y => e1 k (by omega) (by omega)) (fun k x y => e2 k (by omega) (by omega)), ih k2 (fun k x y => e1 k (by omega) y) (fun k x y => e2 k (by omega) y)⟩)
/-! what is told so far: the open blocks' own beginnings -/
noncomputable def tB9 (s : DS) (k : Nat) : Nat := if k = 0 then 0 else dOs s (k - 1) + 1
noncomputable def aB9 (s : DS) (k : Nat) : Nat := if k = 0 then 0 else dO s (k - 1) + 1
noncomputable def tE9 (s : DS) (k : Nat) : Nat := if k = dD s then dN s else dOs s k
noncomputable def aE9 (s : DS) (k : Nat) : Nat := if k = dD s then dL s else dO s k
noncomputable def Wf9 (s : DS) : Prop :=
  (∀ k, k < dD s → dSp s (dOs s k) = dO s k ∧ bl9 (dC s (dO s k))) ∧
  (∀ j k, j < k → k < dD s → dO s j < dO s k ∧ dOs s j < dOs s k) ∧
  (∀ k, k ≤ dD s → ∃ f, Sq9 s f (tB9 s k) (tE9 s k) (aB9 s k) (aE9 s k)) ∧
  (∀ a, a < dL s → dM s a < dL s ∧ ((dC s a).1 = 20 → dM s a < a) ∧ ((dC s a).1 = 20 ∨ ∃ t, t < dN s ∧ dSp s t = a))
theorem Wf9.z : Wf9 ds0 :=
  ⟨fun k h => absurd h (by show ¬ k < 0; omega), fun j k _ h => absurd h (by show ¬ k < 0; omega), fun k h => by
    have h0 : k = 0 := by have : k ≤ 0 := h; omega
    subst h0
    exact ⟨0, rfl, rfl⟩, fun a h => absurd h (by show ¬ a < 0; omega)⟩
theorem Wf9.a {s : DS} {c : CD} (hD : DOk s) (h : Wf9 s) (hc : pl9 c.1) : Wf9 (dsA s c) := by
  obtain ⟨-, -, -, o1, o2⟩ := hD
  obtain ⟨h1, h2, h3, h4⟩ := h
  have eC : ∀ k, ¬ k = dL s → dC (dsA s c) k = dC s k := fun k q => upC_i q
  have eM : ∀ k, ¬ k = dL s → dM (dsA s c) k = dM s k := fun k q => upN_i q
  have eS : ∀ k, ¬ k = dN s → dSp (dsA s c) k = dSp s k := fun k q => upN_i q
  have eX : ∀ k, ¬ k = dN s → dNx (dsA s c) k = dNx s k := fun k q => upN_i q
  have eC0 : dC (dsA s c) (dL s) = c := upC_s
  have eM0 : dM (dsA s c) (dL s) = dL s := upN_s
  have eS0 : dSp (dsA s c) (dN s) = dL s := upN_s
  have eX0 : dNx (dsA s c) (dN s) = dN s + 1 := upN_s
  refine ⟨fun k hk => ?_, h2, fun k hk => ?_, fun a ha => ?_⟩
  · have hk2 : k < dD s := hk
    have b1 := o1 k hk2
    have b2 := o2 k hk2
    show dSp (dsA s c) (dOs s k) = dO s k ∧ bl9 (dC (dsA s c) (dO s k))
    rw [eS _ (by omega), eC _ (by omega)]
    exact h1 k hk2
  · have hk2 : k ≤ dD s := hk
    obtain ⟨f, hf⟩ := h3 k hk2
    have lf := hf.le
    by_cases q : k = dD s
    · have e1 : tE9 s k = dN s := if_pos q
      have e2 : aE9 s k = dL s := if_pos q
      rw [e1, e2] at hf lf
      refine ⟨f + 1, ?_⟩
      show Sq9 (dsA s c) (f + 1) (tB9 s k) (if k = dD s then dN s + 1 else dOs s k) (aB9 s k) (if k = dD s then dL s + 1 else dO s k)
      rw [if_pos q, if_pos q]
      refine Sq9.app (g := 1) (u := dN s) (b := dL s) (Or.inr (Or.inl ⟨by omega, eS0, by rw [eC0]; exact hc, eX0, rfl, rfl⟩)) (hf.cg (fun j x y => ⟨eS j (by omega), eX j (by omega)⟩) (fun j x y => ⟨eC j (by omega), eM j (by omega)⟩))
    · have e1 : tE9 s k = dOs s k := if_neg q
      have e2 : aE9 s k = dO s k := if_neg q
      rw [e1, e2] at hf
      have b1 := o1 k (by omega)
      have b2 := o2 k (by omega)
      refine ⟨f, ?_⟩
      show Sq9 (dsA s c) f (tB9 s k) (if k = dD s then dN s + 1 else dOs s k) (aB9 s k) (if k = dD s then dL s + 1 else dO s k)
      rw [if_neg q, if_neg q]
      exact hf.cg (fun j x y => ⟨eS j (by omega), eX j (by omega)⟩) (fun j x y => ⟨eC j (by omega), eM j (by omega)⟩)
  · have ha2 : a < dL s + 1 := ha
    show dM (dsA s c) a < dL s + 1 ∧ ((dC (dsA s c) a).1 = 20 → dM (dsA s c) a < a) ∧ ((dC (dsA s c) a).1 = 20 ∨ ∃ t, t < dN s + 1 ∧ dSp (dsA s c) t = a)
    by_cases q : a = dL s
    · subst q
      rw [eM0, eC0]
      exact ⟨by omega, fun z => absurd z (pl9_n hc).1, Or.inr ⟨dN s, by omega, eS0⟩⟩
    · obtain ⟨g1, g2, g3⟩ := h4 a (by omega)
      rw [eM a q, eC a q]
      refine ⟨by omega, g2, g3.elim Or.inl (fun ⟨t, t1, t2⟩ => Or.inr ⟨t, by omega, (eS t (by omega)).trans t2⟩)⟩
end PT14x0
