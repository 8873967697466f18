section PT13x0
/-! ===== has(), lacks(): whether they tell ===== -/
theorem x_one {x : Int32} (h : x.toInt = 1) : x = 1 := Int32.toInt_inj.mp h
end PT13x0
section PT13x1
/-! ===== fewest(), fewestAt(), ways(), oddsThat(): what they answer ===== -/
noncomputable def shL (p q : Int32) : Int := pt q.toInt.toNat * p.toInt
noncomputable def slQ (d : Int32) : Prop := (1 : Int32) ≤ d ∧ d ≤ 30
theorem sl_n {q : Int32} (h1 : (1 : Int32) ≤ q) (h2 : q ≤ 30) : q = nI q.toInt.toNat ∧ 1 ≤ q.toInt.toNat ∧ q.toInt.toNat ≤ 30 := by
  rw [le_i] at h1 h2
  have e1 : (1 : Int32).toInt = 1 := rfl
  have e30 : (30 : Int32).toInt = 30 := rfl
  refine ⟨Int32.toInt_inj.mp ?_, by omega, by omega⟩
  rw [nI_toInt (by omega)]; omega
theorem shL_b {p q : Int32} (h : sh p q) : 1 ≤ shL p q ∧ shL p q ≤ 1000000000000000 := by
  obtain ⟨⟨p1, p2⟩, q1, q2⟩ := h
  obtain ⟨-, n1, n2⟩ := sl_n q1 q2
  rw [le_i] at p1 p2
  have e1 : (1 : Int32).toInt = 1 := rfl
  have e99 : (99 : Int32).toInt = 99 := rfl
  obtain ⟨b1, b2, -⟩ := pt_b n1 n2
  unfold shL
  have k1 : 0 < pt q.toInt.toNat * p.toInt := Int.mul_pos b1 (by omega)
  have k2 : pt q.toInt.toNat * p.toInt ≤ 2329089562800 * 99 := Int.mul_le_mul b2 (by omega) (by omega) (by decide)
  omega
section RWT
variable {I : Im} {J : Jm} {R : Rm} {Q : Qt}
theorem px_crumbs {d : Nat} {p q : Int32} (h : sh p q) (hQ : ∀ y : Int64, y.toInt = shL p q → Q 0 y I J R) : AM (d + 1) 167 112 [.int p, .int q] I J R Q := by
  obtain ⟨eq, n1, n2⟩ := sl_n h.2.1 h.2.2
  have hb := shL_b h
  have ep : (Int32.toInt64 p).toInt = p.toInt := tl_i2l rfl
  have hpt := ptL q.toInt.toNat (by omega) n1
  rw [← eq] at hpt
  refine w_X11_crumbs ⟨fun _ => ⟨hpt.2.2, hQ _ ?_⟩, fun c => absurd h.2.1 c⟩
  have hb2 : 1 ≤ pt q.toInt.toNat * p.toInt ∧ pt q.toInt.toNat * p.toInt ≤ 1000000000000000 := hb
  rw [show shL p q = p.toInt * pt q.toInt.toNat from Int.mul_comm ..]
  exact tl_mul9 ep hpt.2.1 (by rw [Int.mul_comm]; omega)
theorem px_shareOf {d : Nat} {p q : Int32} (h : sh p q) (hQ : ∀ y : Int64, y.toInt = shL p q → Q 0 y I J R) : AM (d + 1) 241 112 [.int p, .int q] I J R Q := by
  obtain ⟨eq, n1, n2⟩ := sl_n h.2.1 h.2.2
  have hb := shL_b h
  have ep : (Int32.toInt64 p).toInt = p.toInt := tl_i2l rfl
  have hpt := ptL q.toInt.toNat (by omega) n1
  rw [← eq] at hpt
  refine w_X12_shareOf ⟨hpt.2.2, hQ _ ?_⟩
  have hb2 : 1 ≤ pt q.toInt.toNat * p.toInt ∧ pt q.toInt.toNat * p.toInt ≤ 1000000000000000 := hb
  exact tl_mul9 hpt.2.1 ep (by omega)
theorem px_mSlQ {d : Nat} {k : Int32} (hY : slQ k → Q 1 0 I J R) (hN : ¬ slQ k → Q 0 0 I J R) : AM (d + 2) 238 112 [.int k] I J R Q :=
  w_X12_isSlice (px_isInI (lo := 1) (hi := 30) (fun l1 l2 _ => ⟨Or.inr rfl, hY ⟨l1, l2⟩⟩) (fun z _ => ⟨Or.inl rfl, hN (fun y => z.elim (fun x => ile.mpr y.1 x) (fun x => x y.2))⟩))
/-! the reference's -/
end RWT
/-! both -/
end PT13x1
section PT13x2
/-! ===== the store: what is done, purely; the class's part of it ===== -/
/-- the store by slices, what each man has, cuts -/
noncomputable abbrev StS9 : Type := (Nat → Int32) × (Nat → Int32) × Int32
noncomputable abbrev sq9 (d : Int32) : Prop := (1 : Int32) ≤ d ∧ d ≤ 30
noncomputable abbrev nn9 (d : Int32) : Nat := Int32.toNatClampNeg d
noncomputable def opAdd (n : Int32) (s : StS9) : Int32 × StS9 := if (1 : Int32) ≤ n ∧ n ≤ 99 then (if s.1 1 + n ≤ 99 then (0, upd s.1 1 (s.1 1 + n), s.2) else (7, s)) else (5, s)
noncomputable def ov9 (S : Nat → Int32) (o d a b : Int32) : Int32 := S (nn9 o) - (if o = d then 1 else 0) + (if o = a then 1 else 0) + (if o = b then 1 else 0)
noncomputable def ct9 (S : Nat → Int32) (d a b : Int32) : Nat → Int32 :=
  upd (upd (upd S (nn9 d) (S (nn9 d) - 1)) (nn9 a) (upd S (nn9 d) (S (nn9 d) - 1) (nn9 a) + 1)) (nn9 b) (upd (upd S (nn9 d) (S (nn9 d) - 1)) (nn9 a) (upd S (nn9 d) (S (nn9 d) - 1) (nn9 a) + 1) (nn9 b) + 1)
noncomputable def opCut (d a b : Int32) (s : StS9) : Int32 × StS9 := if sq9 d ∧ (sq9 a ∧ sq9 b) then (if 99 < ov9 s.1 a d a b ∨ 99 < ov9 s.1 b d a b then (7, s) else if ¬ s.1 (nn9 d) < 1 ∧ a * b = d * (a + b) then (0, ct9 s.1 d a b, s.2.1, s.2.2 + 1) else (9, s)) else (2, s)
noncomputable def sp9 (S : Nat → Int32) (d n : Int32) : Nat → Int32 := upd (upd S (nn9 d) (S (nn9 d) - 1)) (nn9 (d * n)) (upd S (nn9 d) (S (nn9 d) - 1) (nn9 (d * n)) + n)
noncomputable def opSplit (d n : Int32) (s : StS9) : Int32 × StS9 := if sq9 d then (if (2 : Int32) ≤ n ∧ n ≤ 30 then (if sq9 (d * n) ∧ ¬ s.1 (nn9 (d * n)) + n ≤ 99 then (7, s) else if ¬ s.1 (nn9 d) < 1 ∧ sq9 (d * n) then (0, sp9 s.1 d n, s.2.1, s.2.2 + 1) else (9, s)) else (5, s)) else (2, s)
noncomputable def opGive (m k d : Int32) (s : StS9) : Int32 × StS9 := if ((0 : Int32) ≤ k ∧ k < m) ∧ sq9 d then (if ¬ s.1 (nn9 d) < 1 ∧ inS (s.2.1 (nn9 k)) d = false then (0, upd s.1 (nn9 d) (s.1 (nn9 d) - 1), upd s.2.1 (nn9 k) (s.2.1 (nn9 k) ||| biS d), s.2.2) else (9, s)) else (2, s)
noncomputable def opTake (m k d : Int32) (s : StS9) : Int32 × StS9 := if ((0 : Int32) ≤ k ∧ k < m) ∧ sq9 d then (if s.1 (nn9 d) < 99 then (if inS (s.2.1 (nn9 k)) d = true then (0, upd s.1 (nn9 d) (s.1 (nn9 d) + 1), upd s.2.1 (nn9 k) (s.2.1 (nn9 k) &&& (biS d ^^^ (-1))), s.2.2) else (9, s)) else (7, s)) else (2, s)
/-- the bakery at o holds it -/
noncomputable def BkA (o M : Nat) (s : StS9) (I : Im) : Prop := (∀ d, 1 ≤ d → d ≤ 30 → I (o + 1) d = s.1 d) ∧ (∀ k, k < M → I (o + 5) k = s.2.1 k) ∧ I o 3 = s.2.2
noncomputable abbrev WBk (o : Nat) : Nat → Nat → Prop := fun c k => c = o + 1 ∨ c = o + 5 ∨ (c = o ∧ k = 3)
noncomputable abbrev FrBk (o : Nat) (I : Im) (J : Jm) (I2 : Im) (J2 : Jm) : Prop := FrW (WBk o) nV I J I2 J2
theorem upd_at9 {f : Nat → Int32} {k : Nat} {v : Int32} : upd f k v k = v := if_pos rfl
theorem upd_ne9 {f : Nat → Int32} {k j : Nat} {v : Int32} (h : ¬ j = k) : upd f k v j = f j := if_neg h
theorem sq_nn {d : Int32} (h : sq9 d) : d.toInt = (nn9 d : Int) ∧ 1 ≤ nn9 d ∧ nn9 d ≤ 30 := by
  obtain ⟨h1, h2⟩ := h
  rw [le_i] at h1 h2
  have e1 : (1 : Int32).toInt = 1 := rfl
  have e30 : (30 : Int32).toInt = 30 := rfl
  have e : nn9 d = d.toInt.toNat := rfl
  omega
theorem sq_vp {d : Int32} {n : Nat} (h : sq9 d) (hn : 31 ≤ n) : vp_in d n := by
  obtain ⟨e, a, b⟩ := sq_nn h
  exact vp_of (a := d.toInt) rfl (by omega) (by omega)
/-- a write into the store of a bakery -/
theorem BkA.st {o M k : Nat} {s : StS9} {v : Int32} {I : Im} (h : BkA o M s I) (hk : 1 ≤ k ∧ k ≤ 30) : BkA o M (upd s.1 k v, s.2) (uI I (o + 1) k v) := by
  obtain ⟨h1, h2, h3⟩ := h
  refine ⟨fun d a b => ?_, fun i hi => (rd_ne (by first | decide | omega)).trans (h2 i hi), (rd_ne (by first | decide | omega)).trans h3⟩
  by_cases q : d = k
  · subst q; rw [rd_eq]; exact upd_at9.symm
  · rw [rd_k q]; exact (h1 d a b).trans (upd_ne9 q).symm
theorem BkA.hv {o M k : Nat} {s : StS9} {v : Int32} {I : Im} (h : BkA o M s I) (hk : k < M) : BkA o M (s.1, upd s.2.1 k v, s.2.2) (uI I (o + 5) k v) := by
  obtain ⟨h1, h2, h3⟩ := h
  refine ⟨fun d a b => (rd_ne (by first | decide | omega)).trans (h1 d a b), fun i hi => ?_, (rd_ne (by first | decide | omega)).trans h3⟩
  by_cases q : i = k
  · subst q; rw [rd_eq]; exact upd_at9.symm
  · rw [rd_k q]; exact (h2 i hi).trans (upd_ne9 q).symm
theorem BkA.ct {o M : Nat} {s : StS9} {v : Int32} {I : Im} (h : BkA o M s I) : BkA o M (s.1, s.2.1, v) (uI I o 3 v) := by
  obtain ⟨h1, h2, h3⟩ := h
  exact ⟨fun d a b => (rd_ne (by first | decide | omega)).trans (h1 d a b), fun i hi => (rd_ne (by first | decide | omega)).trans (h2 i hi), rd_eq⟩
section STC
variable {M : Nat} {I : Im} {J : Jm} {R : Rm} {Q : Qt}
theorem px_sl9 {d : Nat} {k : Int32} (hY : sq9 k → Q 1 0 I J R) (hN : ¬ sq9 k → Q 0 0 I J R) : AM (d + 1) 161 112 [.int k] I J R Q :=
  w_X11_isSlice ⟨fun c => ⟨Or.inl rfl, hN (fun z => ile.mpr z.1 c)⟩, fun c1 => ⟨fun c => ⟨Or.inl rfl, hN (fun z => ile.mpr z.2 c)⟩, fun c2 => ⟨Or.inr rfl, hY ⟨ile.mp c1, ile.mp c2⟩⟩⟩⟩
theorem px_cMan9 {d o : Nat} {k : Int32} (hO : isO 112 o 0 = true) (hY : (0 : Int32) ≤ k ∧ k < I o 4 → Q 1 0 I J R) (hN : ¬ ((0 : Int32) ≤ k ∧ k < I o 4) → Q 0 0 I J R) : AM (d + 1) 3 112 [.ref o, .int k] I J R Q :=
  w_X0_isMan ⟨fun c => ⟨Or.inl rfl, hN (fun z => ile.mpr z.1 c)⟩, fun c => bif_t hO ⟨fun c2 => ⟨Or.inl rfl, hN (fun z => ile.mpr c2 z.2)⟩, fun c2 => ⟨Or.inr rfl, hY ⟨ile.mp c, Decidable.not_not.mp (fun z => c2 (ile.mp z))⟩⟩⟩⟩
theorem px_addLoaves {d o : Nat} {n : Int32} {s : StS9} (hO : isO 112 o 0 = true) (h : BkA o M s I) (hQ : ∀ I2, BkA o M (opAdd n s).2 I2 → FrBk o I J I2 J → Q (opAdd n s).1 0 I2 J R) : AM (d + 1) 14 112 [.ref o, .int n] I J R Q := by
  obtain ⟨a0, l0, -⟩ := fa_0_0 hO
  have t1 : Int32.toNatClampNeg 1 = 1 := rfl
  have v1 : vp_in 1 (aL (o + 1)) := by rw [l0]; exact vp_of (a := 1) rfl (by decide) (by decide)
  have e1 : I (o + 1) 1 = s.1 1 := h.1 1 (by decide) (by decide)
  have no : ¬ ((1 : Int32) ≤ n ∧ n ≤ 99) → Q 5 0 I J R := fun c => by
    have e : opAdd n s = (5, s) := if_neg c
    rw [e] at hQ
    exact hQ I h FrW.rf
  refine w_X0_addLoaves ⟨fun c => no (fun z => ile.mpr z.1 c), fun c => ⟨fun c2 => bif_t hO (bif_t a0 ⟨v1, ?_⟩), fun c2 => no (fun z => c2 z.2)⟩⟩
  have hn : (1 : Int32) ≤ n ∧ n ≤ 99 := ⟨ile.mp c, c2⟩
  have e : opAdd n s = if s.1 1 + n ≤ 99 then (0, upd s.1 1 (s.1 1 + n), s.2) else (7, s) := if_pos hn
  rw [t1, e1]
  rw [e] at hQ
  refine ⟨fun c3 => bif_t hO (bif_t a0 ⟨v1, bif_t a0 ⟨v1, ?_⟩⟩), fun c3 => ?_⟩
  · rw [if_pos c3] at hQ
    exact hQ _ (h.st (by decide)) (FrW.rf.u (Or.inl rfl))
  · rw [if_neg c3] at hQ
    exact hQ I h FrW.rf
end STC
end PT13x2
