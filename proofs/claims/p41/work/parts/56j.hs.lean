section PT13x0
/-! ===== has(), lacks(): whether they tell ===== -/
theorem x_one {x : Int32} (h : x.toInt = 1) : x = 1 := Int32.toInt_inj.mp h
end PT13x0
section PT13x1
/-! ===== fewest(), fewestAt(), ways(), oddsThat(): what they answer ===== -/
noncomputable def shL (p q : Int32) : Int := pt q.toInt.toNat * p.toInt
noncomputable def slQ (d : Int32) : Prop := (1 : Int32) ≤ d ∧ d ≤ 30
theorem sl_n {q : Int32} (h1 : (1 : Int32) ≤ q) (h2 : q ≤ 30) : q = nI q.toInt.toNat ∧ 1 ≤ q.toInt.toNat ∧ q.toInt.toNat ≤ 30 := by
  rw [le_i] at h1 h2
  have e1 : (1 : Int32).toInt = 1 := rfl
  have e30 : (30 : Int32).toInt = 30 := rfl
  refine ⟨Int32.toInt_inj.mp ?_, by omega, by omega⟩
  rw [nI_toInt (by omega)]; omega
theorem shL_b {p q : Int32} (h : sh p q) : 1 ≤ shL p q ∧ shL p q ≤ 1000000000000000 := by
  obtain ⟨⟨p1, p2⟩, q1, q2⟩ := h
  obtain ⟨-, n1, n2⟩ := sl_n q1 q2
  rw [le_i] at p1 p2
  have e1 : (1 : Int32).toInt = 1 := rfl
  have e99 : (99 : Int32).toInt = 99 := rfl
  obtain ⟨b1, b2, -⟩ := pt_b n1 n2
  unfold shL
  have k1 : 0 < pt q.toInt.toNat * p.toInt := Int.mul_pos b1 (by omega)
  have k2 : pt q.toInt.toNat * p.toInt ≤ 2329089562800 * 99 := Int.mul_le_mul b2 (by omega) (by omega) (by decide)
  omega
section RWT
variable {I : Im} {J : Jm} {R : Rm} {Q : Qt}
theorem px_crumbs {d : Nat} {p q : Int32} (h : sh p q) (hQ : ∀ y : Int64, y.toInt = shL p q → Q 0 y I J R) : AM (d + 1) 167 112 [.int p, .int q] I J R Q := by
  obtain ⟨eq, n1, n2⟩ := sl_n h.2.1 h.2.2
  have hb := shL_b h
  have ep : (Int32.toInt64 p).toInt = p.toInt := tl_i2l rfl
  have hpt := ptL q.toInt.toNat (by omega) n1
  rw [← eq] at hpt
  refine w_X11_crumbs ⟨fun _ => ⟨hpt.2.2, hQ _ ?_⟩, fun c => absurd h.2.1 c⟩
  have hb2 : 1 ≤ pt q.toInt.toNat * p.toInt ∧ pt q.toInt.toNat * p.toInt ≤ 1000000000000000 := hb
  rw [show shL p q = p.toInt * pt q.toInt.toNat from Int.mul_comm ..]
  exact tl_mul9 ep hpt.2.1 (by rw [Int.mul_comm]; omega)
theorem px_shareOf {d : Nat} {p q : Int32} (h : sh p q) (hQ : ∀ y : Int64, y.toInt = shL p q → Q 0 y I J R) : AM (d + 1) 241 112 [.int p, .int q] I J R Q := by
  obtain ⟨eq, n1, n2⟩ := sl_n h.2.1 h.2.2
  have hb := shL_b h
  have ep : (Int32.toInt64 p).toInt = p.toInt := tl_i2l rfl
  have hpt := ptL q.toInt.toNat (by omega) n1
  rw [← eq] at hpt
  refine w_X12_shareOf ⟨hpt.2.2, hQ _ ?_⟩
  have hb2 : 1 ≤ pt q.toInt.toNat * p.toInt ∧ pt q.toInt.toNat * p.toInt ≤ 1000000000000000 := hb
  exact tl_mul9 hpt.2.1 ep (by omega)
theorem px_mSlQ {d : Nat} {k : Int32} (hY : slQ k → Q 1 0 I J R) (hN : ¬ slQ k → Q 0 0 I J R) : AM (d + 2) 238 112 [.int k] I J R Q :=
  w_X12_isSlice (px_isInI (lo := 1) (hi := 30) (fun l1 l2 _ => ⟨Or.inr rfl, hY ⟨l1, l2⟩⟩) (fun z _ => ⟨Or.inl rfl, hN (fun y => z.elim (fun x => ile.mpr y.1 x) (fun x => x y.2))⟩))
theorem fwR_m {S : Nat → Bool} {l : Int} {r : List Nat} : ∀ f n, fwR S l f n = some r → r.length < n + f := by
  intro f
  induction f with
  | zero => intro n h; cases h
  | succ f ih =>
    intro n h
    cases q : rws S 30 n l with
    | nil =>
      rw [fwR_n q] at h
      have := ih (n + 1) h
      omega
    | cons r2 rs =>
      rw [fwR_c q] at h
      have e : r2 = r := Option.some.inj h
      subst e
      have := (rws_mem 30 n l r2 (by decide) (by rw [q]; exact List.mem_cons_self ..)).1
      omega
theorem fwC_pos {S : Nat → Bool} {l : Int} (h : 1 ≤ l) : fwC S l = fwR S l 5 1 := by
  unfold fwC
  rw [if_neg (by omega), if_neg (by omega)]
theorem fwC_len {S : Nat → Bool} {l : Int} {r : List Nat} (h : fwC S l = some r) : r.length ≤ 5 := by
  unfold fwC at h
  by_cases q : l = 0
  · rw [if_pos q] at h
    have e : [] = r := Option.some.inj h
    rw [← e]; exact Nat.zero_le _
  · rw [if_neg q] at h
    by_cases q2 : l < 0
    · rw [if_pos q2] at h; cases h
    · rw [if_neg q2] at h
      have := fwR_m 5 1 h
      omega
theorem atO_y {k : Int32} {r : List Nat} (h : 0 ≤ k.toInt ∧ k.toInt < r.length) : atO k (some r) = nI (r.getD k.toNatClampNeg 0) := if_pos h
theorem atO_n {k : Int32} {r : List Nat} (h : ¬ (0 ≤ k.toInt ∧ k.toInt < r.length)) : atO k (some r) = -1 := if_neg h
/-- the k-th slice of what was looked for, class -/
theorem px_answerSlice {d : Nat} {o : Option (List Nat)} {k : Int32} (h : ∀ r, o = some r → I 35 5 = nI r.length ∧ ∀ i, i < r.length → I 37 i = nI (r.getD i 0)) (h5 : ∀ r, o = some r → r.length ≤ 5) (hQ : ∀ I2, Q (atO k o) 0 I2 J R) : AM (d + 3) 154 112 [.ref 1, .int (bl o.isSome), .int k] I J R Q := by
  cases o with
  | none => exact w_X11_answerSlice ⟨fun _ => w_X11_refuse (hQ _), fun z => absurd rfl z⟩
  | some r =>
    obtain ⟨e5, e7⟩ := h r rfl
    have hl := h5 r rfl
    have z0 : (0 : Int32).toInt = 0 := rfl
    have tl : (nI r.length).toInt = r.length := nI_toInt (by omega)
    have no : ¬ (0 ≤ k.toInt ∧ k.toInt < r.length) → ∀ M, Q (-1) 0 M J R := fun q M => by
      have := hQ M
      rw [atO_n q] at this; exact this
    refine w_X11_answerSlice ⟨fun z => absurd (show (1 : Int32) = 0 from z) (by decide), fun _ => w_X7_hasBest ⟨fun c => ⟨Or.inl rfl, fun _ => ⟨fun _ => w_X11_refuse (no (fun q => ?_) _), fun z => absurd rfl z⟩⟩, fun c => ⟨fun c2 => ⟨Or.inl rfl, fun _ => ⟨fun _ => w_X11_refuse (no (fun q => ?_) _), fun z => absurd rfl z⟩⟩, fun c2 => ⟨Or.inr rfl, fun _ => ⟨fun z => absurd z (by decide), fun _ => ?_⟩⟩⟩⟩⟩
    · rw [Int32.lt_iff_toInt_lt, z0] at c; omega
    · rw [e5, le_i, tl] at c2; omega
    · rw [Int32.lt_iff_toInt_lt, z0] at c
      rw [e5, le_i, tl] at c2
      have hk : 0 ≤ k.toInt ∧ k.toInt < r.length := by omega
      refine ⟨vp_of (a := k.toInt) rfl hk.1 (by omega), w_X11_answer ?_⟩
      have hi : k.toNatClampNeg < r.length := by
        show k.toInt.toNat < r.length
        omega
      rw [e7 _ hi, ← atO_y hk]
      exact hQ _
/-! the reference's -/
end RWT
/-! both -/
end PT13x1
section PT13x2
/-! ===== the store: what is done, purely; the class's part of it ===== -/
/-- the store by slices, what each man has, cuts -/
noncomputable abbrev StS9 : Type := (Nat → Int32) × (Nat → Int32) × Int32
noncomputable abbrev sq9 (d : Int32) : Prop := (1 : Int32) ≤ d ∧ d ≤ 30
noncomputable abbrev nn9 (d : Int32) : Nat := Int32.toNatClampNeg d
noncomputable def opAdd (n : Int32) (s : StS9) : Int32 × StS9 := if (1 : Int32) ≤ n ∧ n ≤ 99 then (if s.1 1 + n ≤ 99 then (0, upd s.1 1 (s.1 1 + n), s.2) else (7, s)) else (5, s)
noncomputable def ov9 (S : Nat → Int32) (o d a b : Int32) : Int32 := S (nn9 o) - (if o = d then 1 else 0) + (if o = a then 1 else 0) + (if o = b then 1 else 0)
noncomputable def ct9 (S : Nat → Int32) (d a b : Int32) : Nat → Int32 :=
  upd (upd (upd S (nn9 d) (S (nn9 d) - 1)) (nn9 a) (upd S (nn9 d) (S (nn9 d) - 1) (nn9 a) + 1)) (nn9 b) (upd (upd S (nn9 d) (S (nn9 d) - 1)) (nn9 a) (upd S (nn9 d) (S (nn9 d) - 1) (nn9 a) + 1) (nn9 b) + 1)
noncomputable def opCut (d a b : Int32) (s : StS9) : Int32 × StS9 := if sq9 d ∧ (sq9 a ∧ sq9 b) then (if 99 < ov9 s.1 a d a b ∨ 99 < ov9 s.1 b d a b then (7, s) else if ¬ s.1 (nn9 d) < 1 ∧ a * b = d * (a + b) then (0, ct9 s.1 d a b, s.2.1, s.2.2 + 1) else (9, s)) else (2, s)
noncomputable def sp9 (S : Nat → Int32) (d n : Int32) : Nat → Int32 := upd (upd S (nn9 d) (S (nn9 d) - 1)) (nn9 (d * n)) (upd S (nn9 d) (S (nn9 d) - 1) (nn9 (d * n)) + n)
noncomputable def opSplit (d n : Int32) (s : StS9) : Int32 × StS9 := if sq9 d then (if (2 : Int32) ≤ n ∧ n ≤ 30 then (if sq9 (d * n) ∧ ¬ s.1 (nn9 (d * n)) + n ≤ 99 then (7, s) else if ¬ s.1 (nn9 d) < 1 ∧ sq9 (d * n) then (0, sp9 s.1 d n, s.2.1, s.2.2 + 1) else (9, s)) else (5, s)) else (2, s)
noncomputable def opGive (m k d : Int32) (s : StS9) : Int32 × StS9 := if ((0 : Int32) ≤ k ∧ k < m) ∧ sq9 d then (if ¬ s.1 (nn9 d) < 1 ∧ inS (s.2.1 (nn9 k)) d = false then (0, upd s.1 (nn9 d) (s.1 (nn9 d) - 1), upd s.2.1 (nn9 k) (s.2.1 (nn9 k) ||| biS d), s.2.2) else (9, s)) else (2, s)
noncomputable def opTake (m k d : Int32) (s : StS9) : Int32 × StS9 := if ((0 : Int32) ≤ k ∧ k < m) ∧ sq9 d then (if s.1 (nn9 d) < 99 then (if inS (s.2.1 (nn9 k)) d = true then (0, upd s.1 (nn9 d) (s.1 (nn9 d) + 1), upd s.2.1 (nn9 k) (s.2.1 (nn9 k) &&& (biS d ^^^ (-1))), s.2.2) else (9, s)) else (7, s)) else (2, s)
/-- the bakery at o holds it -/
noncomputable def BkA (o M : Nat) (s : StS9) (I : Im) : Prop := (∀ d, 1 ≤ d → d ≤ 30 → I (o + 1) d = s.1 d) ∧ (∀ k, k < M → I (o + 5) k = s.2.1 k) ∧ I o 3 = s.2.2
noncomputable abbrev WBk (o : Nat) : Nat → Nat → Prop := fun c k => c = o + 1 ∨ c = o + 5 ∨ (c = o ∧ k = 3)
noncomputable abbrev FrBk (o : Nat) (I : Im) (J : Jm) (I2 : Im) (J2 : Jm) : Prop := FrW (WBk o) nV I J I2 J2
theorem upd_at9 {f : Nat → Int32} {k : Nat} {v : Int32} : upd f k v k = v := if_pos rfl
theorem upd_ne9 {f : Nat → Int32} {k j : Nat} {v : Int32} (h : ¬ j = k) : upd f k v j = f j := if_neg h
theorem sq_nn {d : Int32} (h : sq9 d) : d.toInt = (nn9 d : Int) ∧ 1 ≤ nn9 d ∧ nn9 d ≤ 30 := by
  obtain ⟨h1, h2⟩ := h
  rw [le_i] at h1 h2
  have e1 : (1 : Int32).toInt = 1 := rfl
  have e30 : (30 : Int32).toInt = 30 := rfl
  have e : nn9 d = d.toInt.toNat := rfl
  omega
theorem sq_vp {d : Int32} {n : Nat} (h : sq9 d) (hn : 31 ≤ n) : vp_in d n := by
  obtain ⟨e, a, b⟩ := sq_nn h
  exact vp_of (a := d.toInt) rfl (by omega) (by omega)
/-- a write into the store of a bakery -/
theorem BkA.st {o M k : Nat} {s : StS9} {v : Int32} {I : Im} (h : BkA o M s I) (hk : 1 ≤ k ∧ k ≤ 30) : BkA o M (upd s.1 k v, s.2) (uI I (o + 1) k v) := by
  obtain ⟨h1, h2, h3⟩ := h
  refine ⟨fun d a b => ?_, fun i hi => (rd_ne (by first | decide | omega)).trans (h2 i hi), (rd_ne (by first | decide | omega)).trans h3⟩
  by_cases q : d = k
  · subst q; rw [rd_eq]; exact upd_at9.symm
  · rw [rd_k q]; exact (h1 d a b).trans (upd_ne9 q).symm
theorem BkA.hv {o M k : Nat} {s : StS9} {v : Int32} {I : Im} (h : BkA o M s I) (hk : k < M) : BkA o M (s.1, upd s.2.1 k v, s.2.2) (uI I (o + 5) k v) := by
  obtain ⟨h1, h2, h3⟩ := h
  refine ⟨fun d a b => (rd_ne (by first | decide | omega)).trans (h1 d a b), fun i hi => ?_, (rd_ne (by first | decide | omega)).trans h3⟩
  by_cases q : i = k
  · subst q; rw [rd_eq]; exact upd_at9.symm
  · rw [rd_k q]; exact (h2 i hi).trans (upd_ne9 q).symm
theorem BkA.ct {o M : Nat} {s : StS9} {v : Int32} {I : Im} (h : BkA o M s I) : BkA o M (s.1, s.2.1, v) (uI I o 3 v) := by
  obtain ⟨h1, h2, h3⟩ := h
  exact ⟨fun d a b => (rd_ne (by first | decide | omega)).trans (h1 d a b), fun i hi => (rd_ne (by first | decide | omega)).trans (h2 i hi), rd_eq⟩
section STC
variable {M : Nat} {I : Im} {J : Jm} {R : Rm} {Q : Qt}
theorem px_sl9 {d : Nat} {k : Int32} (hY : sq9 k → Q 1 0 I J R) (hN : ¬ sq9 k → Q 0 0 I J R) : AM (d + 1) 161 112 [.int k] I J R Q :=
  w_X11_isSlice ⟨fun c => ⟨Or.inl rfl, hN (fun z => ile.mpr z.1 c)⟩, fun c1 => ⟨fun c => ⟨Or.inl rfl, hN (fun z => ile.mpr z.2 c)⟩, fun c2 => ⟨Or.inr rfl, hY ⟨ile.mp c1, ile.mp c2⟩⟩⟩⟩
theorem px_cMan9 {d o : Nat} {k : Int32} (hO : isO 112 o 0 = true) (hY : (0 : Int32) ≤ k ∧ k < I o 4 → Q 1 0 I J R) (hN : ¬ ((0 : Int32) ≤ k ∧ k < I o 4) → Q 0 0 I J R) : AM (d + 1) 3 112 [.ref o, .int k] I J R Q :=
  w_X0_isMan ⟨fun c => ⟨Or.inl rfl, hN (fun z => ile.mpr z.1 c)⟩, fun c => bif_t hO ⟨fun c2 => ⟨Or.inl rfl, hN (fun z => ile.mpr c2 z.2)⟩, fun c2 => ⟨Or.inr rfl, hY ⟨ile.mp c, Decidable.not_not.mp (fun z => c2 (ile.mp z))⟩⟩⟩⟩
theorem px_addLoaves {d o : Nat} {n : Int32} {s : StS9} (hO : isO 112 o 0 = true) (h : BkA o M s I) (hQ : ∀ I2, BkA o M (opAdd n s).2 I2 → FrBk o I J I2 J → Q (opAdd n s).1 0 I2 J R) : AM (d + 1) 14 112 [.ref o, .int n] I J R Q := by
  obtain ⟨a0, l0, -⟩ := fa_0_0 hO
  have t1 : Int32.toNatClampNeg 1 = 1 := rfl
  have v1 : vp_in 1 (aL (o + 1)) := by rw [l0]; exact vp_of (a := 1) rfl (by decide) (by decide)
  have e1 : I (o + 1) 1 = s.1 1 := h.1 1 (by decide) (by decide)
  have no : ¬ ((1 : Int32) ≤ n ∧ n ≤ 99) → Q 5 0 I J R := fun c => by
    have e : opAdd n s = (5, s) := if_neg c
    rw [e] at hQ
    exact hQ I h FrW.rf
  refine w_X0_addLoaves ⟨fun c => no (fun z => ile.mpr z.1 c), fun c => ⟨fun c2 => bif_t hO (bif_t a0 ⟨v1, ?_⟩), fun c2 => no (fun z => c2 z.2)⟩⟩
  have hn : (1 : Int32) ≤ n ∧ n ≤ 99 := ⟨ile.mp c, c2⟩
  have e : opAdd n s = if s.1 1 + n ≤ 99 then (0, upd s.1 1 (s.1 1 + n), s.2) else (7, s) := if_pos hn
  rw [t1, e1]
  rw [e] at hQ
  refine ⟨fun c3 => bif_t hO (bif_t a0 ⟨v1, bif_t a0 ⟨v1, ?_⟩⟩), fun c3 => ?_⟩
  · rw [if_pos c3] at hQ
    exact hQ _ (h.st (by decide)) (FrW.rf.u (Or.inl rfl))
  · rw [if_neg c3] at hQ
    exact hQ I h FrW.rf
theorem px_sac {e o : Nat} {u d a b : Int32} {s : StS9} (hO : isO 112 o 0 = true) (h : BkA o M s I) (hu : sq9 u) (hQ : Q (ov9 s.1 u d a b) 0 I J R) : AM (e + 1) 16 112 [.ref o, .int u, .int d, .int a, .int b] I J R Q := by
  obtain ⟨a0, l0, -⟩ := fa_0_0 hO
  obtain ⟨-, n1, n2⟩ := sq_nn hu
  refine w_X0_stockAfterCut (bif_t hO (bif_t a0 ⟨by rw [l0]; exact sq_vp hu (by decide), ?_⟩))
  have e1 : I (o + 1) (Int32.toNatClampNeg u) = s.1 (nn9 u) := h.1 _ n1 n2
  rw [e1]
  unfold ov9 at hQ
  refine ⟨fun c1 => ⟨fun c2 => ⟨fun c3 => ?_, fun c3 => ?_⟩, fun c2 => ⟨fun c3 => ?_, fun c3 => ?_⟩⟩, fun c1 => ⟨fun c2 => ⟨fun c3 => ?_, fun c3 => ?_⟩, fun c2 => ⟨fun c3 => ?_, fun c3 => ?_⟩⟩⟩
  · rw [if_neg c1, if_neg c2, if_neg c3] at hQ; exact hQ
  · rw [if_neg c1, if_neg c2, if_pos c3] at hQ; exact hQ
  · rw [if_neg c1, if_pos c2, if_neg c3] at hQ; exact hQ
  · rw [if_neg c1, if_pos c2, if_pos c3] at hQ; exact hQ
  · rw [if_pos c1, if_neg c2, if_neg c3] at hQ; exact hQ
  · rw [if_pos c1, if_neg c2, if_pos c3] at hQ; exact hQ
  · rw [if_pos c1, if_pos c2, if_neg c3] at hQ; exact hQ
  · rw [if_pos c1, if_pos c2, if_pos c3] at hQ; exact hQ
theorem px_cutUp {e o : Nat} {d a b : Int32} {s : StS9} (hO : isO 112 o 0 = true) (h : BkA o M s I) (hQ : ∀ I2, BkA o M (opCut d a b s).2 I2 → FrBk o I J I2 J → Q (opCut d a b s).1 0 I2 J R) : AM (e + 2) 15 112 [.ref o, .int d, .int a, .int b] I J R Q := by
  obtain ⟨a0, l0, -⟩ := fa_0_0 hO
  have no : ¬ (sq9 d ∧ (sq9 a ∧ sq9 b)) → Q 2 0 I J R := fun c => by
    have e : opCut d a b s = (2, s) := if_neg c
    rw [e] at hQ
    exact hQ I h FrW.rf
  refine w_X0_cutUp (px_sl9 (fun hd _ => ⟨fun z => absurd z (by decide), fun _ => px_sl9 (fun ha _ => ⟨fun z => absurd z (by decide), fun _ => px_sl9 (fun hb _ => ⟨fun _ => bif_t hO (px_sac hO h ha ?_), fun z => absurd z (by decide)⟩) (fun hb _ => ⟨fun z => absurd rfl z, fun _ => no (fun y => hb y.2.2)⟩)⟩) (fun ha _ => ⟨fun _ => no (fun y => ha y.2.1), fun z => absurd rfl z⟩)⟩) (fun hd _ => ⟨fun _ => no (fun y => hd y.1), fun z => absurd rfl z⟩))
  have e0 : opCut d a b s = if 99 < ov9 s.1 a d a b ∨ 99 < ov9 s.1 b d a b then (7, s) else if ¬ s.1 (nn9 d) < 1 ∧ a * b = d * (a + b) then (0, ct9 s.1 d a b, s.2.1, s.2.2 + 1) else (9, s) := if_pos ⟨hd, ha, hb⟩
  rw [e0] at hQ
  have vd : vp_in d (aL (o + 1)) := by rw [l0]; exact sq_vp hd (by decide)
  have va : vp_in a (aL (o + 1)) := by rw [l0]; exact sq_vp ha (by decide)
  have vb : vp_in b (aL (o + 1)) := by rw [l0]; exact sq_vp hb (by decide)
  have nd := (sq_nn hd).2
  have na := (sq_nn ha).2
  have nb := (sq_nn hb).2
  refine ⟨fun c => ?_, fun c => bif_t hO (px_sac hO h hb ⟨fun c2 => bif_t hO (bif_t a0 ⟨vd, ?_⟩), fun c2 => ?_⟩)⟩
  · rw [if_pos (Or.inl c)] at hQ
    exact hQ I h FrW.rf
  · have c2' : ¬ (99 : Int32) < ov9 s.1 b d a b := ile.mpr c2
    rw [if_neg (fun z => z.elim c c2')] at hQ
    have ed : I (o + 1) (Int32.toNatClampNeg d) = s.1 (nn9 d) := h.1 _ nd.1 nd.2
    rw [ed]
    refine ⟨fun c3 => ?_, fun c3 => ⟨fun c4 => bif_t hO (bif_t a0 ⟨vd, bif_t a0 ⟨vd, bif_t hO (bif_t a0 ⟨va, bif_t a0 ⟨va, bif_t hO (bif_t a0 ⟨vb, bif_t a0 ⟨vb, bif_t hO (bif_t hO ?_)⟩⟩)⟩⟩)⟩⟩), fun c4 => ?_⟩⟩
    · rw [if_neg (fun z => z.1 c3)] at hQ
      exact hQ I h FrW.rf
    · rw [if_pos ⟨c3, c4⟩] at hQ
      have h1 := h.st (k := nn9 d) (v := s.1 (nn9 d) - 1) nd
      have ea : uI I (o + 1) (nn9 d) (s.1 (nn9 d) - 1) (o + 1) (nn9 a) = upd s.1 (nn9 d) (s.1 (nn9 d) - 1) (nn9 a) := h1.1 _ na.1 na.2
      rw [ea]
      have h2 := h1.st (k := nn9 a) (v := upd s.1 (nn9 d) (s.1 (nn9 d) - 1) (nn9 a) + 1) na
      have eb := h2.1 _ nb.1 nb.2
      rw [eb]
      have h3 := h2.st (k := nn9 b) (v := upd (upd s.1 (nn9 d) (s.1 (nn9 d) - 1)) (nn9 a) (upd s.1 (nn9 d) (s.1 (nn9 d) - 1) (nn9 a) + 1) (nn9 b) + 1) nb
      have ec := h3.2.2
      rw [ec]
      exact hQ _ (h3.ct (v := s.2.2 + 1)) ((((FrW.rf.u (Or.inl rfl)).u (Or.inl rfl)).u (Or.inl rfl)).u (Or.inr (Or.inr ⟨rfl, rfl⟩)))
    · rw [if_neg (fun z => c4 z.2)] at hQ
      exact hQ I h FrW.rf
  · rw [if_pos (Or.inr (Decidable.not_not.mp (fun z => c2 (ile.mp z))))] at hQ
    exact hQ I h FrW.rf
theorem px_splitUp {e o : Nat} {d n : Int32} {s : StS9} (hO : isO 112 o 0 = true) (h : BkA o M s I) (hQ : ∀ I2, BkA o M (opSplit d n s).2 I2 → FrBk o I J I2 J → Q (opSplit d n s).1 0 I2 J R) : AM (e + 2) 17 112 [.ref o, .int d, .int n] I J R Q := by
  obtain ⟨a0, l0, -⟩ := fa_0_0 hO
  refine am_X0_splitUp (fun P hc => sg_X0_splitUp_0 hc _ _ _ _ _ _ (px_sl9 (fun hd _ => ⟨fun _ => ?_, fun z => absurd z (by decide)⟩) (fun hd _ => ⟨fun z => absurd rfl z, fun _ => ?_⟩)))
  · have e1 : opSplit d n s = if (2 : Int32) ≤ n ∧ n ≤ 30 then (if sq9 (d * n) ∧ ¬ s.1 (nn9 (d * n)) + n ≤ 99 then (7, s) else if ¬ s.1 (nn9 d) < 1 ∧ sq9 (d * n) then (0, sp9 s.1 d n, s.2.1, s.2.2 + 1) else (9, s)) else (5, s) := if_pos hd
    have no5 : ¬ ((2 : Int32) ≤ n ∧ n ≤ 30) → Q 5 0 I J R := fun c => by
      rw [e1, if_neg c] at hQ
      exact hQ I h FrW.rf
    refine ⟨fun c => no5 (fun z => ile.mpr z.1 c), fun c => ⟨fun c2 => ?_, fun c2 => no5 (fun z => c2 z.2)⟩⟩
    rw [e1, if_pos ⟨ile.mp c, c2⟩] at hQ
    have vd : vp_in d (aL (o + 1)) := by rw [l0]; exact sq_vp hd (by decide)
    have nd := (sq_nn hd).2
    have ed : I (o + 1) (Int32.toNatClampNeg d) = s.1 (nn9 d) := h.1 _ nd.1 nd.2
    have L49 : ¬ (sq9 (d * n) ∧ ¬ s.1 (nn9 (d * n)) + n ≤ 99) → P 49 112 [(0, .ref o), (1, .int d), (2, .int n), (3, .int (d * n))] [] I J R := fun c3 => by
      rw [if_neg c3] at hQ
      refine sg_X0_splitUp_49 hc _ _ _ _ _ _ _ (bif_t hO (bif_t a0 ⟨vd, ?_⟩))
      rw [ed]
      refine ⟨fun c4 => ?_, fun c4 => px_sl9 (fun hp _ => ⟨fun _ => ?_, fun z => absurd z (by decide)⟩) (fun hp _ => ⟨fun z => absurd rfl z, fun _ => ?_⟩)⟩
      · rw [if_neg (fun z => z.1 c4)] at hQ
        exact hQ I h FrW.rf
      · have vq : vp_in (d * n) (aL (o + 1)) := by rw [l0]; exact sq_vp hp (by decide)
        have np := (sq_nn hp).2
        rw [if_pos ⟨c4, hp⟩] at hQ
        refine bif_t hO (bif_t a0 ⟨vd, bif_t a0 ⟨vd, bif_t hO (bif_t a0 ⟨vq, bif_t a0 ⟨vq, bif_t hO (bif_t hO ?_)⟩⟩)⟩⟩)
        have h1 := h.st (k := nn9 d) (v := s.1 (nn9 d) - 1) nd
        have ea := h1.1 _ np.1 np.2
        rw [ed, ea]
        have h2 := h1.st (k := nn9 (d * n)) (v := upd s.1 (nn9 d) (s.1 (nn9 d) - 1) (nn9 (d * n)) + n) np
        have ec := h2.2.2
        rw [ec]
        exact hQ _ (h2.ct (v := s.2.2 + 1)) (((FrW.rf.u (Or.inl rfl)).u (Or.inl rfl)).u (Or.inr (Or.inr ⟨rfl, rfl⟩)))
      · rw [if_neg (fun z => hp z.2)] at hQ
        exact hQ I h FrW.rf
    refine px_sl9 (fun hp _ => ⟨fun z => absurd z (by decide), fun _ => ?_⟩) (fun hp _ => ⟨fun _ => L49 (fun z => hp z.1), fun z => absurd rfl z⟩)
    have vq : vp_in (d * n) (aL (o + 1)) := by rw [l0]; exact sq_vp hp (by decide)
    have np := (sq_nn hp).2
    have ep : I (o + 1) (Int32.toNatClampNeg (d * n)) = s.1 (nn9 (d * n)) := h.1 _ np.1 np.2
    refine bif_t hO (bif_t a0 ⟨vq, ?_⟩)
    rw [ep]
    refine ⟨fun c3 => L49 (fun z => z.2 c3), fun c3 => ?_⟩
    rw [if_pos ⟨hp, c3⟩] at hQ
    exact hQ I h FrW.rf
  · have e1 : opSplit d n s = (2, s) := if_neg hd
    rw [e1] at hQ
    exact hQ I h FrW.rf
theorem mn_nn {k m : Int32} (h : (0 : Int32) ≤ k ∧ k < m) (hm : m.toInt = (M : Int) ∧ M ≤ 6) : nn9 k < M ∧ vp_in k 6 := by
  obtain ⟨h1, h2⟩ := h
  rw [le_i, show (0 : Int32).toInt = 0 from rfl] at h1
  rw [Int32.lt_iff_toInt_lt] at h2
  have e : nn9 k = k.toInt.toNat := rfl
  exact ⟨by omega, vp_of (a := k.toInt) rfl h1 (by omega)⟩
theorem px_handOver {e o : Nat} {k d : Int32} {s : StS9} (hO : isO 112 o 0 = true) (hm : (I o 4).toInt = (M : Int) ∧ M ≤ 6) (h : BkA o M s I) (hQ : ∀ I2, BkA o M (opGive (I o 4) k d s).2 I2 → FrBk o I J I2 J → Q (opGive (I o 4) k d s).1 0 I2 J R) : AM (e + 2) 18 112 [.ref o, .int k, .int d] I J R Q := by
  obtain ⟨a0, l0, -⟩ := fa_0_0 hO
  obtain ⟨a5, l5, -⟩ := fa_0_8 hO
  have no : ¬ (((0 : Int32) ≤ k ∧ k < I o 4) ∧ sq9 d) → Q 2 0 I J R := fun c => by
    have e1 : opGive (I o 4) k d s = (2, s) := if_neg c
    rw [e1] at hQ
    exact hQ I h FrW.rf
  refine w_X0_handOver (bif_t hO (px_cMan9 hO (fun hk _ => ⟨fun z => absurd z (by decide), fun _ => px_sl9 (fun hd _ => ⟨fun _ => ?_, fun z => absurd z (by decide)⟩) (fun hd _ => ⟨fun z => absurd rfl z, fun _ => no (fun y => hd y.2)⟩)⟩) (fun hk _ => ⟨fun _ => no (fun y => hk y.1), fun z => absurd rfl z⟩)))
  have e1 : opGive (I o 4) k d s = if ¬ s.1 (nn9 d) < 1 ∧ inS (s.2.1 (nn9 k)) d = false then (0, upd s.1 (nn9 d) (s.1 (nn9 d) - 1), upd s.2.1 (nn9 k) (s.2.1 (nn9 k) ||| biS d), s.2.2) else (9, s) := if_pos ⟨hk, hd⟩
  rw [e1] at hQ
  have vd : vp_in d (aL (o + 1)) := by rw [l0]; exact sq_vp hd (by decide)
  have nd := (sq_nn hd).2
  obtain ⟨nk, vk⟩ := mn_nn hk hm
  rw [← l5] at vk
  have ed : I (o + 1) (Int32.toNatClampNeg d) = s.1 (nn9 d) := h.1 _ nd.1 nd.2
  have ek : I (o + 5) (Int32.toNatClampNeg k) = s.2.1 (nn9 k) := h.2.1 _ nk
  refine bif_t hO (bif_t a0 ⟨vd, ?_⟩)
  rw [ed]
  refine ⟨fun c => ?_, fun c => bif_t hO (bif_t a5 ⟨vk, ?_⟩)⟩
  · rw [if_neg (fun z => z.1 c)] at hQ
    exact hQ I h FrW.rf
  · rw [ek]
    refine px_isIn (fun hi _ => ⟨fun z => absurd z (by decide), fun _ => ?_⟩) (fun hi _ => ⟨fun _ => ?_, fun z => absurd rfl z⟩)
    · rw [if_neg (fun z => by rw [hi] at z; exact absurd z.2 (by decide))] at hQ
      exact hQ I h FrW.rf
    · rw [if_pos ⟨c, hi⟩] at hQ
      refine bif_t hO (bif_t a0 ⟨vd, bif_t a0 ⟨vd, bif_t hO (bif_t a5 ⟨vk, w_X11_bit (bif_t a5 ⟨vk, ?_⟩)⟩)⟩⟩)
      have h1 := h.st (k := nn9 d) (v := s.1 (nn9 d) - 1) nd
      have e2 := h1.2.1 _ nk
      rw [ed, e2]
      exact hQ _ (h1.hv (k := nn9 k) (v := s.2.1 (nn9 k) ||| biS d) nk) ((FrW.rf.u (Or.inl rfl)).u (Or.inr (Or.inl rfl)))
theorem px_handBack {e o : Nat} {k d : Int32} {s : StS9} (hO : isO 112 o 0 = true) (hm : (I o 4).toInt = (M : Int) ∧ M ≤ 6) (h : BkA o M s I) (hQ : ∀ I2, BkA o M (opTake (I o 4) k d s).2 I2 → FrBk o I J I2 J → Q (opTake (I o 4) k d s).1 0 I2 J R) : AM (e + 2) 19 112 [.ref o, .int k, .int d] I J R Q := by
  obtain ⟨a0, l0, -⟩ := fa_0_0 hO
  obtain ⟨a5, l5, -⟩ := fa_0_8 hO
  have no : ¬ (((0 : Int32) ≤ k ∧ k < I o 4) ∧ sq9 d) → Q 2 0 I J R := fun c => by
    have e1 : opTake (I o 4) k d s = (2, s) := if_neg c
    rw [e1] at hQ
    exact hQ I h FrW.rf
  refine w_X0_handBack (bif_t hO (px_cMan9 hO (fun hk _ => ⟨fun z => absurd z (by decide), fun _ => px_sl9 (fun hd _ => ⟨fun _ => ?_, fun z => absurd z (by decide)⟩) (fun hd _ => ⟨fun z => absurd rfl z, fun _ => no (fun y => hd y.2)⟩)⟩) (fun hk _ => ⟨fun _ => no (fun y => hk y.1), fun z => absurd rfl z⟩)))
  have e1 : opTake (I o 4) k d s = if s.1 (nn9 d) < 99 then (if inS (s.2.1 (nn9 k)) d = true then (0, upd s.1 (nn9 d) (s.1 (nn9 d) + 1), upd s.2.1 (nn9 k) (s.2.1 (nn9 k) &&& (biS d ^^^ (-1))), s.2.2) else (9, s)) else (7, s) := if_pos ⟨hk, hd⟩
  rw [e1] at hQ
  have vd : vp_in d (aL (o + 1)) := by rw [l0]; exact sq_vp hd (by decide)
  have nd := (sq_nn hd).2
  obtain ⟨nk, vk⟩ := mn_nn hk hm
  rw [← l5] at vk
  have ed : I (o + 1) (Int32.toNatClampNeg d) = s.1 (nn9 d) := h.1 _ nd.1 nd.2
  have ek : I (o + 5) (Int32.toNatClampNeg k) = s.2.1 (nn9 k) := h.2.1 _ nk
  refine bif_t hO (bif_t a0 ⟨vd, ?_⟩)
  rw [ed]
  refine ⟨fun c => bif_t hO (bif_t a5 ⟨vk, ?_⟩), fun c => ?_⟩
  · rw [ek]
    rw [if_pos c] at hQ
    refine px_isIn (fun hi _ => ⟨fun _ => ?_, fun z => absurd z (by decide)⟩) (fun hi _ => ⟨fun z => absurd rfl z, fun _ => ?_⟩)
    · rw [if_pos hi] at hQ
      refine bif_t hO (bif_t a0 ⟨vd, bif_t a0 ⟨vd, bif_t hO (bif_t a5 ⟨vk, w_X11_bit (bif_t a5 ⟨vk, ?_⟩)⟩)⟩⟩)
      have h1 := h.st (k := nn9 d) (v := s.1 (nn9 d) + 1) nd
      have e2 := h1.2.1 _ nk
      rw [ed, e2]
      exact hQ _ (h1.hv (k := nn9 k) (v := s.2.1 (nn9 k) &&& (biS d ^^^ (-1))) nk) ((FrW.rf.u (Or.inl rfl)).u (Or.inr (Or.inl rfl)))
    · rw [if_neg (by rw [hi]; decide)] at hQ
      exact hQ I h FrW.rf
  · rw [if_neg c] at hQ
    exact hQ I h FrW.rf
end STC
end PT13x2
section PT13x3
/-! ===== the store's operations: the reference's ===== -/
noncomputable def BkR (M : Nat) (s : StS9) (I : Im) : Prop := (∀ d, 1 ≤ d → d ≤ 30 → I 102 (3 + d) = s.1 d) ∧ (∀ k, k < M → I 102 (46 + k) = s.2.1 k) ∧ I 102 2 = s.2.2
noncomputable abbrev WRs : Nat → Nat → Prop := fun c k => c = 102 ∧ ((4 ≤ k ∧ k ≤ 33) ∨ (46 ≤ k ∧ k ≤ 51) ∨ k = 2)
noncomputable abbrev FrRs (I : Im) (J : Jm) (I2 : Im) (J2 : Jm) : Prop := FrW WRs nV I J I2 J2
noncomputable def b9 (x : Int32) : Int32 := if x = 0 then 1 else 0
theorem b9_0 : b9 0 = 1 := rfl
theorem b9_7 : b9 7 = 0 := rfl
theorem b9_9 : b9 9 = 0 := rfl
theorem sq_nI {d : Int32} (h : sq9 d) : nI (nn9 d) = d := by
  obtain ⟨e, n1, n2⟩ := sq_nn h
  exact Int32.toInt_inj.mp (by rw [nI_toInt (by omega)]; exact e.symm)
theorem ix_st {d : Int32} (h : sq9 d) : Int32.toNatClampNeg ((4 + d) - 1) = 3 + nn9 d ∧ vp_in ((4 + d) - 1) 1620 := by
  obtain ⟨e, n1, n2⟩ := sq_nn h
  have e1 : (4 + d : Int32).toInt = 4 + (nn9 d : Int) := ti_add (show (4 : Int32).toInt = 4 from rfl) e (by omega)
  have e2 : (4 + d - 1 : Int32).toInt = 4 + (nn9 d : Int) - 1 := ti_sub e1 (show (1 : Int32).toInt = 1 from rfl) (by omega)
  have e3 : Int32.toNatClampNeg (4 + d - 1) = (4 + d - 1 : Int32).toInt.toNat := rfl
  exact ⟨by rw [e3, e2]; omega, vp_of (a := 4 + (nn9 d : Int) - 1) e2 (by omega) (by omega)⟩
theorem ix_hv {M : Nat} {k m : Int32} (h : (0 : Int32) ≤ k ∧ k < m) (hm : m.toInt = (M : Int) ∧ M ≤ 6) : Int32.toNatClampNeg (46 + k) = 46 + nn9 k ∧ vp_in (46 + k) 1620 ∧ nn9 k < M := by
  obtain ⟨h1, h2⟩ := h
  rw [le_i, show (0 : Int32).toInt = 0 from rfl] at h1
  rw [Int32.lt_iff_toInt_lt] at h2
  have e1 : (46 + k : Int32).toInt = 46 + k.toInt := ti_add (show (46 : Int32).toInt = 46 from rfl) rfl (by omega)
  have e3 : Int32.toNatClampNeg (46 + k) = (46 + k : Int32).toInt.toNat := rfl
  have e4 : nn9 k = k.toInt.toNat := rfl
  exact ⟨by rw [e3, e1, e4]; omega, vp_of (a := 46 + k.toInt) e1 (by omega) (by omega), by rw [e4]; omega⟩
theorem BkR.st {M k : Nat} {s : StS9} {v : Int32} {I : Im} (h : BkR M s I) (hk : 1 ≤ k ∧ k ≤ 30) : BkR M (upd s.1 k v, s.2) (uI I 102 (3 + k) v) := by
  obtain ⟨h1, h2, h3⟩ := h
  refine ⟨fun d a b => ?_, fun i hi => (rd_k (by omega)).trans (h2 i hi), (rd_k (by omega)).trans h3⟩
  by_cases q : d = k
  · subst q; rw [rd_eq]; exact upd_at9.symm
  · rw [rd_k (by omega)]; exact (h1 d a b).trans (upd_ne9 q).symm
theorem BkR.hv {M k : Nat} {s : StS9} {v : Int32} {I : Im} (h : BkR M s I) (hk : k < M) : BkR M (s.1, upd s.2.1 k v, s.2.2) (uI I 102 (46 + k) v) := by
  obtain ⟨h1, h2, h3⟩ := h
  refine ⟨fun d a b => (rd_k (by omega)).trans (h1 d a b), fun i hi => ?_, (rd_k (by omega)).trans h3⟩
  by_cases q : i = k
  · subst q; rw [rd_eq]; exact upd_at9.symm
  · rw [rd_k (by omega)]; exact (h2 i hi).trans (upd_ne9 q).symm
theorem BkR.ct {M : Nat} {s : StS9} {v : Int32} {I : Im} (h : BkR M s I) : BkR M (s.1, s.2.1, v) (uI I 102 2 v) := by
  obtain ⟨h1, h2, h3⟩ := h
  exact ⟨fun d a b => (rd_k (by omega)).trans (h1 d a b), fun i hi => (rd_k (by omega)).trans (h2 i hi), rd_eq⟩
theorem ov_c (x u w : Int32) : x + 1 + w - u = x - u + 1 + w := by
  rw [Int32.sub_eq_add_neg, Int32.sub_eq_add_neg, Int32.add_assoc x 1 w, Int32.add_assoc x (1 + w) (-u), Int32.add_comm (1 + w) (-u), ← Int32.add_assoc x (-u) (1 + w), ← Int32.add_assoc (x + -u) 1 w]
theorem ov_c2 (x u w : Int32) : x + 1 + w - u = x - u + w + 1 := by
  rw [ov_c, Int32.add_assoc (x - u) 1 w, Int32.add_comm 1 w, ← Int32.add_assoc (x - u) w 1]
theorem pt_mul : ∀ n, n < 31 → 1 ≤ n → pt n * (n : Int) = 2329089562800 := by decide +kernel
theorem pt_ab' (d : Nat) (hd : d < 31) (a : Nat) (ha : a < 31) (b : Nat) (hb : b < 31) (d1 : 1 ≤ d) (a1 : 1 ≤ a) (b1 : 1 ≤ b) : pt a + pt b = pt d ↔ a * b = d * (a + b) := by
  have ea := pt_mul a ha a1
  have eb := pt_mul b hb b1
  have ed := pt_mul d hd d1
  have h1 : pt a * ((a : Int) * b * d) = 2329089562800 * ((d : Int) * b) := by
    rw [← ea, Int.mul_assoc (pt a) (a : Int) ((d : Int) * b), Int.mul_assoc (a : Int) b d, Int.mul_comm (b : Int) d]
  have h2 : pt b * ((a : Int) * b * d) = 2329089562800 * ((d : Int) * a) := by
    rw [← eb, Int.mul_assoc (pt b) (b : Int) ((d : Int) * a), Int.mul_comm (a : Int) b, Int.mul_assoc (b : Int) a d, Int.mul_comm (a : Int) d]
  have k1 : (pt a + pt b) * ((a : Int) * b * d) = 2329089562800 * ((d : Int) * (a + b)) := by
    rw [Int.add_mul, h1, h2, ← Int.mul_add, ← Int.mul_add, Int.add_comm (b : Int) a]
  have k2 : pt d * ((a : Int) * b * d) = 2329089562800 * ((a : Int) * b) := by
    rw [← ed, Int.mul_assoc (pt d) (d : Int) ((a : Int) * b), Int.mul_comm ((a : Int) * b) d]
  have h0 : ((a : Int) * b * d) ≠ 0 := Int.ne_of_gt (Int.mul_pos (Int.mul_pos (by omega) (by omega)) (by omega))
  constructor
  · intro h
    rw [h, k2] at k1
    have k3 : (a : Int) * b = d * (a + b) := Int.eq_of_mul_eq_mul_left (by decide) k1
    exact_mod_cast k3
  · intro h
    have h' : (a : Int) * b = d * (a + b) := by exact_mod_cast h
    exact Int.eq_of_mul_eq_mul_right h0 (by rw [k1, k2, h'])
section STR
variable {M : Nat} {I : Im} {J : Jm} {R : Rm} {Q : Qt}
theorem px_parts9 {e : Nat} {d : Int32} (h : sq9 d) (hQ : ∀ y : Int64, y.toInt = pt (nn9 d) → Q 0 y I J R) : AM (e + 1) 240 112 [.int d] I J R Q := by
  obtain ⟨-, n1, n2⟩ := sq_nn h
  have k := px_parts (d := e) (I := I) (J := J) (R := R) (Q := Q) n1 n2 hQ
  rw [sq_nI h] at k
  exact k
theorem ab_i {d a b : Int32} (hd : sq9 d) (ha : sq9 a) (hb : sq9 b) : (pt (nn9 a) + pt (nn9 b) = pt (nn9 d)) ↔ a * b = d * (a + b) := by
  obtain ⟨-, d1, d2⟩ := sq_nn hd
  obtain ⟨-, a1, a2⟩ := sq_nn ha
  obtain ⟨-, b1, b2⟩ := sq_nn hb
  rw [pt_ab' (nn9 d) (by omega) (nn9 a) (by omega) (nn9 b) (by omega) d1 a1 b1]
  have m1 : nn9 a * nn9 b ≤ 30 * 30 := Nat.mul_le_mul a2 b2
  have m2 : nn9 d * (nn9 a + nn9 b) ≤ 30 * 60 := Nat.mul_le_mul d2 (by omega)
  have k1 : a * b = nI (nn9 a * nn9 b) := by
    rw [← nI_mul (by omega) (by omega) (by omega), sq_nI ha, sq_nI hb]
  have k2 : d * (a + b) = nI (nn9 d * (nn9 a + nn9 b)) := by
    rw [← nI_mul (by omega) (by omega) (by omega), ← nI_add, sq_nI ha, sq_nI hb, sq_nI hd]
  rw [k1, k2, nI_eq (by omega) (by omega)]
theorem leaf9 {X Y u v : Int32} (hx : X = u) (hy : Y = v) (hQ : Q (if 99 < u ∨ 99 < v then 1 else 0) 0 I J R) : ((99 : Int32) < X → (((1 : Int32) = 0 ∨ (1 : Int32) = 1) ∧ Q 1 0 I J R)) ∧ (¬ (99 : Int32) < X → ((Y ≤ 99 → (((0 : Int32) = 0 ∨ (0 : Int32) = 1) ∧ Q 0 0 I J R)) ∧ (¬ Y ≤ 99 → (((1 : Int32) = 0 ∨ (1 : Int32) = 1) ∧ Q 1 0 I J R)))) := by
  subst hx
  subst hy
  refine ⟨fun c => ⟨Or.inr rfl, ?_⟩, fun c => ⟨fun c2 => ⟨Or.inl rfl, ?_⟩, fun c2 => ⟨Or.inr rfl, ?_⟩⟩⟩
  · rw [if_pos (Or.inl c)] at hQ; exact hQ
  · rw [if_neg (fun z => z.elim c (ile.mpr c2))] at hQ; exact hQ
  · rw [if_pos (Or.inr (Decidable.not_not.mp (fun z => c2 (ile.mp z))))] at hQ; exact hQ
theorem px_isOver {e : Nat} {d a b : Int32} {s : StS9} (ha : sq9 a) (hb : sq9 b) (h : BkR M s I) (hQ : Q (if 99 < ov9 s.1 a d a b ∨ 99 < ov9 s.1 b d a b then 1 else 0) 0 I J R) : AM (e + 1) 256 112 [.ref 97, .int d, .int a, .int b] I J R Q := by
  obtain ⟨-, a1, a2⟩ := sq_nn ha
  obtain ⟨-, b1, b2⟩ := sq_nn hb
  obtain ⟨ia, va⟩ := ix_st ha
  obtain ⟨ib, vb⟩ := ix_st hb
  have sa := h.1 _ a1 a2
  have sb := h.1 _ b1 b2
  have ea : ov9 s.1 a d a b = s.1 (nn9 a) - (if a = d then 1 else 0) + 1 + (if a = b then 1 else 0) := by
    unfold ov9
    rw [if_pos (rfl : a = a)]
  have eb : ov9 s.1 b d a b = s.1 (nn9 b) - (if b = d then 1 else 0) + (if b = a then 1 else 0) + 1 := by
    unfold ov9
    rw [if_pos (rfl : b = b)]
  refine w_X12_isOver ⟨va, ?_⟩
  rw [ia, sa]
  exact ⟨fun c1 => ⟨fun c2 => ⟨vb, by rw [ib, sb]; exact ⟨fun c3 => ⟨fun c4 => leaf9 ((ov_c _ _ _).trans (by rw [ea, if_neg c2, if_neg c1])) ((ov_c2 _ _ _).trans (by rw [eb, if_neg c4, if_neg (fun z => c3 z.symm)])) hQ, fun c4 => leaf9 ((ov_c _ _ _).trans (by rw [ea, if_neg c2, if_neg c1])) ((ov_c2 _ _ _).trans (by rw [eb, if_pos c4, if_neg (fun z => c3 z.symm)])) hQ⟩, fun c3 => ⟨fun c4 => leaf9 ((ov_c _ _ _).trans (by rw [ea, if_neg c2, if_neg c1])) ((ov_c2 _ _ _).trans (by rw [eb, if_neg c4, if_pos c3.symm])) hQ, fun c4 => leaf9 ((ov_c _ _ _).trans (by rw [ea, if_neg c2, if_neg c1])) ((ov_c2 _ _ _).trans (by rw [eb, if_pos c4, if_pos c3.symm])) hQ⟩⟩⟩, fun c2 => ⟨vb, by rw [ib, sb]; exact ⟨fun c3 => ⟨fun c4 => leaf9 ((ov_c _ _ _).trans (by rw [ea, if_pos c2, if_neg c1])) ((ov_c2 _ _ _).trans (by rw [eb, if_neg c4, if_neg (fun z => c3 z.symm)])) hQ, fun c4 => leaf9 ((ov_c _ _ _).trans (by rw [ea, if_pos c2, if_neg c1])) ((ov_c2 _ _ _).trans (by rw [eb, if_pos c4, if_neg (fun z => c3 z.symm)])) hQ⟩, fun c3 => ⟨fun c4 => leaf9 ((ov_c _ _ _).trans (by rw [ea, if_pos c2, if_neg c1])) ((ov_c2 _ _ _).trans (by rw [eb, if_neg c4, if_pos c3.symm])) hQ, fun c4 => leaf9 ((ov_c _ _ _).trans (by rw [ea, if_pos c2, if_neg c1])) ((ov_c2 _ _ _).trans (by rw [eb, if_pos c4, if_pos c3.symm])) hQ⟩⟩⟩⟩, fun c1 => ⟨fun c2 => ⟨vb, by rw [ib, sb]; exact ⟨fun c3 => ⟨fun c4 => leaf9 ((ov_c _ _ _).trans (by rw [ea, if_neg c2, if_pos c1])) ((ov_c2 _ _ _).trans (by rw [eb, if_neg c4, if_neg (fun z => c3 z.symm)])) hQ, fun c4 => leaf9 ((ov_c _ _ _).trans (by rw [ea, if_neg c2, if_pos c1])) ((ov_c2 _ _ _).trans (by rw [eb, if_pos c4, if_neg (fun z => c3 z.symm)])) hQ⟩, fun c3 => ⟨fun c4 => leaf9 ((ov_c _ _ _).trans (by rw [ea, if_neg c2, if_pos c1])) ((ov_c2 _ _ _).trans (by rw [eb, if_neg c4, if_pos c3.symm])) hQ, fun c4 => leaf9 ((ov_c _ _ _).trans (by rw [ea, if_neg c2, if_pos c1])) ((ov_c2 _ _ _).trans (by rw [eb, if_pos c4, if_pos c3.symm])) hQ⟩⟩⟩, fun c2 => ⟨vb, by rw [ib, sb]; exact ⟨fun c3 => ⟨fun c4 => leaf9 ((ov_c _ _ _).trans (by rw [ea, if_pos c2, if_pos c1])) ((ov_c2 _ _ _).trans (by rw [eb, if_neg c4, if_neg (fun z => c3 z.symm)])) hQ, fun c4 => leaf9 ((ov_c _ _ _).trans (by rw [ea, if_pos c2, if_pos c1])) ((ov_c2 _ _ _).trans (by rw [eb, if_pos c4, if_neg (fun z => c3 z.symm)])) hQ⟩, fun c3 => ⟨fun c4 => leaf9 ((ov_c _ _ _).trans (by rw [ea, if_pos c2, if_pos c1])) ((ov_c2 _ _ _).trans (by rw [eb, if_neg c4, if_pos c3.symm])) hQ, fun c4 => leaf9 ((ov_c _ _ _).trans (by rw [ea, if_pos c2, if_pos c1])) ((ov_c2 _ _ _).trans (by rw [eb, if_pos c4, if_pos c3.symm])) hQ⟩⟩⟩⟩⟩
theorem px_bakes {e : Nat} {n : Int32} {s : StS9} (hn : (1 : Int32) ≤ n ∧ n ≤ 99) (h : BkR M s I) (hQ : ∀ I2, BkR M (opAdd n s).2 I2 → FrRs I J I2 J → Q (b9 (opAdd n s).1) 0 I2 J R) : AM (e + 1) 261 112 [.ref 97, .int n] I J R Q := by
  have e0 : opAdd n s = if s.1 1 + n ≤ 99 then (0, upd s.1 1 (s.1 1 + n), s.2) else (7, s) := if_pos hn
  have t4 : Int32.toNatClampNeg 4 = 3 + 1 := rfl
  have v4 : vp_in 4 1620 := vp_of (a := 4) rfl (by decide) (by decide)
  have e1 : I 102 (3 + 1) = s.1 1 := h.1 1 (by decide) (by decide)
  rw [e0] at hQ
  refine w_X12_bakes ⟨v4, ?_⟩
  rw [t4, e1]
  refine ⟨fun c => ⟨v4, v4, Or.inr rfl, ?_⟩, fun c => ⟨Or.inl rfl, ?_⟩⟩
  · rw [if_pos c] at hQ
    have k : Q (b9 0) 0 _ J R := hQ _ (h.st (by decide)) (FrW.rf.u ⟨rfl, Or.inl ⟨by decide, by decide⟩⟩)
    rw [b9_0] at k
    exact k
  · rw [if_neg c] at hQ
    have k : Q (b9 7) 0 I J R := hQ I h FrW.rf
    rw [b9_7] at k
    exact k
theorem px_cuts {e : Nat} {d a b : Int32} {s : StS9} (hd : sq9 d) (ha : sq9 a) (hb : sq9 b) (h : BkR M s I) (h0 : (0 : Int32) ≤ s.1 (nn9 d)) (hQ : ∀ I2, BkR M (opCut d a b s).2 I2 → FrRs I J I2 J → Q (b9 (opCut d a b s).1) 0 I2 J R) : AM (e + 2) 257 112 [.ref 97, .int d, .int a, .int b] I J R Q := by
  have e0 : opCut d a b s = if 99 < ov9 s.1 a d a b ∨ 99 < ov9 s.1 b d a b then (7, s) else if ¬ s.1 (nn9 d) < 1 ∧ a * b = d * (a + b) then (0, ct9 s.1 d a b, s.2.1, s.2.2 + 1) else (9, s) := if_pos ⟨hd, ha, hb⟩
  rw [e0] at hQ
  have no : ¬ (¬ (99 < ov9 s.1 a d a b ∨ 99 < ov9 s.1 b d a b) ∧ (¬ s.1 (nn9 d) < 1 ∧ a * b = d * (a + b))) → Q 0 0 I J R := fun hn => by
    by_cases q : 99 < ov9 s.1 a d a b ∨ 99 < ov9 s.1 b d a b
    · rw [if_pos q] at hQ
      have k : Q (b9 7) 0 I J R := hQ I h FrW.rf
      rw [b9_7] at k
      exact k
    · rw [if_neg q, if_neg (fun z => hn ⟨q, z⟩)] at hQ
      have k : Q (b9 9) 0 I J R := hQ I h FrW.rf
      rw [b9_9] at k
      exact k
  obtain ⟨id, vd⟩ := ix_st hd
  obtain ⟨ia, va⟩ := ix_st ha
  obtain ⟨ib, vb⟩ := ix_st hb
  have nd := (sq_nn hd).2
  have na := (sq_nn ha).2
  have nb := (sq_nn hb).2
  have sd := h.1 _ nd.1 nd.2
  have t2 : Int32.toNatClampNeg 2 = 2 := rfl
  have v2 : vp_in 2 1620 := vp_of (a := 2) rfl (by decide) (by decide)
  refine w_X12_cuts ⟨vd, ?_⟩
  rw [id, ia, ib, t2, sd]
  refine ⟨fun c => ⟨Or.inl rfl, no (fun z => z.2.1 (by rw [c]; decide))⟩, fun c => px_parts9 ha (fun y1 h1 => px_parts9 hb (fun y2 h2 => px_parts9 hd (fun y3 h3 => ?_)))⟩
  have c1 : ¬ s.1 (nn9 d) < 1 := fun z => c (Int32.toInt_inj.mp (by
    rw [Int32.lt_iff_toInt_lt, show (1 : Int32).toInt = 1 from rfl] at z
    rw [le_i, show (0 : Int32).toInt = 0 from rfl] at h0
    rw [show (0 : Int32).toInt = 0 from rfl]
    omega))
  obtain ⟨p1, p2, -⟩ := pt_b na.1 na.2
  obtain ⟨q1, q2, -⟩ := pt_b nb.1 nb.2
  have h12 : (y1 + y2).toInt = pt (nn9 a) + pt (nn9 b) := tl_add h1 h2 (by omega)
  refine ⟨fun c2 => ⟨Or.inl rfl, ?_⟩, fun c2 => px_isOver ha hb h (fun _ => ?_)⟩
  · rw [lg_cmp_eq] at c2
    have c3 := cl_ne h12 h3 c2
    exact no (fun z => c3 ((ab_i hd ha hb).mpr z.2.2))
  · rw [lg_cmp_eq] at c2
    have c3 := (ab_i hd ha hb).mp (cl_eq h12 h3 c2)
    by_cases q : 99 < ov9 s.1 a d a b ∨ 99 < ov9 s.1 b d a b
    · rw [if_pos q]
      exact ⟨fun z => absurd z (by decide), fun _ => ⟨Or.inl rfl, no (fun z => z.1 q)⟩⟩
    · rw [if_neg q]
      rw [if_neg q, if_pos ⟨c1, c3⟩] at hQ
      refine ⟨fun _ => ⟨vd, vd, va, va, vb, vb, v2, v2, Or.inr rfl, ?_⟩, fun z => absurd rfl z⟩
      have g1 := h.st (k := nn9 d) (v := s.1 (nn9 d) - 1) nd
      have f1 := g1.1 _ na.1 na.2
      rw [sd, f1]
      have g2 := g1.st (k := nn9 a) (v := upd s.1 (nn9 d) (s.1 (nn9 d) - 1) (nn9 a) + 1) na
      have f2 := g2.1 _ nb.1 nb.2
      rw [f2]
      have g3 := g2.st (k := nn9 b) (v := upd (upd s.1 (nn9 d) (s.1 (nn9 d) - 1)) (nn9 a) (upd s.1 (nn9 d) (s.1 (nn9 d) - 1) (nn9 a) + 1) (nn9 b) + 1) nb
      have f3 := g3.2.2
      rw [f3]
      have k : Q (b9 0) 0 _ J R := hQ _ (g3.ct (v := s.2.2 + 1)) ((((FrW.rf.u ⟨rfl, Or.inl ⟨by omega, by omega⟩⟩).u ⟨rfl, Or.inl ⟨by omega, by omega⟩⟩).u ⟨rfl, Or.inl ⟨by omega, by omega⟩⟩).u ⟨rfl, Or.inr (Or.inr rfl)⟩)
      rw [b9_0] at k
      exact k
theorem px_gives {e : Nat} {k d m : Int32} {s : StS9} (hk : (0 : Int32) ≤ k ∧ k < m) (hm : m.toInt = (M : Int) ∧ M ≤ 6) (hd : sq9 d) (h : BkR M s I) (h0 : (0 : Int32) ≤ s.1 (nn9 d)) (hh : 0 ≤ (s.2.1 (nn9 k)).toInt) (hQ : ∀ I2, BkR M (opGive m k d s).2 I2 → FrRs I J I2 J → Q (b9 (opGive m k d s).1) 0 I2 J R) : AM (e + 2) 263 112 [.ref 97, .int k, .int d] I J R Q := by
  have e0 : opGive m k d s = if ¬ s.1 (nn9 d) < 1 ∧ inS (s.2.1 (nn9 k)) d = false then (0, upd s.1 (nn9 d) (s.1 (nn9 d) - 1), upd s.2.1 (nn9 k) (s.2.1 (nn9 k) ||| biS d), s.2.2) else (9, s) := if_pos ⟨hk, hd⟩
  rw [e0] at hQ
  have no : ¬ (¬ s.1 (nn9 d) < 1 ∧ inS (s.2.1 (nn9 k)) d = false) → Q 0 0 I J R := fun hn => by
    rw [if_neg hn] at hQ
    have z : Q (b9 9) 0 I J R := hQ I h FrW.rf
    rw [b9_9] at z
    exact z
  obtain ⟨id, vd⟩ := ix_st hd
  obtain ⟨ik, vk, nk⟩ := ix_hv hk hm
  have nd := (sq_nn hd).2
  have sd := h.1 _ nd.1 nd.2
  have sk := h.2.1 _ nk
  refine w_X12_gives ⟨vd, ?_⟩
  rw [id, ik, sd, sk]
  refine ⟨fun c => ⟨Or.inl rfl, no (fun z => z.1 (by rw [c]; decide))⟩, fun c => ⟨vk, px_isOf hh hd.1 hd.2 (fun hi _ => ⟨fun z => absurd z (by decide), fun _ => ⟨Or.inl rfl, no (fun z => by rw [hi] at z; exact absurd z.2 (by decide))⟩⟩) (fun hi _ => ⟨fun _ => ⟨vd, vd, vk, vk, Or.inr rfl, ?_⟩, fun z => absurd rfl z⟩)⟩⟩
  have c1 : ¬ s.1 (nn9 d) < 1 := fun z => c (Int32.toInt_inj.mp (by
    rw [Int32.lt_iff_toInt_lt, show (1 : Int32).toInt = 1 from rfl] at z
    rw [le_i, show (0 : Int32).toInt = 0 from rfl] at h0
    rw [show (0 : Int32).toInt = 0 from rfl]
    omega))
  rw [if_pos ⟨c1, hi⟩] at hQ
  have g1 := h.st (k := nn9 d) (v := s.1 (nn9 d) - 1) nd
  have f1 := g1.2.1 _ nk
  rw [sd, f1]
  have z : Q (b9 0) 0 _ J R := hQ _ (g1.hv (k := nn9 k) (v := s.2.1 (nn9 k) ||| biS d) nk) ((FrW.rf.u ⟨rfl, Or.inl ⟨by omega, by omega⟩⟩).u ⟨rfl, Or.inr (Or.inl ⟨by omega, by omega⟩)⟩)
  rw [b9_0] at z
  exact z
end STR
end PT13x3
section PT13x4
/-! ===== the store's operations: the reference's, split and taken back ===== -/
theorem tw9 : ∀ n, n < 31 → 1 ≤ n → (biS (nI n)).toBitVec = BitVec.twoPow 32 (n - 1) := by decide +kernel
theorem bi_tw {d : Int32} (hd : sq9 d) : (biS d).toBitVec = BitVec.twoPow 32 (nn9 d - 1) := by
  obtain ⟨-, n1, n2⟩ := sq_nn hd
  have h := tw9 (nn9 d) (by omega) n1
  rw [sq_nI hd] at h
  exact h
theorem and_pow {h d : Int32} (hd : sq9 d) (hi : inS h d = true) : h &&& biS d = biS d := by
  have hb := bi_tw hd
  apply Int32.toBitVec_inj.mp
  rw [Int32.toBitVec_and, hb, BitVec.and_twoPow]
  split
  · rfl
  · rename_i hn
    exfalso
    have z : h &&& biS d = 0 := Int32.toBitVec_inj.mp (by rw [Int32.toBitVec_and, hb, BitVec.and_twoPow, if_neg hn]; rfl)
    unfold inS at hi
    rw [show h &&& ((1 : Int32) <<< ((d - 1) &&& 31)) = 0 from z] at hi
    exact absurd hi (by decide)
theorem xa9 {h b : Int32} (hb : h &&& b = b) : h ^^^ b = h &&& (b ^^^ (-1)) := by
  have e : h.toBitVec &&& b.toBitVec = b.toBitVec := by
    rw [← Int32.toBitVec_and, hb]
  have e1 : (-1 : Int32).toBitVec = BitVec.allOnes 32 := rfl
  apply Int32.toBitVec_inj.mp
  rw [Int32.toBitVec_xor, Int32.toBitVec_and, Int32.toBitVec_xor, e1]
  apply BitVec.eq_of_getLsbD_eq
  intro i hi
  have ei := congrArg (fun z => z.getLsbD i) e
  simp only [BitVec.getLsbD_and] at ei
  simp only [BitVec.getLsbD_xor, BitVec.getLsbD_and, BitVec.getLsbD_allOnes, hi, decide_true]
  cases q1 : h.toBitVec.getLsbD i <;> cases q2 : b.toBitVec.getLsbD i <;> simp_all
section STQ
variable {M : Nat} {I : Im} {J : Jm} {R : Rm} {Q : Qt}
theorem px_areMore {e : Nat} {p n : Int32} {s : StS9} (hp : sq9 p) (h : BkR M s I) (hQ : Q (if s.1 (nn9 p) + n ≤ 99 then 0 else 1) 0 I J R) : AM (e + 1) 255 112 [.ref 97, .int p, .int n] I J R Q := by
  obtain ⟨ip, vp⟩ := ix_st hp
  have np := (sq_nn hp).2
  have sp := h.1 _ np.1 np.2
  refine w_X12_areMore ⟨fun c => absurd c (ile.mpr hp.2), fun _ => ⟨vp, ?_⟩⟩
  rw [ip, sp]
  refine ⟨fun c => ⟨Or.inl rfl, ?_⟩, fun c => ⟨Or.inr rfl, ?_⟩⟩
  · rw [if_pos c] at hQ; exact hQ
  · rw [if_neg c] at hQ; exact hQ
theorem px_areMoreN {e : Nat} {p n : Int32} (hp : (30 : Int32) < p) (hQ : Q 0 0 I J R) : AM (e + 1) 255 112 [.ref 97, .int p, .int n] I J R Q :=
  w_X12_areMore ⟨fun _ => ⟨Or.inl rfl, hQ⟩, fun c => absurd hp c⟩
theorem dn_case {d n : Int32} (hd : sq9 d) (hn : (2 : Int32) ≤ n ∧ n ≤ 30) : sq9 (d * n) ∨ ((30 : Int32) < d * n ∧ ¬ sq9 (d * n)) := by
  obtain ⟨-, d1, d2⟩ := sq_nn hd
  have hn1 : sq9 n := ⟨by have := hn.1; rw [le_i] at this ⊢; have e2 : (2 : Int32).toInt = 2 := rfl; have e1 : (1 : Int32).toInt = 1 := rfl; omega, hn.2⟩
  obtain ⟨-, n1, n2⟩ := sq_nn hn1
  have m1 : nn9 d * nn9 n ≤ 30 * 30 := Nat.mul_le_mul d2 n2
  have m0 : 1 * 1 ≤ nn9 d * nn9 n := Nat.mul_le_mul d1 n1
  have k : d * n = nI (nn9 d * nn9 n) := by rw [← nI_mul (by omega) (by omega) (by omega), sq_nI hd, sq_nI hn1]
  have kt : (d * n).toInt = ((nn9 d * nn9 n : Nat) : Int) := by rw [k]; exact nI_toInt (by omega)
  have e1 : (1 : Int32).toInt = 1 := rfl
  have e30 : (30 : Int32).toInt = 30 := rfl
  by_cases q : nn9 d * nn9 n ≤ 30
  · refine Or.inl ⟨?_, ?_⟩
    · rw [le_i, kt, e1]; omega
    · rw [le_i, kt, e30]; omega
  · refine Or.inr ⟨by rw [Int32.lt_iff_toInt_lt, kt, e30]; omega, fun z => ?_⟩
    have := z.2
    rw [le_i, kt, e30] at this
    omega
theorem px_splits {e : Nat} {d n : Int32} {s : StS9} (hd : sq9 d) (hn : (2 : Int32) ≤ n ∧ n ≤ 30) (h : BkR M s I) (h0 : (0 : Int32) ≤ s.1 (nn9 d)) (hQ : ∀ I2, BkR M (opSplit d n s).2 I2 → FrRs I J I2 J → Q (b9 (opSplit d n s).1) 0 I2 J R) : AM (e + 2) 259 112 [.ref 97, .int d, .int n] I J R Q := by
  have e0 : opSplit d n s = if sq9 (d * n) ∧ ¬ s.1 (nn9 (d * n)) + n ≤ 99 then (7, s) else if ¬ s.1 (nn9 d) < 1 ∧ sq9 (d * n) then (0, sp9 s.1 d n, s.2.1, s.2.2 + 1) else (9, s) := (if_pos hd).trans (if_pos hn)
  rw [e0] at hQ
  have no : ¬ (¬ (sq9 (d * n) ∧ ¬ s.1 (nn9 (d * n)) + n ≤ 99) ∧ (¬ s.1 (nn9 d) < 1 ∧ sq9 (d * n))) → Q 0 0 I J R := fun hn => by
    by_cases q : sq9 (d * n) ∧ ¬ s.1 (nn9 (d * n)) + n ≤ 99
    · rw [if_pos q] at hQ
      have k : Q (b9 7) 0 I J R := hQ I h FrW.rf
      rw [b9_7] at k
      exact k
    · rw [if_neg q, if_neg (fun z => hn ⟨q, z⟩)] at hQ
      have k : Q (b9 9) 0 I J R := hQ I h FrW.rf
      rw [b9_9] at k
      exact k
  obtain ⟨id, vd⟩ := ix_st hd
  have nd := (sq_nn hd).2
  have sd := h.1 _ nd.1 nd.2
  have t2 : Int32.toNatClampNeg 2 = 2 := rfl
  have v2 : vp_in 2 1620 := vp_of (a := 2) rfl (by decide) (by decide)
  refine w_X12_splits ⟨vd, ?_⟩
  rw [id, t2, sd]
  refine ⟨fun c => ⟨Or.inl rfl, no (fun z => z.2.1 (by rw [c]; decide))⟩, fun c => ⟨fun c2 => ⟨Or.inl rfl, no (fun z => absurd c2 (ile.mpr z.2.2.2))⟩, fun c2 => ?_⟩⟩
  have c1 : ¬ s.1 (nn9 d) < 1 := fun z => c (Int32.toInt_inj.mp (by
    rw [Int32.lt_iff_toInt_lt, show (1 : Int32).toInt = 1 from rfl] at z
    rw [le_i, show (0 : Int32).toInt = 0 from rfl] at h0
    rw [show (0 : Int32).toInt = 0 from rfl]
    omega))
  have hp : sq9 (d * n) := (dn_case hd hn).resolve_right (fun z => c2 z.1)
  obtain ⟨ip, vp⟩ := ix_st hp
  have np := (sq_nn hp).2
  refine px_areMore hp h (fun _ => ?_)
  by_cases q : s.1 (nn9 (d * n)) + n ≤ 99
  · rw [if_pos q]
    rw [if_neg (fun z => z.2 q), if_pos ⟨c1, hp⟩] at hQ
    refine ⟨fun _ => ⟨vd, vd, vp, vp, v2, v2, Or.inr rfl, ?_⟩, fun z => absurd rfl z⟩
    have g1 := h.st (k := nn9 d) (v := s.1 (nn9 d) - 1) nd
    have f1 := g1.1 _ np.1 np.2
    rw [ip, sd, f1]
    have g2 := g1.st (k := nn9 (d * n)) (v := upd s.1 (nn9 d) (s.1 (nn9 d) - 1) (nn9 (d * n)) + n) np
    have f3 := g2.2.2
    rw [f3]
    have k : Q (b9 0) 0 _ J R := hQ _ (g2.ct (v := s.2.2 + 1)) (((FrW.rf.u ⟨rfl, Or.inl ⟨by omega, by omega⟩⟩).u ⟨rfl, Or.inl ⟨by omega, by omega⟩⟩).u ⟨rfl, Or.inr (Or.inr rfl)⟩)
    rw [b9_0] at k
    exact k
  · rw [if_neg q]
    exact ⟨fun z => absurd z (by decide), fun _ => ⟨Or.inl rfl, no (fun z => z.1 ⟨hp, q⟩)⟩⟩
theorem px_takes {e : Nat} {k d m : Int32} {s : StS9} (hk : (0 : Int32) ≤ k ∧ k < m) (hm : m.toInt = (M : Int) ∧ M ≤ 6) (hd : sq9 d) (h : BkR M s I) (h9 : s.1 (nn9 d) ≤ 99) (hh : 0 ≤ (s.2.1 (nn9 k)).toInt) (hQ : ∀ I2, BkR M (opTake m k d s).2 I2 → FrRs I J I2 J → Q (b9 (opTake m k d s).1) 0 I2 J R) : AM (e + 2) 265 112 [.ref 97, .int k, .int d] I J R Q := by
  have e0 : opTake m k d s = if s.1 (nn9 d) < 99 then (if inS (s.2.1 (nn9 k)) d = true then (0, upd s.1 (nn9 d) (s.1 (nn9 d) + 1), upd s.2.1 (nn9 k) (s.2.1 (nn9 k) &&& (biS d ^^^ (-1))), s.2.2) else (9, s)) else (7, s) := if_pos ⟨hk, hd⟩
  rw [e0] at hQ
  obtain ⟨id, vd⟩ := ix_st hd
  obtain ⟨ik, vk, nk⟩ := ix_hv hk hm
  have nd := (sq_nn hd).2
  have sd := h.1 _ nd.1 nd.2
  have sk := h.2.1 _ nk
  refine w_X12_takes ⟨vd, ?_⟩
  rw [id, ik, sd, sk]
  refine ⟨fun c => ⟨Or.inl rfl, ?_⟩, fun c => ?_⟩
  · rw [if_neg (by rw [c]; decide)] at hQ
    have z : Q (b9 7) 0 I J R := hQ I h FrW.rf
    rw [b9_7] at z
    exact z
  · have c1 : s.1 (nn9 d) < 99 := by
      have hne : ¬ (s.1 (nn9 d)).toInt = 99 := fun z => c (Int32.toInt_inj.mp z)
      rw [le_i, show (99 : Int32).toInt = 99 from rfl] at h9
      rw [Int32.lt_iff_toInt_lt, show (99 : Int32).toInt = 99 from rfl]
      omega
    rw [if_pos c1] at hQ
    refine ⟨vk, px_isOf hh hd.1 hd.2 (fun hi _ => ⟨fun _ => ⟨vd, vd, vk, vk, Or.inr rfl, ?_⟩, fun z => absurd z (by decide)⟩) (fun hi _ => ⟨fun z => absurd rfl z, fun _ => ⟨Or.inl rfl, ?_⟩⟩)⟩
    · rw [if_pos hi, ← xa9 (and_pow hd hi)] at hQ
      have g1 := h.st (k := nn9 d) (v := s.1 (nn9 d) + 1) nd
      have f1 := g1.2.1 _ nk
      rw [sd, f1]
      have z : Q (b9 0) 0 _ J R := hQ _ (g1.hv (k := nn9 k) (v := s.2.1 (nn9 k) ^^^ biS d) nk) ((FrW.rf.u ⟨rfl, Or.inl ⟨by omega, by omega⟩⟩).u ⟨rfl, Or.inr (Or.inl ⟨by omega, by omega⟩)⟩)
      rw [b9_0] at z
      exact z
    · rw [if_neg (by rw [hi]; decide)] at hQ
      have z : Q (b9 9) 0 I J R := hQ I h FrW.rf
      rw [b9_9] at z
      exact z
end STQ
end PT13x4
section PT13x5
/-! ===== what the store holds, what a man has: both sides ===== -/
/-- how many, the set; what a man has, in crumbs: over the last f slices -/
noncomputable def pcR (S : Nat → Int32) : Nat → Int32 → Int32
  | 0, x => x
  | f + 1, x => pcR S f (x + S (30 - f))
noncomputable def stR (S : Nat → Int32) : Nat → Int32 → Int32
  | 0, x => x
  | f + 1, x => stR S f (if S (30 - f) ≤ 0 then x else x ||| biS (nI (30 - f)))
noncomputable def hvR (h : Int32) : Nat → Int → Int
  | 0, x => x
  | f + 1, x => hvR h f (if inS h (nI (30 - f)) = true then x + pt (30 - f) else x)
section STP
variable {M : Nat} {I : Im} {J : Jm} {R : Rm} {Q : Qt}
theorem nx30 {f : Nat} (h : f + 1 ≤ 30) : nI (30 - f) + 1 = nI (31 - f) := by rw [nI_k1]; exact congrArg nI (by omega)
theorem px_pieces {e o : Nat} {s : StS9} (hO : isO 112 o 0 = true) (h : BkA o M s I) (hQ : Q (pcR s.1 30 0) 0 I J R) : AM (e + 1) 6 112 [.ref o] I J R Q := by
  obtain ⟨a0, l0, -⟩ := fa_0_0 hO
  refine am_X0_pieces (fun P hc => sg_X0_pieces_0 hc _ _ _ _ ?_)
  have L : ∀ (f : Nat) (x : Int32), f ≤ 30 → Q (pcR s.1 f x) 0 I J R → P 4 112 [(0, .ref o), (1, .int x), (2, .int (nI (31 - f)))] [] I J R := by
    intro f
    induction f with
    | zero => intro x _ hQ; exact sg_X0_pieces_4 hc _ _ _ _ _ _ ⟨fun _ => hQ, fun c => absurd ((nlt_nI (a := 30) (b := 31 - 0) (by omega) (by omega)).mpr (by omega)) c⟩
    | succ f ih =>
      intro x hf hQ
      have ed : 31 - (f + 1) = 30 - f := by omega
      rw [ed]
      refine sg_X0_pieces_4 hc _ _ _ _ _ _ ⟨fun c => absurd ((nlt_nI (a := 30) (by omega) (by omega)).mp c) (by omega), fun _ => bif_t hO (bif_t a0 ⟨by rw [l0]; exact vp_nI (by omega) (by omega), ?_⟩)⟩
      rw [tn_nI (by omega), h.1 (30 - f) (by omega) (by omega), nx30 hf]
      exact ih _ (by omega) hQ
  exact L 30 0 (by decide) hQ
theorem ix_b {f : Nat} (h : f + 1 ≤ 30) : Int32.toNatClampNeg (4 + nI (29 - f)) = 3 + (30 - f) ∧ vp_in (4 + nI (29 - f)) 1620 := by
  have e1 : (4 + nI (29 - f) : Int32).toInt = 4 + ((29 - f : Nat) : Int) := ti_add (show (4 : Int32).toInt = 4 from rfl) (nI_toInt (by omega)) (by omega)
  have e3 : Int32.toNatClampNeg (4 + nI (29 - f)) = (4 + nI (29 - f) : Int32).toInt.toNat := rfl
  exact ⟨by rw [e3, e1]; omega, vp_of (a := 4 + ((29 - f : Nat) : Int)) e1 (by omega) (by omega)⟩
theorem nx29 {f : Nat} (h : f + 1 ≤ 30) : nI (29 - f) + 1 = nI (30 - f) := by rw [nI_k1]; exact congrArg nI (by omega)
theorem px_held {e : Nat} {s : StS9} (h : BkR M s I) (hQ : Q (pcR s.1 30 0) 0 I J R) : AM (e + 1) 245 112 [.ref 97] I J R Q := by
  refine am_X12_held (fun P hc => sg_X12_held_0 hc _ _ _ ?_)
  have L : ∀ (f : Nat) (x : Int32), f ≤ 30 → Q (pcR s.1 f x) 0 I J R → P 4 112 [(0, .ref 97), (1, .int x), (2, .int (nI (30 - f)))] [] I J R := by
    intro f
    induction f with
    | zero => intro x _ hQ; exact sg_X12_held_4 hc _ _ _ _ _ ⟨fun _ => hQ, fun c => absurd ((nle_nI (a := 30) (b := 30 - 0) (by omega) (by omega)).mpr (by omega)) c⟩
    | succ f ih =>
      intro x hf hQ
      obtain ⟨ib, vb⟩ := ix_b hf
      have ed : 30 - (f + 1) = 29 - f := by omega
      rw [ed]
      refine sg_X12_held_4 hc _ _ _ _ _ ⟨fun c => absurd ((nle_nI (a := 30) (by omega) (by omega)).mp c) (by omega), fun _ => ⟨vb, ?_⟩⟩
      rw [ib, h.1 (30 - f) (by omega) (by omega), nx29 hf]
      exact ih _ (by omega) hQ
  exact L 30 0 (by decide) hQ
theorem px_stockSet {e o : Nat} {s : StS9} (hO : isO 112 o 0 = true) (h : BkA o M s I) (hQ : Q (stR s.1 30 0) 0 I J R) : AM (e + 2) 7 112 [.ref o] I J R Q := by
  obtain ⟨a0, l0, -⟩ := fa_0_0 hO
  refine am_X0_stockSet (fun P hc => sg_X0_stockSet_0 hc _ _ _ _ ?_)
  have L : ∀ (f : Nat) (x : Int32), f ≤ 30 → Q (stR s.1 f x) 0 I J R → P 4 112 [(0, .ref o), (1, .int x), (2, .int (nI (31 - f)))] [] I J R := by
    intro f
    induction f with
    | zero => intro x _ hQ; exact sg_X0_stockSet_4 hc _ _ _ _ _ _ ⟨fun _ => hQ, fun c => absurd ((nlt_nI (a := 30) (b := 31 - 0) (by omega) (by omega)).mpr (by omega)) c⟩
    | succ f ih =>
      intro x hf hQ
      have ed : 31 - (f + 1) = 30 - f := by omega
      have hQ2 : Q (stR s.1 f (if s.1 (30 - f) ≤ 0 then x else x ||| biS (nI (30 - f)))) 0 I J R := hQ
      rw [ed]
      refine sg_X0_stockSet_4 hc _ _ _ _ _ _ ⟨fun c => absurd ((nlt_nI (a := 30) (by omega) (by omega)).mp c) (by omega), fun _ => bif_t hO (bif_t a0 ⟨by rw [l0]; exact vp_nI (by omega) (by omega), ?_⟩)⟩
      rw [tn_nI (by omega), h.1 (30 - f) (by omega) (by omega), nx30 hf]
      refine ⟨fun c => ?_, fun c => w_X11_bit ?_⟩
      · rw [if_pos c] at hQ2
        exact ih _ (by omega) hQ2
      · rw [if_neg c] at hQ2
        exact ih _ (by omega) hQ2
  exact L 30 0 (by decide) hQ
theorem px_heldSet {e : Nat} {s : StS9} (h : BkR M s I) (hQ : Q (stR s.1 30 0) 0 I J R) : AM (e + 1) 246 112 [.ref 97] I J R Q := by
  refine am_X12_heldSet (fun P hc => sg_X12_heldSet_0 hc _ _ _ ?_)
  have L : ∀ (f : Nat) (x : Int32), f ≤ 30 → Q (stR s.1 f x) 0 I J R → P 4 112 [(0, .ref 97), (1, .int x), (2, .int (nI (30 - f)))] [] I J R := by
    intro f
    induction f with
    | zero => intro x _ hQ; exact sg_X12_heldSet_4 hc _ _ _ _ _ ⟨fun _ => hQ, fun c => absurd ((nle_nI (a := 30) (b := 30 - 0) (by omega) (by omega)).mpr (by omega)) c⟩
    | succ f ih =>
      intro x hf hQ
      obtain ⟨ib, vb⟩ := ix_b hf
      have ed : 30 - (f + 1) = 29 - f := by omega
      have eb : biS (nI (30 - f)) = 1 <<< (nI (29 - f) &&& 31) := by
        unfold biS
        rw [show nI (30 - f) - 1 = nI (29 - f) from (nI_sub (b := 1) (by omega) (by omega)).trans (congrArg nI (by omega))]
      have hQ2 : Q (stR s.1 f (if s.1 (30 - f) ≤ 0 then x else x ||| biS (nI (30 - f)))) 0 I J R := hQ
      rw [ed]
      refine sg_X12_heldSet_4 hc _ _ _ _ _ ⟨fun c => absurd ((nle_nI (a := 30) (by omega) (by omega)).mp c) (by omega), fun _ => ⟨vb, ?_⟩⟩
      rw [ib, h.1 (30 - f) (by omega) (by omega), nx29 hf]
      refine ⟨fun c => ?_, fun c => ?_⟩
      · rw [if_pos c] at hQ2
        rw [Int32.or_zero]
        exact ih _ (by omega) hQ2
      · rw [if_neg c, eb] at hQ2
        exact ih _ (by omega) hQ2
  exact L 30 0 (by decide) hQ
theorem px_holding {e o : Nat} {k : Int32} {s : StS9} (hO : isO 112 o 0 = true) (hk : (0 : Int32) ≤ k ∧ k < I o 4) (hm : (I o 4).toInt = (M : Int) ∧ M ≤ 6) (h : BkA o M s I) (hQ : ∀ y : Int64, y.toInt = hvR (s.2.1 (nn9 k)) 30 0 → Q 0 y I J R) : AM (e + 2) 9 112 [.ref o, .int k] I J R Q := by
  obtain ⟨a5, l5, -⟩ := fa_0_8 hO
  obtain ⟨nk, vk⟩ := mn_nn hk hm
  rw [← l5] at vk
  have ek : I (o + 5) (Int32.toNatClampNeg k) = s.2.1 (nn9 k) := h.2.1 _ nk
  refine am_X0_holding (fun P hc => sg_X0_holding_0 hc _ _ _ _ _ ?_)
  have L : ∀ (f : Nat) (x : Int64) (a : Int), f ≤ 30 → x.toInt = a → 0 ≤ a ∧ a ≤ ((30 - f : Nat) : Int) * 2329089562800 → (∀ y : Int64, y.toInt = hvR (s.2.1 (nn9 k)) f a → Q 0 y I J R) → P 5 112 [(0, .ref o), (1, .int k), (2, .long x), (4, .int (nI (31 - f)))] [] I J R := by
    intro f
    induction f with
    | zero => intro x a _ hx _ hQ; exact sg_X0_holding_5 hc _ _ _ _ _ _ _ ⟨fun _ => hQ x hx, fun c => absurd ((nlt_nI (a := 30) (b := 31 - 0) (by omega) (by omega)).mpr (by omega)) c⟩
    | succ f ih =>
      intro x a hf hx ha hQ
      have ed : 31 - (f + 1) = 30 - f := by omega
      obtain ⟨p1, p2, -⟩ := pt_b (d := 30 - f) (by omega) (by omega)
      have e1 : ((30 - (f + 1) : Nat) : Int) = ((30 - f : Nat) : Int) - 1 := by omega
      rw [e1] at ha
      have hQ2 : ∀ y : Int64, y.toInt = hvR (s.2.1 (nn9 k)) f (if inS (s.2.1 (nn9 k)) (nI (30 - f)) = true then a + pt (30 - f) else a) → Q 0 y I J R := hQ
      rw [ed]
      refine sg_X0_holding_5 hc _ _ _ _ _ _ _ ⟨fun c => absurd ((nlt_nI (a := 30) (by omega) (by omega)).mp c) (by omega), fun _ => bif_t hO (bif_t a5 ⟨vk, ?_⟩)⟩
      rw [ek, nx30 hf]
      refine px_isIn (fun hi _ => ⟨fun z => absurd z (by decide), fun _ => px_cr1 (by omega) (by omega) (fun y hy => ?_)⟩) (fun hi _ => ⟨fun _ => ?_, fun z => absurd rfl z⟩)
      · rw [if_pos hi] at hQ2
        exact ih _ _ (by omega) (tl_add hx hy (by omega)) (by omega) hQ2
      · rw [if_neg (by rw [hi]; decide)] at hQ2
        exact ih _ _ (by omega) hx (by omega) hQ2
  exact L 30 0 0 (by decide) rfl (by decide) hQ
theorem px_sumOf {e : Nat} {h : Int32} (hh : 0 ≤ h.toInt) (hQ : ∀ y : Int64, y.toInt = hvR h 30 0 → Q 0 y I J R) : AM (e + 2) 243 112 [.int h] I J R Q := by
  refine am_X12_sumOf (fun P hc => sg_X12_sumOf_0 hc _ _ _ _ ?_)
  have L : ∀ (f : Nat) (x : Int64) (a : Int), f ≤ 30 → x.toInt = a → 0 ≤ a ∧ a ≤ ((30 - f : Nat) : Int) * 2329089562800 → (∀ y : Int64, y.toInt = hvR h f a → Q 0 y I J R) → P 4 112 [(0, .int h), (1, .long x), (3, .int (nI (31 - f)))] [] I J R := by
    intro f
    induction f with
    | zero => intro x a _ hx _ hQ; exact sg_X12_sumOf_4 hc _ _ _ _ _ _ ⟨fun _ => hQ x hx, fun c => absurd ((nlt_nI (a := 30) (b := 31 - 0) (by omega) (by omega)).mpr (by omega)) c⟩
    | succ f ih =>
      intro x a hf hx ha hQ
      have ed : 31 - (f + 1) = 30 - f := by omega
      obtain ⟨p1, p2, -⟩ := pt_b (d := 30 - f) (by omega) (by omega)
      have e1 : ((30 - (f + 1) : Nat) : Int) = ((30 - f : Nat) : Int) - 1 := by omega
      rw [e1] at ha
      have hQ2 : ∀ y : Int64, y.toInt = hvR h f (if inS h (nI (30 - f)) = true then a + pt (30 - f) else a) → Q 0 y I J R := hQ
      rw [ed]
      refine sg_X12_sumOf_4 hc _ _ _ _ _ _ ⟨fun c => absurd ((nlt_nI (a := 30) (by omega) (by omega)).mp c) (by omega), fun _ => ?_⟩
      rw [nx30 hf]
      refine px_isOf hh ((nle_nI (a := 1) (by omega) (by omega)).mpr (by omega)) ((nle_nI (b := 30) (by omega) (by omega)).mpr (by omega)) (fun hi _ => ⟨fun z => absurd z (by decide), fun _ => px_parts (by omega) (by omega) (fun y hy => ?_)⟩) (fun hi _ => ⟨fun _ => ?_, fun z => absurd rfl z⟩)
      · rw [if_pos hi] at hQ2
        exact ih _ _ (by omega) (tl_add hx hy (by omega)) (by omega) hQ2
      · rw [if_neg (by rw [hi]; decide)] at hQ2
        exact ih _ _ (by omega) (by rw [Int64.add_zero]; exact hx) (by omega) hQ2
  exact L 30 0 0 (by decide) rfl (by decide) hQ
end STP
end PT13x5
section PT13x6
/-! ===== bake(), cut(), split(): both sides ===== -/
noncomputable def anX (st v : Int32) : Int32 := if st = 0 then v else -1
noncomputable abbrev WCk (o : Nat) : Nat → Nat → Prop := fun c k => WBk o c k ∨ (c = 1 ∧ k = 0)
noncomputable abbrev FrCk (o : Nat) (I : Im) (J : Jm) (I2 : Im) (J2 : Jm) : Prop := FrW (WCk o) nV I J I2 J2
noncomputable abbrev WMk : Nat → Nat → Prop := fun c k => WRs c k ∨ (c = 97 ∧ (k = 0 ∨ k = 1))
noncomputable abbrev FrMk (I : Im) (J : Jm) (I2 : Im) (J2 : Jm) : Prop := FrW WMk nV I J I2 J2
theorem BkA.one {o M k : Nat} {v : Int32} {s : StS9} {I : Im} (ho : o = 9 ∨ o = 15) (h : BkA o M s I) : BkA o M s (uI I 1 k v) :=
  ⟨fun d a b => (rd_ne (by first | decide | omega)).trans (h.1 d a b), fun i hi => (rd_ne (by first | decide | omega)).trans (h.2.1 i hi), (rd_ne (by first | decide | omega)).trans h.2.2⟩
theorem BkR.sk {M k : Nat} {v : Int32} {s : StS9} {I : Im} (h : BkR M s I) : BkR M s (uI I 97 k v) :=
  ⟨fun d a b => (rd_ne (by decide)).trans (h.1 d a b), fun i hi => (rd_ne (by decide)).trans (h.2.1 i hi), (rd_ne (by decide)).trans h.2.2⟩
theorem b9_z {x : Int32} (h : b9 x = 0) : ¬ x = 0 := fun q => by
  rw [q] at h
  exact absurd h (by decide)
theorem b9_nz {x : Int32} (h : ¬ b9 x = 0) : x = 0 := by
  by_cases q : x = 0
  · exact q
  · exact absurd (if_neg q) h
section STV
variable {M : Nat} {I : Im} {J : Jm} {R : Rm} {Q : Qt}
theorem FrBk.c {o : Nat} {I2 : Im} {J2 : Jm} (h : FrBk o I J I2 J2) : FrCk o I J I2 J2 := h.up (fun _ _ q => Or.inl q) (fun _ _ q => q)
theorem FrRs.m {I2 : Im} {J2 : Jm} (h : FrRs I J I2 J2) : FrMk I J I2 J2 := h.up (fun _ _ q => Or.inl q) (fun _ _ q => q)
theorem FrMk.b : FrMk I J (uI (uI I 97 1 0) 97 0 0) J := (FrW.rf.u (Or.inr ⟨rfl, Or.inr rfl⟩)).u (Or.inr ⟨rfl, Or.inl rfl⟩)
/-- the class: behind what was done -/
theorem px_ref9 {d : Nat} {st v : Int32} {o : Nat} {s : StS9} {I0 : Im} (ho : o = 9 ∨ o = 15) (h : BkA o M s I) (hF : FrBk o I0 J I J) (c : ¬ st = 0) (hQ : ∀ I2, BkA o M s I2 → FrCk o I0 J I2 J → Q (anX st v) 0 I2 J R) : AM (d + 1) 149 112 [.ref 1, .int st] I J R (fun x _ I2 J2 _ => Q x 0 I2 J2 R) := by
  refine w_X11_refuse ?_
  have k := hQ (uI I 1 0 st) (h.one ho) (FrW.u (FrBk.c hF) (Or.inr ⟨rfl, rfl⟩))
  rw [show anX st v = -1 from if_neg c] at k
  exact k
theorem px_ans9 {d : Nat} {st v : Int32} {o : Nat} {s : StS9} {I0 : Im} (ho : o = 9 ∨ o = 15) (h : BkA o M s I) (hF : FrBk o I0 J I J) (c : st = 0) (hQ : ∀ I2, BkA o M s I2 → FrCk o I0 J I2 J → Q (anX st v) 0 I2 J R) : AM (d + 1) 151 112 [.ref 1, .int v] I J R (fun x _ I2 J2 _ => Q x 0 I2 J2 R) := by
  refine w_X11_answer ?_
  have k := hQ (uI I 1 0 0) (h.one ho) (FrW.u (FrBk.c hF) (Or.inr ⟨rfl, rfl⟩))
  rw [show anX st v = v from if_pos c] at k
  exact k
theorem px_cBake {d : Nat} {n : Int32} {s : StS9} (hR : RI R) (h : BkA (R 1 7) M s I) (hQ : ∀ I2, BkA (R 1 7) M (opAdd n s).2 I2 → FrCk (R 1 7) I J I2 J → Q (anX (opAdd n s).1 ((opAdd n s).2.1 1)) 0 I2 J R) : AM (d + 3) 118 112 [.ref 1, .int n] I J R Q := by
  have hO := hR.now.1
  obtain ⟨a0, l0, -⟩ := fa_0_0 hO
  have t1 : Int32.toNatClampNeg 1 = 1 := rfl
  have v1 : vp_in 1 (aL (R 1 7 + 1)) := by rw [l0]; exact vp_of (a := 1) rfl (by decide) (by decide)
  refine w_X11_bake ⟨hR.now.2, bif_t hO (px_addLoaves hO h (fun I2 h2 hF => ⟨fun c => px_ref9 (now_9 hR) h2 hF c hQ, fun c => ⟨hR.now.2, bif_t hO (bif_t a0 ⟨v1, ?_⟩)⟩⟩))⟩
  rw [t1, h2.1 1 (by decide) (by decide)]
  exact px_ans9 (now_9 hR) h2 hF c hQ
theorem px_cCut {e : Nat} {d a b : Int32} {s : StS9} (hR : RI R) (h : BkA (R 1 7) M s I) (hQ : ∀ I2, BkA (R 1 7) M (opCut d a b s).2 I2 → FrCk (R 1 7) I J I2 J → Q (anX (opCut d a b s).1 (pcR (opCut d a b s).2.1 30 0)) 0 I2 J R) : AM (e + 3) 119 112 [.ref 1, .int d, .int a, .int b] I J R Q := by
  have hO := hR.now.1
  exact w_X11_cut ⟨hR.now.2, bif_t hO (px_cutUp hO h (fun I2 h2 hF => ⟨fun c => px_ref9 (now_9 hR) h2 hF c hQ, fun c => ⟨hR.now.2, bif_t hO (px_pieces hO h2 (px_ans9 (now_9 hR) h2 hF c hQ))⟩⟩))⟩
theorem px_cSplit {e : Nat} {d n : Int32} {s : StS9} (hR : RI R) (h : BkA (R 1 7) M s I) (hQ : ∀ I2, BkA (R 1 7) M (opSplit d n s).2 I2 → FrCk (R 1 7) I J I2 J → Q (anX (opSplit d n s).1 (pcR (opSplit d n s).2.1 30 0)) 0 I2 J R) : AM (e + 3) 120 112 [.ref 1, .int d, .int n] I J R Q := by
  have hO := hR.now.1
  exact w_X11_split ⟨hR.now.2, bif_t hO (px_splitUp hO h (fun I2 h2 hF => ⟨fun c => px_ref9 (now_9 hR) h2 hF c hQ, fun c => ⟨hR.now.2, bif_t hO (px_pieces hO h2 (px_ans9 (now_9 hR) h2 hF c hQ))⟩⟩))⟩
/-- the reference: it refuses -/
theorem px_mref9 {d : Nat} {w st v : Int32} {s : StS9} {I0 : Im} (h : BkR M s I) (hF : FrMk I0 J I J) (c : ¬ st = 0) (hQ : ∀ I2, BkR M s I2 → FrMk I0 J I2 J → Q (anX st v) 0 I2 J R) : AM (d + 1) 176 112 [.ref 97, .int w] I J R (fun x _ I2 J2 _ => Q x 0 I2 J2 R) := by
  refine w_X12_refuse ?_
  have k := hQ (uI I 97 0 w) h.sk (hF.u (Or.inr ⟨rfl, Or.inl rfl⟩))
  rw [show anX st v = -1 from if_neg c] at k
  exact k
theorem px_mBake {d : Nat} {n : Int32} {s : StS9} (h : BkR M s I) (hQ : ∀ I2, BkR M (opAdd n s).2 I2 → FrMk I J I2 J → Q (anX (opAdd n s).1 ((opAdd n s).2.1 1)) 0 I2 J R) : AM (d + 2) 262 112 [.ref 97, .int n] I J R Q := by
  have t4 : Int32.toNatClampNeg 4 = 3 + 1 := rfl
  refine w_X12_bake (px_isInI (lo := 1) (hi := 99) (fun l1 l2 _ => ⟨fun _ => px_bakes ⟨l1, l2⟩ (h.sk).sk (fun I2 h2 hF _ => ⟨fun c => px_mref9 h2 (FrMk.b.tr hF.m) (b9_z c) hQ, fun c => ⟨vp_of (a := 4) rfl (by decide) (by decide), ?_⟩⟩), fun z => absurd z (by decide)⟩) (fun n1 _ => ⟨fun z => absurd rfl z, fun _ => ?_⟩))
  · rw [t4, h2.1 1 (by decide) (by decide)]
    have k := hQ I2 h2 (FrMk.b.tr hF.m)
    rw [show anX (opAdd n s).1 ((opAdd n s).2.1 1) = (opAdd n s).2.1 1 from if_pos (b9_nz c)] at k
    exact k
  · have e0 : opAdd n s = (5, s) := if_neg (fun z => n1.elim (fun a => ile.mpr z.1 a) (fun a => a z.2))
    rw [e0] at hQ
    exact px_mref9 (st := 5) (h.sk).sk FrMk.b (by decide) hQ
theorem px_mCut {e : Nat} {d a b : Int32} {s : StS9} (h : BkR M s I) (hs : ∀ k, 1 ≤ k → k ≤ 30 → (0 : Int32) ≤ s.1 k) (hQ : ∀ I2, BkR M (opCut d a b s).2 I2 → FrMk I J I2 J → Q (anX (opCut d a b s).1 (pcR (opCut d a b s).2.1 30 0)) 0 I2 J R) : AM (e + 3) 258 112 [.ref 97, .int d, .int a, .int b] I J R Q := by
  have hb0 : BkR M s (uI (uI I 97 1 0) 97 0 0) := (h.sk).sk
  have no : ¬ (sq9 d ∧ (sq9 a ∧ sq9 b)) → AM (e + 2) 176 112 [.ref 97, .int 2] (uI (uI I 97 1 0) 97 0 0) J R (fun x _ I2 J2 _ => Q x 0 I2 J2 R) := fun c => by
    have e0 : opCut d a b s = (2, s) := if_neg c
    rw [e0] at hQ
    exact px_mref9 (st := 2) hb0 FrMk.b (by decide) hQ
  refine w_X12_cut (px_mSlQ (fun hd _ => ⟨fun z => absurd z (by decide), fun _ => px_mSlQ (fun ha _ => ⟨fun z => absurd z (by decide), fun _ => px_mSlQ (fun hb _ => ⟨fun _ => px_isOver (s := s) ha hb hb0 (fun _ => ?_), fun z => absurd z (by decide)⟩) (fun hb _ => ⟨fun z => absurd rfl z, fun _ => no (fun y => hb y.2.2)⟩)⟩) (fun ha _ => ⟨fun _ => no (fun y => ha y.2.1), fun z => absurd rfl z⟩)⟩) (fun hd _ => ⟨fun _ => no (fun y => hd y.1), fun z => absurd rfl z⟩))
  have hd9 : sq9 d := hd
  have nd := (sq_nn hd9).2
  by_cases q : 99 < ov9 s.1 a d a b ∨ 99 < ov9 s.1 b d a b
  · rw [if_pos q]
    refine ⟨fun z => absurd z (by decide), fun _ => ?_⟩
    have e0 : opCut d a b s = (7, s) := (if_pos ⟨hd, ha, hb⟩).trans (if_pos q)
    rw [e0] at hQ
    exact px_mref9 (st := 7) hb0 FrMk.b (by decide) hQ
  · rw [if_neg q]
    refine ⟨fun _ => px_cuts hd ha hb hb0 (hs _ nd.1 nd.2) (fun I2 h2 hF _ => ⟨fun c => px_mref9 h2 (FrMk.b.tr hF.m) (b9_z c) hQ, fun c => px_held h2 ?_⟩), fun z => absurd rfl z⟩
    have k := hQ I2 h2 (FrMk.b.tr hF.m)
    rw [show anX (opCut d a b s).1 (pcR (opCut d a b s).2.1 30 0) = pcR (opCut d a b s).2.1 30 0 from if_pos (b9_nz c)] at k
    exact k
end STV
end PT13x6
section PT13x7
/-! ===== split() of the reference; give(), take(): both sides ===== -/
theorem pcn_b9 {v : Int32} : ∀ k : Nat, 0 ≤ pcn v k ∧ pcn v k ≤ k := by
  intro k
  induction k with
  | zero => exact ⟨Int.le_refl _, Int.le_refl _⟩
  | succ k ih =>
    have := pcb_in v (Int32.ofNat k)
    show 0 ≤ pcn v k + pcb v (Int32.ofNat k) ∧ pcn v k + pcb v (Int32.ofNat k) ≤ ((k + 1 : Nat) : Int)
    omega
noncomputable def pcV (v : Int32) : Int32 := nI (pcn v 30).toNat
theorem pcV_e {v x : Int32} (h : x.toInt = pcn v 30) : x = pcV v := by
  have := pcn_b9 (v := v) 30
  exact Int32.toInt_inj.mp (by unfold pcV; rw [nI_toInt (by omega), h]; omega)
section STG
variable {M : Nat} {I : Im} {J : Jm} {R : Rm} {Q : Qt}
theorem px_bc {e : Nat} {v : Int32} (hv : 0 ≤ v.toInt ∧ v.toInt ≤ 1073741823) (hQ : Q (pcV v) 0 I J R) : AM (e + 1) 319 112 [.int v] I J R Q := by
  refine w_J6_bitCount_0f7a4 ?_
  have k := pcV_e (bc_pcn hv.1 hv.2)
  unfold bcE bcD bcC bcB bcA at k
  rw [← k] at hQ
  exact hQ
theorem px_sizeOf {e : Nat} {v : Int32} (hQ : Q (pcV v) 0 I J R) : AM (e + 2) 190 112 [.int v] I J R Q := by
  refine am_X12_sizeOf (fun P hc => sg_X12_sizeOf_0 hc _ _ _ _ ?_)
  have L : ∀ (f : Nat) (x : Int32), f ≤ 30 → x.toInt = pcn v (30 - f) → P 4 112 [(0, .int v), (1, .int x), (2, .int (nI (30 - f)))] [] I J R := by
    intro f
    induction f with
    | zero =>
      intro x _ hx
      exact sg_X12_sizeOf_4 hc _ _ _ _ _ _ ⟨fun _ => by rw [pcV_e hx]; exact hQ, fun c => absurd ((nle_nI (a := 30) (b := 30 - 0) (by omega) (by omega)).mpr (by omega)) c⟩
    | succ f ih =>
      intro x hf hx
      have ed : 30 - (f + 1) = 29 - f := by omega
      rw [ed] at hx ⊢
      have es : pcn v (30 - f) = pcn v (29 - f) + pcb v (nI (29 - f)) := by
        rw [show 30 - f = (29 - f) + 1 by omega]; rfl
      have hb := pcn_b9 (v := v) (29 - f)
      refine sg_X12_sizeOf_4 hc _ _ _ _ _ _ ⟨fun c => absurd ((nle_nI (a := 30) (by omega) (by omega)).mp c) (by omega), fun _ => w_X12_isOf ⟨fun c => ⟨Or.inl rfl, fun _ => ⟨fun _ => ?_, fun z => absurd rfl z⟩⟩, fun c => ⟨Or.inr rfl, fun _ => ⟨fun z => absurd z (by decide), fun _ => ?_⟩⟩⟩⟩
      · rw [nx29 hf]
        refine ih _ (by omega) ?_
        rw [Int32.add_zero, es, hx]
        unfold pcb
        rw [if_neg c, Int.add_zero]
      · rw [nx29 hf]
        refine ih _ (by omega) ?_
        rw [ti_add hx (show (1 : Int32).toInt = 1 from rfl) (by omega), es]
        unfold pcb
        rw [if_pos c]
  exact L 30 0 (by decide) rfl
theorem px_mSplit {e : Nat} {d n : Int32} {s : StS9} (h : BkR M s I) (hs : ∀ k, 1 ≤ k → k ≤ 30 → (0 : Int32) ≤ s.1 k) (hQ : ∀ I2, BkR M (opSplit d n s).2 I2 → FrMk I J I2 J → Q (anX (opSplit d n s).1 (pcR (opSplit d n s).2.1 30 0)) 0 I2 J R) : AM (e + 3) 260 112 [.ref 97, .int d, .int n] I J R Q := by
  have hb0 : BkR M s (uI (uI I 97 1 0) 97 0 0) := (h.sk).sk
  refine w_X12_split (px_mSlQ (fun hd _ => ⟨fun _ => px_isInI (lo := 2) (hi := 30) (fun l1 l2 _ => ⟨fun _ => ?_, fun z => absurd z (by decide)⟩) (fun n1 _ => ⟨fun z => absurd rfl z, fun _ => ?_⟩), fun z => absurd z (by decide)⟩) (fun hd _ => ⟨fun z => absurd rfl z, fun _ => ?_⟩))
  · have hd9 : sq9 d := hd
    have hn : (2 : Int32) ≤ n ∧ n ≤ 30 := ⟨l1, l2⟩
    have nd := (sq_nn hd9).2
    have go : AM (e + 2) 259 112 [.ref 97, .int d, .int n] (uI (uI I 97 1 0) 97 0 0) J R (fun x4 _ I4 J4 _ => (x4 = 0 ∨ x4 = 1) → ((x4 = (0 : Int32) → (AM (e + 2) 176 112 [.ref 97, .int 9] I4 J4 R (fun x5 _ I5 J5 _ => Q x5 0 I5 J5 R))) ∧ (¬ x4 = (0 : Int32) → (AM (e + 2) 245 112 [.ref 97] I4 J4 R (fun x6 _ I6 J6 _ => Q x6 0 I6 J6 R))))) := by
      refine px_splits hd9 hn hb0 (hs _ nd.1 nd.2) (fun I2 h2 hF _ => ⟨fun c => px_mref9 h2 (FrMk.b.tr hF.m) (b9_z c) hQ, fun c => px_held h2 ?_⟩)
      have k := hQ I2 h2 (FrMk.b.tr hF.m)
      rw [show anX (opSplit d n s).1 (pcR (opSplit d n s).2.1 30 0) = pcR (opSplit d n s).2.1 30 0 from if_pos (b9_nz c)] at k
      exact k
    rcases dn_case hd9 hn with hp | ⟨hp, -⟩
    · refine px_areMore hp hb0 (fun _ => ?_)
      by_cases q : s.1 (nn9 (d * n)) + n ≤ 99
      · rw [if_pos q]
        exact ⟨fun _ => go, fun z => absurd rfl z⟩
      · rw [if_neg q]
        refine ⟨fun z => absurd z (by decide), fun _ => ?_⟩
        have e0 : opSplit d n s = (7, s) := ((if_pos hd).trans (if_pos hn)).trans (if_pos ⟨hp, q⟩)
        rw [e0] at hQ
        exact px_mref9 (st := 7) hb0 FrMk.b (by decide) hQ
    · exact px_areMoreN hp (fun _ => ⟨fun _ => go, fun z => absurd rfl z⟩)
  · have e0 : opSplit d n s = (5, s) := (if_pos hd).trans (if_neg (fun z => n1.elim (fun a => ile.mpr z.1 a) (fun a => a z.2)))
    rw [e0] at hQ
    exact px_mref9 (st := 5) hb0 FrMk.b (by decide) hQ
  · have e0 : opSplit d n s = (2, s) := if_neg hd
    rw [e0] at hQ
    exact px_mref9 (st := 2) hb0 FrMk.b (by decide) hQ
theorem px_cGive {e : Nat} {k d : Int32} {s : StS9} (hR : RI R) (hm : (I (R 1 7) 4).toInt = (M : Int) ∧ M ≤ 6) (h : BkA (R 1 7) M s I) (hv : ∀ i, i < M → 0 ≤ ((opGive (I (R 1 7) 4) k d s).2.2.1 i).toInt ∧ ((opGive (I (R 1 7) 4) k d s).2.2.1 i).toInt ≤ 1073741823) (hQ : ∀ I2, BkA (R 1 7) M (opGive (I (R 1 7) 4) k d s).2 I2 → FrCk (R 1 7) I J I2 J → Q (anX (opGive (I (R 1 7) 4) k d s).1 (pcV ((opGive (I (R 1 7) 4) k d s).2.2.1 (nn9 k)))) 0 I2 J R) : AM (e + 3) 121 112 [.ref 1, .int k, .int d] I J R Q := by
  have hO := hR.now.1
  obtain ⟨a5, l5, -⟩ := fa_0_8 hO
  refine w_X11_give ⟨hR.now.2, bif_t hO (px_handOver hO hm h (fun I2 h2 hF => ⟨fun c => px_ref9 (now_9 hR) h2 hF c hQ, fun c => ?_⟩))⟩
  by_cases q : ((0 : Int32) ≤ k ∧ k < I (R 1 7) 4) ∧ sq9 d
  · obtain ⟨nk, vk⟩ := mn_nn q.1 hm
    rw [← l5] at vk
    have ek : I2 (R 1 7 + 5) (Int32.toNatClampNeg k) = (opGive (I (R 1 7) 4) k d s).2.2.1 (nn9 k) := h2.2.1 _ nk
    refine ⟨hR.now.2, bif_t hO (bif_t a5 ⟨vk, ?_⟩)⟩
    rw [ek]
    exact px_bc (hv _ nk) (px_ans9 (now_9 hR) h2 hF c hQ)
  · have e0 : opGive (I (R 1 7) 4) k d s = (2, s) := if_neg q
    rw [e0] at c
    exact absurd c (show ¬ (2 : Int32) = 0 by decide)
theorem px_cTake {e : Nat} {k d : Int32} {s : StS9} (hR : RI R) (hm : (I (R 1 7) 4).toInt = (M : Int) ∧ M ≤ 6) (h : BkA (R 1 7) M s I) (hv : ∀ i, i < M → 0 ≤ ((opTake (I (R 1 7) 4) k d s).2.2.1 i).toInt ∧ ((opTake (I (R 1 7) 4) k d s).2.2.1 i).toInt ≤ 1073741823) (hQ : ∀ I2, BkA (R 1 7) M (opTake (I (R 1 7) 4) k d s).2 I2 → FrCk (R 1 7) I J I2 J → Q (anX (opTake (I (R 1 7) 4) k d s).1 (pcV ((opTake (I (R 1 7) 4) k d s).2.2.1 (nn9 k)))) 0 I2 J R) : AM (e + 3) 122 112 [.ref 1, .int k, .int d] I J R Q := by
  have hO := hR.now.1
  obtain ⟨a5, l5, -⟩ := fa_0_8 hO
  refine w_X11_take ⟨hR.now.2, bif_t hO (px_handBack hO hm h (fun I2 h2 hF => ⟨fun c => px_ref9 (now_9 hR) h2 hF c hQ, fun c => ?_⟩))⟩
  by_cases q : ((0 : Int32) ≤ k ∧ k < I (R 1 7) 4) ∧ sq9 d
  · obtain ⟨nk, vk⟩ := mn_nn q.1 hm
    rw [← l5] at vk
    have ek : I2 (R 1 7 + 5) (Int32.toNatClampNeg k) = (opTake (I (R 1 7) 4) k d s).2.2.1 (nn9 k) := h2.2.1 _ nk
    refine ⟨hR.now.2, bif_t hO (bif_t a5 ⟨vk, ?_⟩)⟩
    rw [ek]
    exact px_bc (hv _ nk) (px_ans9 (now_9 hR) h2 hF c hQ)
  · have e0 : opTake (I (R 1 7) 4) k d s = (2, s) := if_neg q
    rw [e0] at c
    exact absurd c (show ¬ (2 : Int32) = 0 by decide)
end STG
end PT13x7
section PT13x8
/-! ===== give(), take() of the reference ===== -/
section STH
variable {M : Nat} {I : Im} {J : Jm} {R : Rm} {Q : Qt}
theorem px_manAt {d : Nat} {v : Int32} (hm : 0 ≤ (I 102 0).toInt ∧ (I 102 0).toInt ≤ 6) (hN : ¬ ((0 : Int32) ≤ v ∧ v < I 102 0) → Q 0 0 I J R) (hY : (0 : Int32) ≤ v ∧ v < I 102 0 → Q 1 0 I J R) : AM (d + 2) 239 112 [.ref 97, .int v] I J R (fun x y I2 J2 R2 => (x = 0 ∨ x = 1) → Q x y I2 J2 R2) := by
  have t0 : Int32.toNatClampNeg 0 = 0 := rfl
  have e1 : (I 102 0 - 1 : Int32).toInt = (I 102 0).toInt - 1 := ti_sub rfl (show (1 : Int32).toInt = 1 from rfl) (by omega)
  have hle : v ≤ I 102 0 - 1 ↔ v < I 102 0 := by
    rw [Int32.le_iff_toInt_le, Int32.lt_iff_toInt_lt, e1]; omega
  refine w_X12_isManAt ⟨vp_of (a := 0) rfl (by decide) (by decide), ?_⟩
  rw [t0]
  exact px_isInI (lo := 0) (hi := I 102 0 - 1) (fun l1 l2 _ => ⟨Or.inr rfl, fun _ => hY ⟨l1, hle.mp l2⟩⟩) (fun n1 _ => ⟨Or.inl rfl, fun _ => hN (fun y => n1.elim (fun a => ile.mpr y.1 a) (fun a => a (hle.mpr y.2)))⟩)
theorem b102 : (uI (uI I 97 1 0) 97 0 0) 102 0 = I 102 0 := (rd_ne (by decide)).trans (rd_ne (by decide))
theorem px_mGive {e : Nat} {k d : Int32} {s : StS9} (h : BkR M s I) (hm : (I 102 0).toInt = (M : Int) ∧ M ≤ 6) (hs : ∀ k, 1 ≤ k → k ≤ 30 → (0 : Int32) ≤ s.1 k) (hh : ∀ i, i < M → 0 ≤ (s.2.1 i).toInt) (hQ : ∀ I2, BkR M (opGive (I 102 0) k d s).2 I2 → FrMk I J I2 J → Q (anX (opGive (I 102 0) k d s).1 (pcV ((opGive (I 102 0) k d s).2.2.1 (nn9 k)))) 0 I2 J R) : AM (e + 3) 264 112 [.ref 97, .int k, .int d] I J R Q := by
  have hb0 : BkR M s (uI (uI I 97 1 0) 97 0 0) := (h.sk).sk
  have no : ¬ (((0 : Int32) ≤ k ∧ k < I 102 0) ∧ sq9 d) → AM (e + 2) 176 112 [.ref 97, .int 2] (uI (uI I 97 1 0) 97 0 0) J R (fun x _ I2 J2 _ => Q x 0 I2 J2 R) := fun c => by
    have e0 : opGive (I 102 0) k d s = (2, s) := if_neg c
    rw [e0] at hQ
    exact px_mref9 (st := 2) hb0 FrMk.b (by decide) hQ
  refine w_X12_give (px_manAt (by rw [b102]; omega) (fun hk => ⟨fun _ => no (fun y => hk (by rw [b102]; exact y.1)), fun z => absurd rfl z⟩) (fun hk => ⟨fun z => absurd z (by decide), fun _ => px_mSlQ (fun hd _ => ⟨fun _ => ?_, fun z => absurd z (by decide)⟩) (fun hd _ => ⟨fun z => absurd rfl z, fun _ => no (fun y => hd y.2)⟩)⟩))
  rw [b102] at hk
  have hd9 : sq9 d := hd
  have nd := (sq_nn hd9).2
  obtain ⟨ik, vk, nk⟩ := ix_hv hk hm
  refine px_gives hk hm hd9 hb0 (hs _ nd.1 nd.2) (hh _ nk) (fun I2 h2 hF _ => ⟨fun c => px_mref9 h2 (FrMk.b.tr hF.m) (b9_z c) hQ, fun c => ⟨vk, ?_⟩⟩)
  rw [ik, h2.2.1 _ nk]
  refine px_sizeOf ?_
  have q := hQ I2 h2 (FrMk.b.tr hF.m)
  rw [show anX (opGive (I 102 0) k d s).1 (pcV ((opGive (I 102 0) k d s).2.2.1 (nn9 k))) = pcV ((opGive (I 102 0) k d s).2.2.1 (nn9 k)) from if_pos (b9_nz c)] at q
  exact q
theorem px_mTake {e : Nat} {k d : Int32} {s : StS9} (h : BkR M s I) (hm : (I 102 0).toInt = (M : Int) ∧ M ≤ 6) (hs : ∀ k, 1 ≤ k → k ≤ 30 → s.1 k ≤ 99) (hh : ∀ i, i < M → 0 ≤ (s.2.1 i).toInt) (hQ : ∀ I2, BkR M (opTake (I 102 0) k d s).2 I2 → FrMk I J I2 J → Q (anX (opTake (I 102 0) k d s).1 (pcV ((opTake (I 102 0) k d s).2.2.1 (nn9 k)))) 0 I2 J R) : AM (e + 3) 266 112 [.ref 97, .int k, .int d] I J R Q := by
  have hb0 : BkR M s (uI (uI I 97 1 0) 97 0 0) := (h.sk).sk
  have no : ¬ (((0 : Int32) ≤ k ∧ k < I 102 0) ∧ sq9 d) → AM (e + 2) 176 112 [.ref 97, .int 2] (uI (uI I 97 1 0) 97 0 0) J R (fun x _ I2 J2 _ => Q x 0 I2 J2 R) := fun c => by
    have e0 : opTake (I 102 0) k d s = (2, s) := if_neg c
    rw [e0] at hQ
    exact px_mref9 (st := 2) hb0 FrMk.b (by decide) hQ
  refine w_X12_take (px_manAt (by rw [b102]; omega) (fun hk => ⟨fun _ => no (fun y => hk (by rw [b102]; exact y.1)), fun z => absurd rfl z⟩) (fun hk => ⟨fun z => absurd z (by decide), fun _ => px_mSlQ (fun hd _ => ⟨fun _ => ?_, fun z => absurd z (by decide)⟩) (fun hd _ => ⟨fun z => absurd rfl z, fun _ => no (fun y => hd y.2)⟩)⟩))
  rw [b102] at hk
  have hd9 : sq9 d := hd
  have nd := (sq_nn hd9).2
  obtain ⟨ik, vk, nk⟩ := ix_hv hk hm
  obtain ⟨id, vd⟩ := ix_st hd9
  refine ⟨vd, ?_⟩
  rw [id, hb0.1 _ nd.1 nd.2]
  refine ⟨fun c9 => px_takes hk hm hd9 hb0 (hs _ nd.1 nd.2) (hh _ nk) (fun I2 h2 hF _ => ⟨fun c => px_mref9 h2 (FrMk.b.tr hF.m) (b9_z c) hQ, fun c => ⟨vk, ?_⟩⟩), fun c9 => ?_⟩
  · rw [ik, h2.2.1 _ nk]
    refine px_sizeOf ?_
    have q := hQ I2 h2 (FrMk.b.tr hF.m)
    rw [show anX (opTake (I 102 0) k d s).1 (pcV ((opTake (I 102 0) k d s).2.2.1 (nn9 k))) = pcV ((opTake (I 102 0) k d s).2.2.1 (nn9 k)) from if_pos (b9_nz c)] at q
    exact q
  · have n9 : ¬ s.1 (nn9 d) < 99 := by
      rw [c9]
      decide
    have e0 : opTake (I 102 0) k d s = (7, s) := (if_pos ⟨hk, hd9⟩).trans (if_neg n9)
    rw [e0] at hQ
    exact px_mref9 (st := 7) hb0 FrMk.b (by decide) hQ
end STH
end PT13x8
section PT13x9
/-! ===== the store keeps its bounds, whatever is done ===== -/
/-- 0 to 99 of each slice; the men have sets of slices -/
noncomputable def StB (M : Nat) (s : StS9) : Prop := (∀ k, 1 ≤ k → k ≤ 30 → 0 ≤ (s.1 k).toInt ∧ (s.1 k).toInt ≤ 99) ∧ (∀ i, i < M → 0 ≤ (s.2.1 i).toInt ∧ (s.2.1 i).toInt ≤ 1073741823)
theorem i99 : (99 : Int32).toInt = 99 := rfl
theorem i30 : (30 : Int32).toInt = 30 := rfl
theorem i1 : (1 : Int32).toInt = 1 := rfl
theorem StB.lo {M : Nat} {s : StS9} (h : StB M s) : ∀ k, 1 ≤ k → k ≤ 30 → (0 : Int32) ≤ s.1 k := fun k a b => le_i.mpr (h.1 k a b).1
theorem StB.hi {M : Nat} {s : StS9} (h : StB M s) : ∀ k, 1 ≤ k → k ≤ 30 → s.1 k ≤ 99 := fun k a b => le_i.mpr (h.1 k a b).2
theorem StB.hv0 {M : Nat} {s : StS9} (h : StB M s) : ∀ i, i < M → 0 ≤ (s.2.1 i).toInt := fun i a => (h.2 i a).1
theorem upa9 {f : Nat → Int32} {k j : Nat} {v : Int32} (h : -1000 ≤ (f j).toInt ∧ (f j).toInt ≤ 1000) (hv : -1000 ≤ v.toInt ∧ v.toInt ≤ 1000) : (upd f k (f k + v) j).toInt = (f j).toInt + (if j = k then v.toInt else 0) := by
  by_cases q : j = k
  · subst q
    rw [upd_at9, if_pos rfl]
    exact ti_add rfl rfl (by omega)
  · rw [upd_ne9 q, if_neg q, Int.add_zero]
theorem ups9 {f : Nat → Int32} {k j : Nat} (h : -1000 ≤ (f j).toInt ∧ (f j).toInt ≤ 1000) : (upd f k (f k - 1) j).toInt = (f j).toInt - (if j = k then 1 else 0) := by
  by_cases q : j = k
  · subst q
    rw [upd_at9, if_pos rfl]
    exact ti_sub rfl i1 (by omega)
  · rw [upd_ne9 q, if_neg q, Int.sub_zero]
theorem ct9_t {S : Nat → Int32} {d a b : Int32} {k : Nat} (h : 0 ≤ (S k).toInt ∧ (S k).toInt ≤ 99) : (ct9 S d a b k).toInt = (S k).toInt - (if k = nn9 d then 1 else 0) + (if k = nn9 a then 1 else 0) + (if k = nn9 b then 1 else 0) := by
  have e1 := ups9 (f := S) (k := nn9 d) (j := k) (by omega)
  have e2 := upa9 (f := upd S (nn9 d) (S (nn9 d) - 1)) (k := nn9 a) (j := k) (v := 1) (by rw [e1]; split <;> omega) (by decide)
  have e3 := upa9 (f := upd (upd S (nn9 d) (S (nn9 d) - 1)) (nn9 a) (upd S (nn9 d) (S (nn9 d) - 1) (nn9 a) + 1)) (k := nn9 b) (j := k) (v := 1) (by rw [e2, e1, i1]; split <;> split <;> omega) (by decide)
  rw [e2, e1, i1] at e3
  exact e3
theorem sp9_t {S : Nat → Int32} {d n : Int32} {k : Nat} (h : 0 ≤ (S k).toInt ∧ (S k).toInt ≤ 99) (hn : 0 ≤ n.toInt ∧ n.toInt ≤ 30) : (sp9 S d n k).toInt = (S k).toInt - (if k = nn9 d then 1 else 0) + (if k = nn9 (d * n) then n.toInt else 0) := by
  have e1 := ups9 (f := S) (k := nn9 d) (j := k) (by omega)
  have e2 := upa9 (f := upd S (nn9 d) (S (nn9 d) - 1)) (k := nn9 (d * n)) (j := k) (v := n) (by rw [e1]; split <;> omega) (by omega)
  rw [e1] at e2
  exact e2
theorem nn_eq {o d : Int32} (ho : sq9 o) (hd : sq9 d) : (o = d) ↔ (nn9 o = nn9 d) :=
  ⟨fun q => by rw [q], fun q => by rw [← sq_nI ho, ← sq_nI hd, q]⟩
theorem ci9 {p : Prop} [Decidable p] : (if p then (1 : Int32) else 0).toInt = if p then 1 else 0 := by
  split <;> rfl
theorem ov9_t {S : Nat → Int32} {o d a b : Int32} (ho : sq9 o) (hd : sq9 d) (ha : sq9 a) (hb : sq9 b) (h : 0 ≤ (S (nn9 o)).toInt ∧ (S (nn9 o)).toInt ≤ 99) : (ov9 S o d a b).toInt = (S (nn9 o)).toInt - (if nn9 o = nn9 d then 1 else 0) + (if nn9 o = nn9 a then 1 else 0) + (if nn9 o = nn9 b then 1 else 0) := by
  have c1 : (if o = d then (1 : Int32) else 0).toInt = if nn9 o = nn9 d then 1 else 0 := by rw [ci9]; simp only [nn_eq ho hd]
  have c2 : (if o = a then (1 : Int32) else 0).toInt = if nn9 o = nn9 a then 1 else 0 := by rw [ci9]; simp only [nn_eq ho ha]
  have c3 : (if o = b then (1 : Int32) else 0).toInt = if nn9 o = nn9 b then 1 else 0 := by rw [ci9]; simp only [nn_eq ho hb]
  unfold ov9
  exact ti_add (ti_add (ti_sub rfl c1 (by split <;> omega)) c2 (by split <;> split <;> omega)) c3 (by split <;> split <;> split <;> omega)
theorem and_b9 {h m : Int32} (h0 : 0 ≤ h.toInt) : 0 ≤ (h &&& m).toInt ∧ (h &&& m).toInt ≤ h.toInt := by
  have e1 : (h &&& m).toBitVec.toNat = h.toBitVec.toNat &&& m.toBitVec.toNat := by rw [Int32.toBitVec_and, BitVec.toNat_and]
  have e2 : h.toBitVec.toNat &&& m.toBitVec.toNat ≤ h.toBitVec.toNat := Nat.and_le_left
  have l1 := h.toBitVec.isLt
  have k1 : h.toInt = if 2 * h.toBitVec.toNat < 2 ^ 32 then (h.toBitVec.toNat : Int) else (h.toBitVec.toNat : Int) - (2 ^ 32 : Nat) := BitVec.toInt_eq_toNat_cond _
  have k2 : (h &&& m).toInt = if 2 * (h &&& m).toBitVec.toNat < 2 ^ 32 then ((h &&& m).toBitVec.toNat : Int) else ((h &&& m).toBitVec.toNat : Int) - (2 ^ 32 : Nat) := BitVec.toInt_eq_toNat_cond _
  rw [← e1] at e2
  split at k1 <;> split at k2 <;> omega
theorem StB.add {M : Nat} {n : Int32} {s : StS9} (h : StB M s) : StB M (opAdd n s).2 := by
  unfold opAdd
  split
  · rename_i hn
    split
    · rename_i h9
      refine ⟨fun k a b => ?_, h.2⟩
      have hk := h.1 k a b
      have h1 := h.1 1 (by decide) (by decide)
      obtain ⟨n1, n2⟩ := hn
      rw [le_i, i1] at n1
      rw [le_i, i99] at n2
      have ea : (s.1 1 + n).toInt = (s.1 1).toInt + n.toInt := ti_add rfl rfl (by omega)
      rw [le_i, i99, ea] at h9
      have e := upa9 (f := s.1) (k := 1) (j := k) (v := n) (by omega) (by omega)
      show 0 ≤ (upd s.1 1 (s.1 1 + n) k).toInt ∧ (upd s.1 1 (s.1 1 + n) k).toInt ≤ 99
      rw [e]
      split
      · rename_i q
        rw [q]
        omega
      · omega
    · exact h
  · exact h
theorem StB.cut {M : Nat} {d a b : Int32} {s : StS9} (h : StB M s) : StB M (opCut d a b s).2 := by
  unfold opCut
  split
  · rename_i hq
    obtain ⟨hd, ha, hb⟩ := hq
    split
    · exact h
    · rename_i h9
      split
      · rename_i hc
        refine ⟨fun k k1 k2 => ?_, h.2⟩
        have hk := h.1 k k1 k2
        have nd := (sq_nn hd).2
        have na := (sq_nn ha).2
        have nb := (sq_nn hb).2
        have hD := h.1 _ nd.1 nd.2
        have oa := ov9_t (S := s.1) (d := d) (a := a) (b := b) ha hd ha hb (h.1 _ na.1 na.2)
        have ob := ov9_t (S := s.1) (d := d) (a := a) (b := b) hb hd ha hb (h.1 _ nb.1 nb.2)
        have h9a : ¬ 99 < (ov9 s.1 a d a b).toInt := fun z => h9 (Or.inl (Int32.lt_iff_toInt_lt.mpr z))
        have h9b : ¬ 99 < (ov9 s.1 b d a b).toInt := fun z => h9 (Or.inr (Int32.lt_iff_toInt_lt.mpr z))
        have hD1 : ¬ (s.1 (nn9 d)).toInt < 1 := fun z => hc.1 (Int32.lt_iff_toInt_lt.mpr z)
        have e := ct9_t (S := s.1) (d := d) (a := a) (b := b) (k := k) hk
        show 0 ≤ (ct9 s.1 d a b k).toInt ∧ (ct9 s.1 d a b k).toInt ≤ 99
        rw [e]
        rw [oa] at h9a
        rw [ob] at h9b
        by_cases qa : k = nn9 a
        · subst qa
          rw [if_pos rfl] at h9a ⊢
          by_cases qd : nn9 a = nn9 d
          · rw [if_pos qd] at h9a ⊢
            split at h9a <;> split <;> omega
          · rw [if_neg qd] at h9a ⊢
            split at h9a <;> split <;> omega
        · by_cases qb : k = nn9 b
          · subst qb
            rw [if_neg qa] at h9b ⊢
            rw [if_pos rfl] at h9b ⊢
            by_cases qd : nn9 b = nn9 d
            · rw [if_pos qd] at h9b ⊢
              omega
            · rw [if_neg qd] at h9b ⊢
              omega
          · rw [if_neg qa, if_neg qb]
            by_cases qd : k = nn9 d
            · rw [if_pos qd]
              subst qd
              omega
            · rw [if_neg qd]
              omega
      · exact h
  · exact h
theorem StB.split {M : Nat} {d n : Int32} {s : StS9} (h : StB M s) : StB M (opSplit d n s).2 := by
  unfold opSplit
  split
  · rename_i hd
    split
    · rename_i hn
      split
      · exact h
      · rename_i h9
        split
        · rename_i hc
          refine ⟨fun k k1 k2 => ?_, h.2⟩
          have hk := h.1 k k1 k2
          have nd := (sq_nn hd).2
          have np := (sq_nn hc.2).2
          have hD := h.1 _ nd.1 nd.2
          have hP := h.1 _ np.1 np.2
          obtain ⟨n1, n2⟩ := hn
          rw [le_i, show (2 : Int32).toInt = 2 from rfl] at n1
          rw [le_i, i30] at n2
          have ea : (s.1 (nn9 (d * n)) + n).toInt = (s.1 (nn9 (d * n))).toInt + n.toInt := ti_add rfl rfl (by omega)
          have h99 : s.1 (nn9 (d * n)) + n ≤ 99 := Decidable.not_not.mp (fun z => h9 ⟨hc.2, z⟩)
          rw [le_i, i99, ea] at h99
          have hD1 : ¬ (s.1 (nn9 d)).toInt < 1 := fun z => hc.1 (Int32.lt_iff_toInt_lt.mpr z)
          have e := sp9_t (S := s.1) (d := d) (n := n) (k := k) hk (by omega)
          show 0 ≤ (sp9 s.1 d n k).toInt ∧ (sp9 s.1 d n k).toInt ≤ 99
          rw [e]
          by_cases qp : k = nn9 (d * n)
          · rw [if_pos qp]
            rw [← qp] at h99
            by_cases qd : k = nn9 d
            · rw [if_pos qd]
              omega
            · rw [if_neg qd]
              omega
          · rw [if_neg qp]
            by_cases qd : k = nn9 d
            · rw [if_pos qd]
              rw [← qd] at hD1
              omega
            · rw [if_neg qd]
              omega
        · exact h
    · exact h
  · exact h
theorem StB.give {M : Nat} {m k d : Int32} {s : StS9} (h : StB M s) : StB M (opGive m k d s).2 := by
  unfold opGive
  split
  · rename_i hq
    obtain ⟨hk, hd⟩ := hq
    split
    · rename_i hc
      have nd := (sq_nn hd).2
      have hD := h.1 _ nd.1 nd.2
      have hD1 : ¬ (s.1 (nn9 d)).toInt < 1 := fun z => hc.1 (Int32.lt_iff_toInt_lt.mpr z)
      refine ⟨fun j j1 j2 => ?_, fun i hi => ?_⟩
      · have hj := h.1 j j1 j2
        have e := ups9 (f := s.1) (k := nn9 d) (j := j) (by omega)
        show 0 ≤ (upd s.1 (nn9 d) (s.1 (nn9 d) - 1) j).toInt ∧ (upd s.1 (nn9 d) (s.1 (nn9 d) - 1) j).toInt ≤ 99
        rw [e]
        by_cases q : j = nn9 d
        · rw [if_pos q]
          rw [← q] at hD1
          omega
        · rw [if_neg q]
          omega
      · show 0 ≤ (upd s.2.1 (nn9 k) (s.2.1 (nn9 k) ||| biS d) i).toInt ∧ (upd s.2.1 (nn9 k) (s.2.1 (nn9 k) ||| biS d) i).toInt ≤ 1073741823
        by_cases q : i = nn9 k
        · subst q
          rw [upd_at9]
          have hh := h.2 _ hi
          have := bi_in (s := s.2.1 (nn9 k)) (d := d) ⟨hh.1, by omega⟩ hd.1 hd.2
          omega
        · rw [upd_ne9 q]
          exact h.2 i hi
    · exact h
  · exact h
theorem StB.take {M : Nat} {m k d : Int32} {s : StS9} (h : StB M s) : StB M (opTake m k d s).2 := by
  unfold opTake
  split
  · rename_i hq
    obtain ⟨hk, hd⟩ := hq
    split
    · rename_i h9
      split
      · have nd := (sq_nn hd).2
        have hD := h.1 _ nd.1 nd.2
        have hD1 : (s.1 (nn9 d)).toInt < 99 := Int32.lt_iff_toInt_lt.mp h9
        refine ⟨fun j j1 j2 => ?_, fun i hi => ?_⟩
        · have hj := h.1 j j1 j2
          have e := upa9 (f := s.1) (k := nn9 d) (j := j) (v := 1) (by omega) (by decide)
          show 0 ≤ (upd s.1 (nn9 d) (s.1 (nn9 d) + 1) j).toInt ∧ (upd s.1 (nn9 d) (s.1 (nn9 d) + 1) j).toInt ≤ 99
          rw [e, i1]
          by_cases q : j = nn9 d
          · rw [if_pos q]
            rw [← q] at hD1
            omega
          · rw [if_neg q]
            omega
        · show 0 ≤ (upd s.2.1 (nn9 k) (s.2.1 (nn9 k) &&& (biS d ^^^ (-1))) i).toInt ∧ (upd s.2.1 (nn9 k) (s.2.1 (nn9 k) &&& (biS d ^^^ (-1))) i).toInt ≤ 1073741823
          by_cases q : i = nn9 k
          · subst q
            rw [upd_at9]
            have hh := h.2 _ hi
            have := and_b9 (h := s.2.1 (nn9 k)) (m := biS d ^^^ (-1)) hh.1
            omega
          · rw [upd_ne9 q]
            exact h.2 i hi
      · exact h
    · exact h
  · exact h
end PT13x9
section PT13x10
/-! ===== what a man lacks; who has his share: both sides ===== -/
/-- the shares, by man -/
noncomputable abbrev Du9 : Type := Nat → Int32 × Int32
noncomputable def DuA (o M : Nat) (du : Du9) (I : Im) : Prop := ∀ k, k < M → I (o + 3) k = (du k).1 ∧ I (o + 4) k = (du k).2
noncomputable def DuR (M : Nat) (du : Du9) (I : Im) : Prop := ∀ k, k < M → I 102 (34 + k) = (du k).1 ∧ I 102 (40 + k) = (du k).2
noncomputable def lk9 (du : Du9) (hv : Nat → Int32) (k : Nat) : Int := shL (du k).1 (du k).2 - hvR (hv k) 30 0
theorem hvR_b {h : Int32} : ∀ (f : Nat) (a : Int), f ≤ 30 → 0 ≤ a → 0 ≤ hvR h f a ∧ hvR h f a ≤ a + (f : Int) * 2329089562800 := by
  intro f
  induction f with
  | zero => intro a _ ha; exact ⟨ha, by show a ≤ _; omega⟩
  | succ f ih =>
    intro a hf ha
    obtain ⟨p1, p2, -⟩ := pt_b (d := 30 - f) (by omega) (by omega)
    show 0 ≤ hvR h f (if inS h (nI (30 - f)) = true then a + pt (30 - f) else a) ∧ hvR h f (if inS h (nI (30 - f)) = true then a + pt (30 - f) else a) ≤ a + ((f + 1 : Nat) : Int) * 2329089562800
    split
    · have := ih (a + pt (30 - f)) (by omega) (by omega)
      omega
    · have := ih a (by omega) ha
      omega
theorem lk_tl {x y : Int64} {du : Du9} {hv : Nat → Int32} {k : Nat} (hs : sh (du k).1 (du k).2) (hx : x.toInt = shL (du k).1 (du k).2) (hy : y.toInt = hvR (hv k) 30 0) : (x - y).toInt = lk9 du hv k := by
  have b1 := shL_b hs
  have b2 := hvR_b (h := hv k) 30 0 (by decide) (by decide)
  exact tl_sub hx hy (by omega)
section STL
variable {M : Nat} {I : Im} {J : Jm} {R : Rm} {Q : Qt}
theorem px_lacking {e o : Nat} {k : Int32} {s : StS9} {du : Du9} (hO : isO 112 o 0 = true) (hk : (0 : Int32) ≤ k ∧ k < I o 4) (hm : (I o 4).toInt = (M : Int) ∧ M ≤ 6) (h : BkA o M s I) (hd : DuA o M du I) (hs : sh (du (nn9 k)).1 (du (nn9 k)).2) (hQ : ∀ y : Int64, y.toInt = lk9 du s.2.1 (nn9 k) → Q 0 y I J R) : AM (e + 3) 11 112 [.ref o, .int k] I J R Q := by
  obtain ⟨a3, l3, -⟩ := fa_0_6 hO
  obtain ⟨a4, l4, -⟩ := fa_0_7 hO
  obtain ⟨nk, vk⟩ := mn_nn hk hm
  obtain ⟨d1, d2⟩ := hd _ nk
  have v3 := vk
  have v4 := vk
  rw [← l3] at v3
  rw [← l4] at v4
  refine w_X0_lacking (bif_t hO (bif_t a3 ⟨v3, bif_t hO (bif_t a4 ⟨v4, ?_⟩)⟩))
  rw [d1, d2]
  exact px_crumbs hs (fun x hx => bif_t hO (px_holding hO hk hm h (fun y hy => hQ _ (lk_tl hs hx hy))))
theorem px_lackOf {e : Nat} {k m : Int32} {s : StS9} {du : Du9} (hk : (0 : Int32) ≤ k ∧ k < m) (hm : m.toInt = (M : Int) ∧ M ≤ 6) (h : BkR M s I) (hh : 0 ≤ (s.2.1 (nn9 k)).toInt) (hd : DuR M du I) (hs : sh (du (nn9 k)).1 (du (nn9 k)).2) (hQ : ∀ y : Int64, y.toInt = lk9 du s.2.1 (nn9 k) → Q 0 y I J R) : AM (e + 3) 244 112 [.ref 97, .int k] I J R Q := by
  obtain ⟨ik, vk, nk⟩ := ix_hv hk hm
  obtain ⟨d1, d2⟩ := hd _ nk
  have kn := nk
  obtain ⟨h1, h2⟩ := hk
  rw [le_i, show (0 : Int32).toInt = 0 from rfl] at h1
  rw [Int32.lt_iff_toInt_lt] at h2
  have e4 : nn9 k = k.toInt.toNat := rfl
  have e34 : (34 + k : Int32).toInt = 34 + k.toInt := ti_add (show (34 : Int32).toInt = 34 from rfl) rfl (by omega)
  have e40 : (40 + k : Int32).toInt = 40 + k.toInt := ti_add (show (40 : Int32).toInt = 40 from rfl) rfl (by omega)
  have i34 : Int32.toNatClampNeg (34 + k) = 34 + nn9 k := by
    have e3 : Int32.toNatClampNeg (34 + k) = (34 + k : Int32).toInt.toNat := rfl
    rw [e3, e34]; omega
  have i40 : Int32.toNatClampNeg (40 + k) = 40 + nn9 k := by
    have e3 : Int32.toNatClampNeg (40 + k) = (40 + k : Int32).toInt.toNat := rfl
    rw [e3, e40]; omega
  refine w_X12_lackOf ⟨vp_of e34 (by omega) (by omega), vp_of e40 (by omega) (by omega), ?_⟩
  rw [i34, i40, d1, d2]
  refine px_shareOf hs (fun x hx => ⟨vk, ?_⟩)
  rw [ik, h.2.1 _ nk]
  exact px_sumOf hh (fun y hy => hQ _ (lk_tl hs hx hy))
end STL
end PT13x10
section PT13x11
/-! ===== both sides' stores and shares at once: HS9 o M s s2: the reference holds s, the class s2 ===== -/
noncomputable def HS9 (o M : Nat) (s s2 : StS9) (du : Du9) (I : Im) : Prop := BkA o M s2 I ∧ BkR M s I ∧ StB M s ∧ StB M s2 ∧ DuA o M du I ∧ DuR M du I ∧ M ≤ 6
section STF
variable {I I2 : Im} {J J2 : Jm} {o M : Nat} {s s2 : StS9} {du : Du9}
theorem BkR.frC (ho : o = 9 ∨ o = 15) (h : BkR M s I) (hF : FrCk o I J I2 J2) : BkR M s I2 := by
  have e : I2 102 = I 102 := hF.c (fun k q => by rcases q with (q | q | q) | q <;> omega)
  unfold BkR
  rw [e]
  exact h
theorem BkA.frM (ho : o = 9 ∨ o = 15) (h : BkA o M s I) (hF : FrMk I J I2 J2) : BkA o M s I2 := by
  have e1 : I2 (o + 1) = I (o + 1) := hF.c (fun k q => by rcases q with q | q <;> omega)
  have e5 : I2 (o + 5) = I (o + 5) := hF.c (fun k q => by rcases q with q | q <;> omega)
  have e0 : I2 o = I o := hF.c (fun k q => by rcases q with q | q <;> omega)
  unfold BkA
  rw [e1, e5, e0]
  exact h
theorem DuA.frC (ho : o = 9 ∨ o = 15) (h : DuA o M du I) (hF : FrCk o I J I2 J2) : DuA o M du I2 := by
  have e3 : I2 (o + 3) = I (o + 3) := hF.c (fun k q => by rcases q with (q | q | q) | q <;> omega)
  have e4 : I2 (o + 4) = I (o + 4) := hF.c (fun k q => by rcases q with (q | q | q) | q <;> omega)
  unfold DuA
  rw [e3, e4]
  exact h
theorem DuA.frM (ho : o = 9 ∨ o = 15) (h : DuA o M du I) (hF : FrMk I J I2 J2) : DuA o M du I2 := by
  have e3 : I2 (o + 3) = I (o + 3) := hF.c (fun k q => by rcases q with q | q <;> omega)
  have e4 : I2 (o + 4) = I (o + 4) := hF.c (fun k q => by rcases q with q | q <;> omega)
  unfold DuA
  rw [e3, e4]
  exact h
theorem DuR.frC (ho : o = 9 ∨ o = 15) (h : DuR M du I) (hF : FrCk o I J I2 J2) : DuR M du I2 := by
  have e : I2 102 = I 102 := hF.c (fun k q => by rcases q with (q | q | q) | q <;> omega)
  unfold DuR
  rw [e]
  exact h
theorem DuR.frM (hM : M ≤ 6) (h : DuR M du I) (hF : FrMk I J I2 J2) : DuR M du I2 := fun k hk =>
  ⟨(hF.1 102 (34 + k) (fun q => by rcases q with q | q <;> omega)).trans (h k hk).1, (hF.1 102 (40 + k) (fun q => by rcases q with q | q <;> omega)).trans (h k hk).2⟩
theorem HS9.cl {s3 : StS9} (ho : o = 9 ∨ o = 15) (h : HS9 o M s s2 du I) (hA : BkA o M s3 I2) (hB : StB M s3) (hF : FrCk o I J I2 J2) : HS9 o M s s3 du I2 :=
  ⟨hA, h.2.1.frC ho hF, h.2.2.1, hB, h.2.2.2.2.1.frC ho hF, h.2.2.2.2.2.1.frC ho hF, h.2.2.2.2.2.2⟩
theorem HS9.mf {s3 : StS9} (ho : o = 9 ∨ o = 15) (h : HS9 o M s s2 du I) (hA : BkR M s3 I2) (hB : StB M s3) (hF : FrMk I J I2 J2) : HS9 o M s3 s2 du I2 :=
  ⟨h.1.frM ho hF, hA, hB, h.2.2.2.1, h.2.2.2.2.1.frM ho hF, h.2.2.2.2.2.1.frM h.2.2.2.2.2.2 hF, h.2.2.2.2.2.2⟩
end STF
end PT13x11
section PT13x12
/-! ===== the law's calls: bake, cut, split, give, take ===== -/
section STX
variable {I : Im} {J : Jm} {R : Rm} {o M : Nat} {s : StS9} {du : Du9}
theorem cx_bake9 {e : Nat} {n : Int32} (hR : RI R) (h : HS9 (R 1 7) M s s du I) : AM (e + 3) 118 112 [.ref 1, .int n] I J R (fun x _ I2 J2 _ => x = anX (opAdd n s).1 ((opAdd n s).2.1 1) ∧ HS9 (R 1 7) M s (opAdd n s).2 du I2 ∧ FrCk (R 1 7) I J I2 J2) :=
  px_cBake hR h.1 (fun _ h2 hF => ⟨rfl, h.cl (now_9 hR) h2 h.2.2.1.add hF, hF⟩)
theorem mx_bake9 {e : Nat} {n : Int32} (ho : o = 9 ∨ o = 15) (h : HS9 o M s (opAdd n s).2 du I) : AM (e + 2) 262 112 [.ref 97, .int n] I J R (fun x _ I2 J2 _ => x = anX (opAdd n s).1 ((opAdd n s).2.1 1) ∧ HS9 o M (opAdd n s).2 (opAdd n s).2 du I2 ∧ FrMk I J I2 J2) :=
  px_mBake h.2.1 (fun _ h2 hF => ⟨rfl, h.mf ho h2 h.2.2.2.1 hF, hF⟩)
theorem cx_cut9 {e : Nat} {d a b : Int32} (hR : RI R) (h : HS9 (R 1 7) M s s du I) : AM (e + 3) 119 112 [.ref 1, .int d, .int a, .int b] I J R (fun x _ I2 J2 _ => x = anX (opCut d a b s).1 (pcR (opCut d a b s).2.1 30 0) ∧ HS9 (R 1 7) M s (opCut d a b s).2 du I2 ∧ FrCk (R 1 7) I J I2 J2) :=
  px_cCut hR h.1 (fun _ h2 hF => ⟨rfl, h.cl (now_9 hR) h2 h.2.2.1.cut hF, hF⟩)
theorem mx_cut9 {e : Nat} {d a b : Int32} (ho : o = 9 ∨ o = 15) (h : HS9 o M s (opCut d a b s).2 du I) : AM (e + 3) 258 112 [.ref 97, .int d, .int a, .int b] I J R (fun x _ I2 J2 _ => x = anX (opCut d a b s).1 (pcR (opCut d a b s).2.1 30 0) ∧ HS9 o M (opCut d a b s).2 (opCut d a b s).2 du I2 ∧ FrMk I J I2 J2) :=
  px_mCut h.2.1 h.2.2.1.lo (fun _ h2 hF => ⟨rfl, h.mf ho h2 h.2.2.2.1 hF, hF⟩)
theorem cx_split9 {e : Nat} {d n : Int32} (hR : RI R) (h : HS9 (R 1 7) M s s du I) : AM (e + 3) 120 112 [.ref 1, .int d, .int n] I J R (fun x _ I2 J2 _ => x = anX (opSplit d n s).1 (pcR (opSplit d n s).2.1 30 0) ∧ HS9 (R 1 7) M s (opSplit d n s).2 du I2 ∧ FrCk (R 1 7) I J I2 J2) :=
  px_cSplit hR h.1 (fun _ h2 hF => ⟨rfl, h.cl (now_9 hR) h2 h.2.2.1.split hF, hF⟩)
theorem mx_split9 {e : Nat} {d n : Int32} (ho : o = 9 ∨ o = 15) (h : HS9 o M s (opSplit d n s).2 du I) : AM (e + 3) 260 112 [.ref 97, .int d, .int n] I J R (fun x _ I2 J2 _ => x = anX (opSplit d n s).1 (pcR (opSplit d n s).2.1 30 0) ∧ HS9 o M (opSplit d n s).2 (opSplit d n s).2 du I2 ∧ FrMk I J I2 J2) :=
  px_mSplit h.2.1 h.2.2.1.lo (fun _ h2 hF => ⟨rfl, h.mf ho h2 h.2.2.2.1 hF, hF⟩)
theorem cx_give9 {e : Nat} {k d m : Int32} (hR : RI R) (em : I (R 1 7) 4 = m) (hm : m.toInt = (M : Int) ∧ M ≤ 6) (h : HS9 (R 1 7) M s s du I) : AM (e + 3) 121 112 [.ref 1, .int k, .int d] I J R (fun x _ I2 J2 _ => x = anX (opGive m k d s).1 (pcV ((opGive m k d s).2.2.1 (nn9 k))) ∧ HS9 (R 1 7) M s (opGive m k d s).2 du I2 ∧ FrCk (R 1 7) I J I2 J2) := by
  subst em
  exact px_cGive hR hm h.1 h.2.2.1.give.2 (fun _ h2 hF => ⟨rfl, h.cl (now_9 hR) h2 h.2.2.1.give hF, hF⟩)
theorem mx_give9 {e : Nat} {k d m : Int32} (ho : o = 9 ∨ o = 15) (em : I 102 0 = m) (hm : m.toInt = (M : Int) ∧ M ≤ 6) (h : HS9 o M s (opGive m k d s).2 du I) : AM (e + 3) 264 112 [.ref 97, .int k, .int d] I J R (fun x _ I2 J2 _ => x = anX (opGive m k d s).1 (pcV ((opGive m k d s).2.2.1 (nn9 k))) ∧ HS9 o M (opGive m k d s).2 (opGive m k d s).2 du I2 ∧ FrMk I J I2 J2) := by
  subst em
  exact px_mGive h.2.1 hm h.2.2.1.lo h.2.2.1.hv0 (fun _ h2 hF => ⟨rfl, h.mf ho h2 h.2.2.2.1 hF, hF⟩)
theorem cx_take9 {e : Nat} {k d m : Int32} (hR : RI R) (em : I (R 1 7) 4 = m) (hm : m.toInt = (M : Int) ∧ M ≤ 6) (h : HS9 (R 1 7) M s s du I) : AM (e + 3) 122 112 [.ref 1, .int k, .int d] I J R (fun x _ I2 J2 _ => x = anX (opTake m k d s).1 (pcV ((opTake m k d s).2.2.1 (nn9 k))) ∧ HS9 (R 1 7) M s (opTake m k d s).2 du I2 ∧ FrCk (R 1 7) I J I2 J2) := by
  subst em
  exact px_cTake hR hm h.1 h.2.2.1.take.2 (fun _ h2 hF => ⟨rfl, h.cl (now_9 hR) h2 h.2.2.1.take hF, hF⟩)
theorem mx_take9 {e : Nat} {k d m : Int32} (ho : o = 9 ∨ o = 15) (em : I 102 0 = m) (hm : m.toInt = (M : Int) ∧ M ≤ 6) (h : HS9 o M s (opTake m k d s).2 du I) : AM (e + 3) 266 112 [.ref 97, .int k, .int d] I J R (fun x _ I2 J2 _ => x = anX (opTake m k d s).1 (pcV ((opTake m k d s).2.2.1 (nn9 k))) ∧ HS9 o M (opTake m k d s).2 (opTake m k d s).2 du I2 ∧ FrMk I J I2 J2) := by
  subst em
  exact px_mTake h.2.1 hm h.2.2.1.hi h.2.2.1.hv0 (fun _ h2 hF => ⟨rfl, h.mf ho h2 h.2.2.2.1 hF, hF⟩)
end STX
end PT13x12
