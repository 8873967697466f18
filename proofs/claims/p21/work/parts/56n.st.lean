/-! ===== the store's operations: the reference's ===== -/
noncomputable def BkR (M : Nat) (s : StS9) (I : Im) : Prop := (∀ d, 1 ≤ d → d ≤ 30 → I 102 (3 + d) = s.1 d) ∧ (∀ k, k < M → I 102 (46 + k) = s.2.1 k) ∧ I 102 2 = s.2.2
noncomputable abbrev WRs : Nat → Nat → Prop := fun c k => c = 102 ∧ ((4 ≤ k ∧ k ≤ 33) ∨ (46 ≤ k ∧ k ≤ 51) ∨ k = 2)
noncomputable abbrev FrRs (I : Im) (J : Jm) (I2 : Im) (J2 : Jm) : Prop := FrW WRs nV I J I2 J2
noncomputable def b9 (x : Int32) : Int32 := if x = 0 then 1 else 0
theorem b9_0 : b9 0 = 1 := rfl
theorem b9_7 : b9 7 = 0 := rfl
theorem b9_9 : b9 9 = 0 := rfl
theorem sq_nI {d : Int32} (h : sq9 d) : nI (nn9 d) = d := by
  obtain ⟨e, n1, n2⟩ := sq_nn h
  exact Int32.toInt_inj.mp (by rw [nI_toInt (by omega)]; exact e.symm)
theorem ix_st {d : Int32} (h : sq9 d) : Int32.toNatClampNeg ((4 + d) - 1) = 3 + nn9 d ∧ vp_in ((4 + d) - 1) 1620 := by
  obtain ⟨e, n1, n2⟩ := sq_nn h
  have e1 : (4 + d : Int32).toInt = 4 + (nn9 d : Int) := ti_add (show (4 : Int32).toInt = 4 from rfl) e (by omega)
  have e2 : (4 + d - 1 : Int32).toInt = 4 + (nn9 d : Int) - 1 := ti_sub e1 (show (1 : Int32).toInt = 1 from rfl) (by omega)
  have e3 : Int32.toNatClampNeg (4 + d - 1) = (4 + d - 1 : Int32).toInt.toNat := rfl
  exact ⟨by rw [e3, e2]; omega, vp_of (a := 4 + (nn9 d : Int) - 1) e2 (by omega) (by omega)⟩
theorem ix_hv {M : Nat} {k m : Int32} (h : (0 : Int32) ≤ k ∧ k < m) (hm : m.toInt = (M : Int) ∧ M ≤ 6) : Int32.toNatClampNeg (46 + k) = 46 + nn9 k ∧ vp_in (46 + k) 1620 ∧ nn9 k < M := by
  obtain ⟨h1, h2⟩ := h
  rw [le_i, show (0 : Int32).toInt = 0 from rfl] at h1
  rw [Int32.lt_iff_toInt_lt] at h2
  have e1 : (46 + k : Int32).toInt = 46 + k.toInt := ti_add (show (46 : Int32).toInt = 46 from rfl) rfl (by omega)
  have e3 : Int32.toNatClampNeg (46 + k) = (46 + k : Int32).toInt.toNat := rfl
  have e4 : nn9 k = k.toInt.toNat := rfl
  exact ⟨by rw [e3, e1, e4]; omega, vp_of (a := 46 + k.toInt) e1 (by omega) (by omega), by rw [e4]; omega⟩
theorem BkR.st {M k : Nat} {s : StS9} {v : Int32} {I : Im} (h : BkR M s I) (hk : 1 ≤ k ∧ k ≤ 30) : BkR M (upd s.1 k v, s.2) (uI I 102 (3 + k) v) := by
  obtain ⟨h1, h2, h3⟩ := h
  refine ⟨fun d a b => ?_, fun i hi => (rd_k (by omega)).trans (h2 i hi), (rd_k (by omega)).trans h3⟩
  by_cases q : d = k
  · subst q; rw [rd_eq]; exact upd_at9.symm
  · rw [rd_k (by omega)]; exact (h1 d a b).trans (upd_ne9 q).symm
theorem BkR.hv {M k : Nat} {s : StS9} {v : Int32} {I : Im} (h : BkR M s I) (hk : k < M) : BkR M (s.1, upd s.2.1 k v, s.2.2) (uI I 102 (46 + k) v) := by
  obtain ⟨h1, h2, h3⟩ := h
  refine ⟨fun d a b => (rd_k (by omega)).trans (h1 d a b), fun i hi => ?_, (rd_k (by omega)).trans h3⟩
  by_cases q : i = k
  · subst q; rw [rd_eq]; exact upd_at9.symm
  · rw [rd_k (by omega)]; exact (h2 i hi).trans (upd_ne9 q).symm
theorem BkR.ct {M : Nat} {s : StS9} {v : Int32} {I : Im} (h : BkR M s I) : BkR M (s.1, s.2.1, v) (uI I 102 2 v) := by
  obtain ⟨h1, h2, h3⟩ := h
  exact ⟨fun d a b => (rd_k (by omega)).trans (h1 d a b), fun i hi => (rd_k (by omega)).trans (h2 i hi), rd_eq⟩
theorem ov_c (x u w : Int32) : x + 1 + w - u = x - u + 1 + w := by
  rw [Int32.sub_eq_add_neg, Int32.sub_eq_add_neg, Int32.add_assoc x 1 w, Int32.add_assoc x (1 + w) (-u), Int32.add_comm (1 + w) (-u), ← Int32.add_assoc x (-u) (1 + w), ← Int32.add_assoc (x + -u) 1 w]
theorem ov_c2 (x u w : Int32) : x + 1 + w - u = x - u + w + 1 := by
  rw [ov_c, Int32.add_assoc (x - u) 1 w, Int32.add_comm 1 w, ← Int32.add_assoc (x - u) w 1]
noncomputable def ab9 (d a b : Nat) : Bool := Nat.beq d 0 || (Nat.beq a 0 || (Nat.beq b 0 || (decide (pt a + pt b = pt d) == decide (a * b = d * (a + b)))))
set_option maxRecDepth 100000 in
theorem ab9_all : (List.range 31).all (fun d => (List.range 31).all (fun a => (List.range 31).all (fun b => ab9 d a b))) = true := by decide +kernel
theorem beq_0 {d : Nat} (h : 1 ≤ d) : Nat.beq d 0 = false := by
  cases d with
  | zero => omega
  | succ d => rfl
theorem pt_ab' (d : Nat) (hd : d < 31) (a : Nat) (ha : a < 31) (b : Nat) (hb : b < 31) (d1 : 1 ≤ d) (a1 : 1 ≤ a) (b1 : 1 ≤ b) : pt a + pt b = pt d ↔ a * b = d * (a + b) := by
  have h1 := List.all_eq_true.mp ab9_all d (List.mem_range.mpr hd)
  have h2 := List.all_eq_true.mp h1 a (List.mem_range.mpr ha)
  have h3 : ab9 d a b = true := List.all_eq_true.mp h2 b (List.mem_range.mpr hb)
  unfold ab9 at h3
  rw [beq_0 d1, beq_0 a1, beq_0 b1, Bool.false_or, Bool.false_or, Bool.false_or] at h3
  exact decide_eq_decide.mp (eq_of_beq h3)
section STR
variable {M : Nat} {I : Im} {J : Jm} {R : Rm} {Q : Qt}
theorem px_parts9 {e : Nat} {d : Int32} (h : sq9 d) (hQ : ∀ y : Int64, y.toInt = pt (nn9 d) → Q 0 y I J R) : AM (e + 1) 240 112 [.int d] I J R Q := by
  obtain ⟨-, n1, n2⟩ := sq_nn h
  have k := px_parts (d := e) (I := I) (J := J) (R := R) (Q := Q) n1 n2 hQ
  rw [sq_nI h] at k
  exact k
theorem ab_i {d a b : Int32} (hd : sq9 d) (ha : sq9 a) (hb : sq9 b) : (pt (nn9 a) + pt (nn9 b) = pt (nn9 d)) ↔ a * b = d * (a + b) := by
  obtain ⟨-, d1, d2⟩ := sq_nn hd
  obtain ⟨-, a1, a2⟩ := sq_nn ha
  obtain ⟨-, b1, b2⟩ := sq_nn hb
  rw [pt_ab' (nn9 d) (by omega) (nn9 a) (by omega) (nn9 b) (by omega) d1 a1 b1]
  have m1 : nn9 a * nn9 b ≤ 30 * 30 := Nat.mul_le_mul a2 b2
  have m2 : nn9 d * (nn9 a + nn9 b) ≤ 30 * 60 := Nat.mul_le_mul d2 (by omega)
  have k1 : a * b = nI (nn9 a * nn9 b) := by
    rw [← nI_mul (by omega) (by omega) (by omega), sq_nI ha, sq_nI hb]
  have k2 : d * (a + b) = nI (nn9 d * (nn9 a + nn9 b)) := by
    rw [← nI_mul (by omega) (by omega) (by omega), ← nI_add, sq_nI ha, sq_nI hb, sq_nI hd]
  rw [k1, k2, nI_eq (by omega) (by omega)]
theorem leaf9 {X Y u v : Int32} (hx : X = u) (hy : Y = v) (hQ : Q (if 99 < u ∨ 99 < v then 1 else 0) 0 I J R) : ((99 : Int32) < X → (((1 : Int32) = 0 ∨ (1 : Int32) = 1) ∧ Q 1 0 I J R)) ∧ (¬ (99 : Int32) < X → ((Y ≤ 99 → (((0 : Int32) = 0 ∨ (0 : Int32) = 1) ∧ Q 0 0 I J R)) ∧ (¬ Y ≤ 99 → (((1 : Int32) = 0 ∨ (1 : Int32) = 1) ∧ Q 1 0 I J R)))) := by
  subst hx
  subst hy
  refine ⟨fun c => ⟨Or.inr rfl, ?_⟩, fun c => ⟨fun c2 => ⟨Or.inl rfl, ?_⟩, fun c2 => ⟨Or.inr rfl, ?_⟩⟩⟩
  · rw [if_pos (Or.inl c)] at hQ; exact hQ
  · rw [if_neg (fun z => z.elim c (ile.mpr c2))] at hQ; exact hQ
  · rw [if_pos (Or.inr (Decidable.not_not.mp (fun z => c2 (ile.mp z))))] at hQ; exact hQ
theorem px_isOver {e : Nat} {d a b : Int32} {s : StS9} (ha : sq9 a) (hb : sq9 b) (h : BkR M s I) (hQ : Q (if 99 < ov9 s.1 a d a b ∨ 99 < ov9 s.1 b d a b then 1 else 0) 0 I J R) : AM (e + 1) 256 112 [.ref 97, .int d, .int a, .int b] I J R Q := by
  obtain ⟨-, a1, a2⟩ := sq_nn ha
  obtain ⟨-, b1, b2⟩ := sq_nn hb
  obtain ⟨ia, va⟩ := ix_st ha
  obtain ⟨ib, vb⟩ := ix_st hb
  have sa := h.1 _ a1 a2
  have sb := h.1 _ b1 b2
  have ea : ov9 s.1 a d a b = s.1 (nn9 a) - (if a = d then 1 else 0) + 1 + (if a = b then 1 else 0) := by
    unfold ov9
    rw [if_pos (rfl : a = a)]
  have eb : ov9 s.1 b d a b = s.1 (nn9 b) - (if b = d then 1 else 0) + (if b = a then 1 else 0) + 1 := by
    unfold ov9
    rw [if_pos (rfl : b = b)]
  refine w_X12_isOver ⟨va, ?_⟩
  rw [ia, sa]
  exact ⟨fun c1 => ⟨fun c2 => ⟨vb, by rw [ib, sb]; exact ⟨fun c3 => ⟨fun c4 => leaf9 ((ov_c _ _ _).trans (by rw [ea, if_neg c2, if_neg c1])) ((ov_c2 _ _ _).trans (by rw [eb, if_neg c4, if_neg (fun z => c3 z.symm)])) hQ, fun c4 => leaf9 ((ov_c _ _ _).trans (by rw [ea, if_neg c2, if_neg c1])) ((ov_c2 _ _ _).trans (by rw [eb, if_pos c4, if_neg (fun z => c3 z.symm)])) hQ⟩, fun c3 => ⟨fun c4 => leaf9 ((ov_c _ _ _).trans (by rw [ea, if_neg c2, if_neg c1])) ((ov_c2 _ _ _).trans (by rw [eb, if_neg c4, if_pos c3.symm])) hQ, fun c4 => leaf9 ((ov_c _ _ _).trans (by rw [ea, if_neg c2, if_neg c1])) ((ov_c2 _ _ _).trans (by rw [eb, if_pos c4, if_pos c3.symm])) hQ⟩⟩⟩, fun c2 => ⟨vb, by rw [ib, sb]; exact ⟨fun c3 => ⟨fun c4 => leaf9 ((ov_c _ _ _).trans (by rw [ea, if_pos c2, if_neg c1])) ((ov_c2 _ _ _).trans (by rw [eb, if_neg c4, if_neg (fun z => c3 z.symm)])) hQ, fun c4 => leaf9 ((ov_c _ _ _).trans (by rw [ea, if_pos c2, if_neg c1])) ((ov_c2 _ _ _).trans (by rw [eb, if_pos c4, if_neg (fun z => c3 z.symm)])) hQ⟩, fun c3 => ⟨fun c4 => leaf9 ((ov_c _ _ _).trans (by rw [ea, if_pos c2, if_neg c1])) ((ov_c2 _ _ _).trans (by rw [eb, if_neg c4, if_pos c3.symm])) hQ, fun c4 => leaf9 ((ov_c _ _ _).trans (by rw [ea, if_pos c2, if_neg c1])) ((ov_c2 _ _ _).trans (by rw [eb, if_pos c4, if_pos c3.symm])) hQ⟩⟩⟩⟩, fun c1 => ⟨fun c2 => ⟨vb, by rw [ib, sb]; exact ⟨fun c3 => ⟨fun c4 => leaf9 ((ov_c _ _ _).trans (by rw [ea, if_neg c2, if_pos c1])) ((ov_c2 _ _ _).trans (by rw [eb, if_neg c4, if_neg (fun z => c3 z.symm)])) hQ, fun c4 => leaf9 ((ov_c _ _ _).trans (by rw [ea, if_neg c2, if_pos c1])) ((ov_c2 _ _ _).trans (by rw [eb, if_pos c4, if_neg (fun z => c3 z.symm)])) hQ⟩, fun c3 => ⟨fun c4 => leaf9 ((ov_c _ _ _).trans (by rw [ea, if_neg c2, if_pos c1])) ((ov_c2 _ _ _).trans (by rw [eb, if_neg c4, if_pos c3.symm])) hQ, fun c4 => leaf9 ((ov_c _ _ _).trans (by rw [ea, if_neg c2, if_pos c1])) ((ov_c2 _ _ _).trans (by rw [eb, if_pos c4, if_pos c3.symm])) hQ⟩⟩⟩, fun c2 => ⟨vb, by rw [ib, sb]; exact ⟨fun c3 => ⟨fun c4 => leaf9 ((ov_c _ _ _).trans (by rw [ea, if_pos c2, if_pos c1])) ((ov_c2 _ _ _).trans (by rw [eb, if_neg c4, if_neg (fun z => c3 z.symm)])) hQ, fun c4 => leaf9 ((ov_c _ _ _).trans (by rw [ea, if_pos c2, if_pos c1])) ((ov_c2 _ _ _).trans (by rw [eb, if_pos c4, if_neg (fun z => c3 z.symm)])) hQ⟩, fun c3 => ⟨fun c4 => leaf9 ((ov_c _ _ _).trans (by rw [ea, if_pos c2, if_pos c1])) ((ov_c2 _ _ _).trans (by rw [eb, if_neg c4, if_pos c3.symm])) hQ, fun c4 => leaf9 ((ov_c _ _ _).trans (by rw [ea, if_pos c2, if_pos c1])) ((ov_c2 _ _ _).trans (by rw [eb, if_pos c4, if_pos c3.symm])) hQ⟩⟩⟩⟩⟩
theorem px_bakes {e : Nat} {n : Int32} {s : StS9} (hn : (1 : Int32) ≤ n ∧ n ≤ 99) (h : BkR M s I) (hQ : ∀ I2, BkR M (opAdd n s).2 I2 → FrRs I J I2 J → Q (b9 (opAdd n s).1) 0 I2 J R) : AM (e + 1) 261 112 [.ref 97, .int n] I J R Q := by
  have e0 : opAdd n s = if s.1 1 + n ≤ 99 then (0, upd s.1 1 (s.1 1 + n), s.2) else (7, s) := if_pos hn
  have t4 : Int32.toNatClampNeg 4 = 3 + 1 := rfl
  have v4 : vp_in 4 1620 := vp_of (a := 4) rfl (by decide) (by decide)
  have e1 : I 102 (3 + 1) = s.1 1 := h.1 1 (by decide) (by decide)
  rw [e0] at hQ
  refine w_X12_bakes ⟨v4, ?_⟩
  rw [t4, e1]
  refine ⟨fun c => ⟨v4, v4, Or.inr rfl, ?_⟩, fun c => ⟨Or.inl rfl, ?_⟩⟩
  · rw [if_pos c] at hQ
    have k : Q (b9 0) 0 _ J R := hQ _ (h.st (by decide)) (FrW.rf.u ⟨rfl, Or.inl ⟨by decide, by decide⟩⟩)
    rw [b9_0] at k
    exact k
  · rw [if_neg c] at hQ
    have k : Q (b9 7) 0 I J R := hQ I h FrW.rf
    rw [b9_7] at k
    exact k
theorem px_cuts {e : Nat} {d a b : Int32} {s : StS9} (hd : sq9 d) (ha : sq9 a) (hb : sq9 b) (h : BkR M s I) (h0 : (0 : Int32) ≤ s.1 (nn9 d)) (hQ : ∀ I2, BkR M (opCut d a b s).2 I2 → FrRs I J I2 J → Q (b9 (opCut d a b s).1) 0 I2 J R) : AM (e + 2) 257 112 [.ref 97, .int d, .int a, .int b] I J R Q := by
  have e0 : opCut d a b s = if 99 < ov9 s.1 a d a b ∨ 99 < ov9 s.1 b d a b then (7, s) else if ¬ s.1 (nn9 d) < 1 ∧ a * b = d * (a + b) then (0, ct9 s.1 d a b, s.2.1, s.2.2 + 1) else (9, s) := if_pos ⟨hd, ha, hb⟩
  rw [e0] at hQ
  have no : ¬ (¬ (99 < ov9 s.1 a d a b ∨ 99 < ov9 s.1 b d a b) ∧ (¬ s.1 (nn9 d) < 1 ∧ a * b = d * (a + b))) → Q 0 0 I J R := fun hn => by
    by_cases q : 99 < ov9 s.1 a d a b ∨ 99 < ov9 s.1 b d a b
    · rw [if_pos q] at hQ
      have k : Q (b9 7) 0 I J R := hQ I h FrW.rf
      rw [b9_7] at k
      exact k
    · rw [if_neg q, if_neg (fun z => hn ⟨q, z⟩)] at hQ
      have k : Q (b9 9) 0 I J R := hQ I h FrW.rf
      rw [b9_9] at k
      exact k
  obtain ⟨id, vd⟩ := ix_st hd
  obtain ⟨ia, va⟩ := ix_st ha
  obtain ⟨ib, vb⟩ := ix_st hb
  have nd := (sq_nn hd).2
  have na := (sq_nn ha).2
  have nb := (sq_nn hb).2
  have sd := h.1 _ nd.1 nd.2
  have t2 : Int32.toNatClampNeg 2 = 2 := rfl
  have v2 : vp_in 2 1620 := vp_of (a := 2) rfl (by decide) (by decide)
  refine w_X12_cuts ⟨vd, ?_⟩
  rw [id, ia, ib, t2, sd]
  refine ⟨fun c => ⟨Or.inl rfl, no (fun z => z.2.1 (by rw [c]; decide))⟩, fun c => px_parts9 ha (fun y1 h1 => px_parts9 hb (fun y2 h2 => px_parts9 hd (fun y3 h3 => ?_)))⟩
  have c1 : ¬ s.1 (nn9 d) < 1 := fun z => c (Int32.toInt_inj.mp (by
    rw [Int32.lt_iff_toInt_lt, show (1 : Int32).toInt = 1 from rfl] at z
    rw [le_i, show (0 : Int32).toInt = 0 from rfl] at h0
    rw [show (0 : Int32).toInt = 0 from rfl]
    omega))
  obtain ⟨p1, p2, -⟩ := pt_b na.1 na.2
  obtain ⟨q1, q2, -⟩ := pt_b nb.1 nb.2
  have h12 : (y1 + y2).toInt = pt (nn9 a) + pt (nn9 b) := tl_add h1 h2 (by omega)
  refine ⟨fun c2 => ⟨Or.inl rfl, ?_⟩, fun c2 => px_isOver ha hb h (fun _ => ?_)⟩
  · rw [lg_cmp_eq] at c2
    have c3 := cl_ne h12 h3 c2
    exact no (fun z => c3 ((ab_i hd ha hb).mpr z.2.2))
  · rw [lg_cmp_eq] at c2
    have c3 := (ab_i hd ha hb).mp (cl_eq h12 h3 c2)
    by_cases q : 99 < ov9 s.1 a d a b ∨ 99 < ov9 s.1 b d a b
    · rw [if_pos q]
      exact ⟨fun z => absurd z (by decide), fun _ => ⟨Or.inl rfl, no (fun z => z.1 q)⟩⟩
    · rw [if_neg q]
      rw [if_neg q, if_pos ⟨c1, c3⟩] at hQ
      refine ⟨fun _ => ⟨vd, vd, va, va, vb, vb, v2, v2, Or.inr rfl, ?_⟩, fun z => absurd rfl z⟩
      have g1 := h.st (k := nn9 d) (v := s.1 (nn9 d) - 1) nd
      have f1 := g1.1 _ na.1 na.2
      rw [sd, f1]
      have g2 := g1.st (k := nn9 a) (v := upd s.1 (nn9 d) (s.1 (nn9 d) - 1) (nn9 a) + 1) na
      have f2 := g2.1 _ nb.1 nb.2
      rw [f2]
      have g3 := g2.st (k := nn9 b) (v := upd (upd s.1 (nn9 d) (s.1 (nn9 d) - 1)) (nn9 a) (upd s.1 (nn9 d) (s.1 (nn9 d) - 1) (nn9 a) + 1) (nn9 b) + 1) nb
      have f3 := g3.2.2
      rw [f3]
      have k : Q (b9 0) 0 _ J R := hQ _ (g3.ct (v := s.2.2 + 1)) ((((FrW.rf.u ⟨rfl, Or.inl ⟨by omega, by omega⟩⟩).u ⟨rfl, Or.inl ⟨by omega, by omega⟩⟩).u ⟨rfl, Or.inl ⟨by omega, by omega⟩⟩).u ⟨rfl, Or.inr (Or.inr rfl)⟩)
      rw [b9_0] at k
      exact k
theorem px_gives {e : Nat} {k d m : Int32} {s : StS9} (hk : (0 : Int32) ≤ k ∧ k < m) (hm : m.toInt = (M : Int) ∧ M ≤ 6) (hd : sq9 d) (h : BkR M s I) (h0 : (0 : Int32) ≤ s.1 (nn9 d)) (hh : 0 ≤ (s.2.1 (nn9 k)).toInt) (hQ : ∀ I2, BkR M (opGive m k d s).2 I2 → FrRs I J I2 J → Q (b9 (opGive m k d s).1) 0 I2 J R) : AM (e + 2) 263 112 [.ref 97, .int k, .int d] I J R Q := by
  have e0 : opGive m k d s = if ¬ s.1 (nn9 d) < 1 ∧ inS (s.2.1 (nn9 k)) d = false then (0, upd s.1 (nn9 d) (s.1 (nn9 d) - 1), upd s.2.1 (nn9 k) (s.2.1 (nn9 k) ||| biS d), s.2.2) else (9, s) := if_pos ⟨hk, hd⟩
  rw [e0] at hQ
  have no : ¬ (¬ s.1 (nn9 d) < 1 ∧ inS (s.2.1 (nn9 k)) d = false) → Q 0 0 I J R := fun hn => by
    rw [if_neg hn] at hQ
    have z : Q (b9 9) 0 I J R := hQ I h FrW.rf
    rw [b9_9] at z
    exact z
  obtain ⟨id, vd⟩ := ix_st hd
  obtain ⟨ik, vk, nk⟩ := ix_hv hk hm
  have nd := (sq_nn hd).2
  have sd := h.1 _ nd.1 nd.2
  have sk := h.2.1 _ nk
  refine w_X12_gives ⟨vd, ?_⟩
  rw [id, ik, sd, sk]
  refine ⟨fun c => ⟨Or.inl rfl, no (fun z => z.1 (by rw [c]; decide))⟩, fun c => ⟨vk, px_isOf hh hd.1 hd.2 (fun hi _ => ⟨fun z => absurd z (by decide), fun _ => ⟨Or.inl rfl, no (fun z => by rw [hi] at z; exact absurd z.2 (by decide))⟩⟩) (fun hi _ => ⟨fun _ => ⟨vd, vd, vk, vk, Or.inr rfl, ?_⟩, fun z => absurd rfl z⟩)⟩⟩
  have c1 : ¬ s.1 (nn9 d) < 1 := fun z => c (Int32.toInt_inj.mp (by
    rw [Int32.lt_iff_toInt_lt, show (1 : Int32).toInt = 1 from rfl] at z
    rw [le_i, show (0 : Int32).toInt = 0 from rfl] at h0
    rw [show (0 : Int32).toInt = 0 from rfl]
    omega))
  rw [if_pos ⟨c1, hi⟩] at hQ
  have g1 := h.st (k := nn9 d) (v := s.1 (nn9 d) - 1) nd
  have f1 := g1.2.1 _ nk
  rw [sd, f1]
  have z : Q (b9 0) 0 _ J R := hQ _ (g1.hv (k := nn9 k) (v := s.2.1 (nn9 k) ||| biS d) nk) ((FrW.rf.u ⟨rfl, Or.inl ⟨by omega, by omega⟩⟩).u ⟨rfl, Or.inr (Or.inl ⟨by omega, by omega⟩)⟩)
  rw [b9_0] at z
  exact z
end STR
