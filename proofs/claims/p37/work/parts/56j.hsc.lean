section PT13x2
section STC
variable {M : Nat} {I : Im} {J : Jm} {R : Rm} {Q : Qt}
theorem px_handBack {e o : Nat} {k d : Int32} {s : StS9} (hO : isO 112 o 0 = true) (hm : (I o 4).toInt = (M : Int) ∧ M ≤ 6) (h : BkA o M s I) (hQ : ∀ I2, BkA o M (opTake (I o 4) k d s).2 I2 → FrBk o I J I2 J → Q (opTake (I o 4) k d s).1 0 I2 J R) : AM (e + 2) 19 112 [.ref o, .int k, .int d] I J R Q := by
  obtain ⟨a0, l0, -⟩ := fa_0_0 hO
  obtain ⟨a5, l5, -⟩ := fa_0_8 hO
  have no : ¬ (((0 : Int32) ≤ k ∧ k < I o 4) ∧ sq9 d) → Q 2 0 I J R := fun c => by
    have e1 : opTake (I o 4) k d s = (2, s) := if_neg c
    rw [e1] at hQ
    exact hQ I h FrW.rf
  refine w_X0_handBack (bif_t hO (px_cMan9 hO (fun hk _ => ⟨fun z => absurd z (by decide), fun _ => px_sl9 (fun hd _ => ⟨fun _ => ?_, fun z => absurd z (by decide)⟩) (fun hd _ => ⟨fun z => absurd rfl z, fun _ => no (fun y => hd y.2)⟩)⟩) (fun hk _ => ⟨fun _ => no (fun y => hk y.1), fun z => absurd rfl z⟩)))
  have e1 : opTake (I o 4) k d s = if s.1 (nn9 d) < 99 then (if inS (s.2.1 (nn9 k)) d = true then (0, upd s.1 (nn9 d) (s.1 (nn9 d) + 1), upd s.2.1 (nn9 k) (s.2.1 (nn9 k) &&& (biS d ^^^ (-1))), s.2.2) else (9, s)) else (7, s) := if_pos ⟨hk, hd⟩
  rw [e1] at hQ
  have vd : vp_in d (aL (o + 1)) := by rw [l0]; exact sq_vp hd (by decide)
  have nd := (sq_nn hd).2
  obtain ⟨nk, vk⟩ := mn_nn hk hm
  rw [← l5] at vk
  have ed : I (o + 1) (Int32.toNatClampNeg d) = s.1 (nn9 d) := h.1 _ nd.1 nd.2
  have ek : I (o + 5) (Int32.toNatClampNeg k) = s.2.1 (nn9 k) := h.2.1 _ nk
  refine bif_t hO (bif_t a0 ⟨vd, ?_⟩)
  rw [ed]
  refine ⟨fun c => bif_t hO (bif_t a5 ⟨vk, ?_⟩), fun c => ?_⟩
  · rw [ek]
    rw [if_pos c] at hQ
    refine px_isIn (fun hi _ => ⟨fun _ => ?_, fun z => absurd z (by decide)⟩) (fun hi _ => ⟨fun z => absurd rfl z, fun _ => ?_⟩)
    · rw [if_pos hi] at hQ
      refine bif_t hO (bif_t a0 ⟨vd, bif_t a0 ⟨vd, bif_t hO (bif_t a5 ⟨vk, w_X11_bit (bif_t a5 ⟨vk, ?_⟩)⟩)⟩⟩)
      have h1 := h.st (k := nn9 d) (v := s.1 (nn9 d) + 1) nd
      have e2 := h1.2.1 _ nk
      rw [ed, e2]
      exact hQ _ (h1.hv (k := nn9 k) (v := s.2.1 (nn9 k) &&& (biS d ^^^ (-1))) nk) ((FrW.rf.u (Or.inl rfl)).u (Or.inr (Or.inl rfl)))
    · rw [if_neg (by rw [hi]; decide)] at hQ
      exact hQ I h FrW.rf
  · rw [if_neg c] at hQ
    exact hQ I h FrW.rf
end STC
end PT13x2
section PT13x3
/-! ===== the store's operations: the reference's ===== -/
noncomputable def BkR (M : Nat) (s : StS9) (I : Im) : Prop := (∀ d, 1 ≤ d → d ≤ 30 → I 102 (3 + d) = s.1 d) ∧ (∀ k, k < M → I 102 (46 + k) = s.2.1 k) ∧ I 102 2 = s.2.2
noncomputable abbrev WRs : Nat → Nat → Prop := fun c k => c = 102 ∧ ((4 ≤ k ∧ k ≤ 33) ∨ (46 ≤ k ∧ k ≤ 51) ∨ k = 2)
noncomputable abbrev FrRs (I : Im) (J : Jm) (I2 : Im) (J2 : Jm) : Prop := FrW WRs nV I J I2 J2
noncomputable def b9 (x : Int32) : Int32 := if x = 0 then 1 else 0
theorem b9_0 : b9 0 = 1 := rfl
theorem b9_7 : b9 7 = 0 := rfl
theorem b9_9 : b9 9 = 0 := rfl
theorem sq_nI {d : Int32} (h : sq9 d) : nI (nn9 d) = d := by
  obtain ⟨e, n1, n2⟩ := sq_nn h
  exact Int32.toInt_inj.mp (by rw [nI_toInt (by omega)]; exact e.symm)
theorem ix_st {d : Int32} (h : sq9 d) : Int32.toNatClampNeg ((4 + d) - 1) = 3 + nn9 d ∧ vp_in ((4 + d) - 1) 1620 := by
  obtain ⟨e, n1, n2⟩ := sq_nn h
  have e1 : (4 + d : Int32).toInt = 4 + (nn9 d : Int) := ti_add (show (4 : Int32).toInt = 4 from rfl) e (by omega)
  have e2 : (4 + d - 1 : Int32).toInt = 4 + (nn9 d : Int) - 1 := ti_sub e1 (show (1 : Int32).toInt = 1 from rfl) (by omega)
  have e3 : Int32.toNatClampNeg (4 + d - 1) = (4 + d - 1 : Int32).toInt.toNat := rfl
  exact ⟨by rw [e3, e2]; omega, vp_of (a := 4 + (nn9 d : Int) - 1) e2 (by omega) (by omega)⟩
theorem ix_hv {M : Nat} {k m : Int32} (h : (0 : Int32) ≤ k ∧ k < m) (hm : m.toInt = (M : Int) ∧ M ≤ 6) : Int32.toNatClampNeg (46 + k) = 46 + nn9 k ∧ vp_in (46 + k) 1620 ∧ nn9 k < M := by
  obtain ⟨h1, h2⟩ := h
  rw [le_i, show (0 : Int32).toInt = 0 from rfl] at h1
  rw [Int32.lt_iff_toInt_lt] at h2
  have e1 : (46 + k : Int32).toInt = 46 + k.toInt := ti_add (show (46 : Int32).toInt = 46 from rfl) rfl (by omega)
  have e3 : Int32.toNatClampNeg (46 + k) = (46 + k : Int32).toInt.toNat := rfl
  have e4 : nn9 k = k.toInt.toNat := rfl
  exact ⟨by rw [e3, e1, e4]; omega, vp_of (a := 46 + k.toInt) e1 (by omega) (by omega), by rw [e4]; omega⟩
theorem BkR.st {M k : Nat} {s : StS9} {v : Int32} {I : Im} (h : BkR M s I) (hk : 1 ≤ k ∧ k ≤ 30) : BkR M (upd s.1 k v, s.2) (uI I 102 (3 + k) v) := by
  obtain ⟨h1, h2, h3⟩ := h
  refine ⟨fun d a b => ?_, fun i hi => (rd_k (by omega)).trans (h2 i hi), (rd_k (by omega)).trans h3⟩
  by_cases q : d = k
  · subst q; rw [rd_eq]; exact upd_at9.symm
  · rw [rd_k (by omega)]; exact (h1 d a b).trans (upd_ne9 q).symm
theorem BkR.hv {M k : Nat} {s : StS9} {v : Int32} {I : Im} (h : BkR M s I) (hk : k < M) : BkR M (s.1, upd s.2.1 k v, s.2.2) (uI I 102 (46 + k) v) := by
  obtain ⟨h1, h2, h3⟩ := h
  refine ⟨fun d a b => (rd_k (by omega)).trans (h1 d a b), fun i hi => ?_, (rd_k (by omega)).trans h3⟩
  by_cases q : i = k
  · subst q; rw [rd_eq]; exact upd_at9.symm
  · rw [rd_k (by omega)]; exact (h2 i hi).trans (upd_ne9 q).symm
theorem BkR.ct {M : Nat} {s : StS9} {v : Int32} {I : Im} (h : BkR M s I) : BkR M (s.1, s.2.1, v) (uI I 102 2 v) := by
  obtain ⟨h1, h2, h3⟩ := h
  exact ⟨fun d a b => (rd_k (by omega)).trans (h1 d a b), fun i hi => (rd_k (by omega)).trans (h2 i hi), rd_eq⟩
theorem ov_c (x u w : Int32) : x + 1 + w - u = x - u + 1 + w := by
  rw [Int32.sub_eq_add_neg, Int32.sub_eq_add_neg, Int32.add_assoc x 1 w, Int32.add_assoc x (1 + w) (-u), Int32.add_comm (1 + w) (-u), ← Int32.add_assoc x (-u) (1 + w), ← Int32.add_assoc (x + -u) 1 w]
theorem ov_c2 (x u w : Int32) : x + 1 + w - u = x - u + w + 1 := by
  rw [ov_c, Int32.add_assoc (x - u) 1 w, Int32.add_comm 1 w, ← Int32.add_assoc (x - u) w 1]
noncomputable def ab9 (d a b : Nat) : Bool := Nat.beq d 0 || (Nat.beq a 0 || (Nat.beq b 0 || (decide (pt a + pt b = pt d) == decide (a * b = d * (a + b)))))
set_option maxRecDepth 100000 in
theorem ab9_all : (List.range 31).all (fun d => (List.range 31).all (fun a => (List.range 31).all (fun b => ab9 d a b))) = true := by decide +kernel
theorem beq_0 {d : Nat} (h : 1 ≤ d) : Nat.beq d 0 = false := by
  cases d with
  | zero => omega
  | succ d => rfl
theorem pt_ab' (d : Nat) (hd : d < 31) (a : Nat) (ha : a < 31) (b : Nat) (hb : b < 31) (d1 : 1 ≤ d) (a1 : 1 ≤ a) (b1 : 1 ≤ b) : pt a + pt b = pt d ↔ a * b = d * (a + b) := by
  have h1 := List.all_eq_true.mp ab9_all d (List.mem_range.mpr hd)
  have h2 := List.all_eq_true.mp h1 a (List.mem_range.mpr ha)
  have h3 : ab9 d a b = true := List.all_eq_true.mp h2 b (List.mem_range.mpr hb)
  unfold ab9 at h3
  rw [beq_0 d1, beq_0 a1, beq_0 b1, Bool.false_or, Bool.false_or, Bool.false_or] at h3
  exact decide_eq_decide.mp (eq_of_beq h3)
section STR
variable {M : Nat} {I : Im} {J : Jm} {R : Rm} {Q : Qt}
theorem px_parts9 {e : Nat} {d : Int32} (h : sq9 d) (hQ : ∀ y : Int64, y.toInt = pt (nn9 d) → Q 0 y I J R) : AM (e + 1) 240 112 [.int d] I J R Q := by
  obtain ⟨-, n1, n2⟩ := sq_nn h
  have k := px_parts (d := e) (I := I) (J := J) (R := R) (Q := Q) n1 n2 hQ
  rw [sq_nI h] at k
  exact k
theorem ab_i {d a b : Int32} (hd : sq9 d) (ha : sq9 a) (hb : sq9 b) : (pt (nn9 a) + pt (nn9 b) = pt (nn9 d)) ↔ a * b = d * (a + b) := by
  obtain ⟨-, d1, d2⟩ := sq_nn hd
  obtain ⟨-, a1, a2⟩ := sq_nn ha
  obtain ⟨-, b1, b2⟩ := sq_nn hb
  rw [pt_ab' (nn9 d) (by omega) (nn9 a) (by omega) (nn9 b) (by omega) d1 a1 b1]
  have m1 : nn9 a * nn9 b ≤ 30 * 30 := Nat.mul_le_mul a2 b2
  have m2 : nn9 d * (nn9 a + nn9 b) ≤ 30 * 60 := Nat.mul_le_mul d2 (by omega)
  have k1 : a * b = nI (nn9 a * nn9 b) := by
    rw [← nI_mul (by omega) (by omega) (by omega), sq_nI ha, sq_nI hb]
  have k2 : d * (a + b) = nI (nn9 d * (nn9 a + nn9 b)) := by
    rw [← nI_mul (by omega) (by omega) (by omega), ← nI_add, sq_nI ha, sq_nI hb, sq_nI hd]
  rw [k1, k2, nI_eq (by omega) (by omega)]
theorem leaf9 {X Y u v : Int32} (hx : X = u) (hy : Y = v) (hQ : Q (if 99 < u ∨ 99 < v then 1 else 0) 0 I J R) : ((99 : Int32) < X → (((1 : Int32) = 0 ∨ (1 : Int32) = 1) ∧ Q 1 0 I J R)) ∧ (¬ (99 : Int32) < X → ((Y ≤ 99 → (((0 : Int32) = 0 ∨ (0 : Int32) = 1) ∧ Q 0 0 I J R)) ∧ (¬ Y ≤ 99 → (((1 : Int32) = 0 ∨ (1 : Int32) = 1) ∧ Q 1 0 I J R)))) := by
  subst hx
  subst hy
  refine ⟨fun c => ⟨Or.inr rfl, ?_⟩, fun c => ⟨fun c2 => ⟨Or.inl rfl, ?_⟩, fun c2 => ⟨Or.inr rfl, ?_⟩⟩⟩
  · rw [if_pos (Or.inl c)] at hQ; exact hQ
  · rw [if_neg (fun z => z.elim c (ile.mpr c2))] at hQ; exact hQ
  · rw [if_pos (Or.inr (Decidable.not_not.mp (fun z => c2 (ile.mp z))))] at hQ; exact hQ
theorem px_isOver {e : Nat} {d a b : Int32} {s : StS9} (ha : sq9 a) (hb : sq9 b) (h : BkR M s I) (hQ : Q (if 99 < ov9 s.1 a d a b ∨ 99 < ov9 s.1 b d a b then 1 else 0) 0 I J R) : AM (e + 1) 256 112 [.ref 97, .int d, .int a, .int b] I J R Q := by
  obtain ⟨-, a1, a2⟩ := sq_nn ha
  obtain ⟨-, b1, b2⟩ := sq_nn hb
  obtain ⟨ia, va⟩ := ix_st ha
  obtain ⟨ib, vb⟩ := ix_st hb
  have sa := h.1 _ a1 a2
  have sb := h.1 _ b1 b2
  have ea : ov9 s.1 a d a b = s.1 (nn9 a) - (if a = d then 1 else 0) + 1 + (if a = b then 1 else 0) := by
    unfold ov9
    rw [if_pos (rfl : a = a)]
  have eb : ov9 s.1 b d a b = s.1 (nn9 b) - (if b = d then 1 else 0) + (if b = a then 1 else 0) + 1 := by
    unfold ov9
    rw [if_pos (rfl : b = b)]
  refine w_X12_isOver ⟨va, ?_⟩
  rw [ia, sa]
  exact ⟨fun c1 => ⟨fun c2 => ⟨vb, by rw [ib, sb]; exact ⟨fun c3 => ⟨fun c4 => leaf9 ((ov_c _ _ _).trans (by rw [ea, if_neg c2, if_neg c1])) ((ov_c2 _ _ _).trans (by rw [eb, if_neg c4, if_neg (fun z => c3 z.symm)])) hQ, fun c4 => leaf9 ((ov_c _ _ _).trans (by rw [ea, if_neg c2, if_neg c1])) ((ov_c2 _ _ _).trans (by rw [eb, if_pos c4, if_neg (fun z => c3 z.symm)])) hQ⟩, fun c3 => ⟨fun c4 => leaf9 ((ov_c _ _ _).trans (by rw [ea, if_neg c2, if_neg c1])) ((ov_c2 _ _ _).trans (by rw [eb, if_neg c4, if_pos c3.symm])) hQ, fun c4 => leaf9 ((ov_c _ _ _).trans (by rw [ea, if_neg c2, if_neg c1])) ((ov_c2 _ _ _).trans (by rw [eb, if_pos c4, if_pos c3.symm])) hQ⟩⟩⟩, fun c2 => ⟨vb, by rw [ib, sb]; exact ⟨fun c3 => ⟨fun c4 => leaf9 ((ov_c _ _ _).trans (by rw [ea, if_pos c2, if_neg c1])) ((ov_c2 _ _ _).trans (by rw [eb, if_neg c4, if_neg (fun z => c3 z.symm)])) hQ, fun c4 => leaf9 ((ov_c _ _ _).trans (by rw [ea, if_pos c2, if_neg c1])) ((ov_c2 _ _ _).trans (by rw [eb, if_pos c4, if_neg (fun z => c3 z.symm)])) hQ⟩, fun c3 => ⟨fun c4 => leaf9 ((ov_c _ _ _).trans (by rw [ea, if_pos c2, if_neg c1])) ((ov_c2 _ _ _).trans (by rw [eb, if_neg c4, if_pos c3.symm])) hQ, fun c4 => leaf9 ((ov_c _ _ _).trans (by rw [ea, if_pos c2, if_neg c1])) ((ov_c2 _ _ _).trans (by rw [eb, if_pos c4, if_pos c3.symm])) hQ⟩⟩⟩⟩, fun c1 => ⟨fun c2 => ⟨vb, by rw [ib, sb]; exact ⟨fun c3 => ⟨fun c4 => leaf9 ((ov_c _ _ _).trans (by rw [ea, if_neg c2, if_pos c1])) ((ov_c2 _ _ _).trans (by rw [eb, if_neg c4, if_neg (fun z => c3 z.symm)])) hQ, fun c4 => leaf9 ((ov_c _ _ _).trans (by rw [ea, if_neg c2, if_pos c1])) ((ov_c2 _ _ _).trans (by rw [eb, if_pos c4, if_neg (fun z => c3 z.symm)])) hQ⟩, fun c3 => ⟨fun c4 => leaf9 ((ov_c _ _ _).trans (by rw [ea, if_neg c2, if_pos c1])) ((ov_c2 _ _ _).trans (by rw [eb, if_neg c4, if_pos c3.symm])) hQ, fun c4 => leaf9 ((ov_c _ _ _).trans (by rw [ea, if_neg c2, if_pos c1])) ((ov_c2 _ _ _).trans (by rw [eb, if_pos c4, if_pos c3.symm])) hQ⟩⟩⟩, fun c2 => ⟨vb, by rw [ib, sb]; exact ⟨fun c3 => ⟨fun c4 => leaf9 ((ov_c _ _ _).trans (by rw [ea, if_pos c2, if_pos c1])) ((ov_c2 _ _ _).trans (by rw [eb, if_neg c4, if_neg (fun z => c3 z.symm)])) hQ, fun c4 => leaf9 ((ov_c _ _ _).trans (by rw [ea, if_pos c2, if_pos c1])) ((ov_c2 _ _ _).trans (by rw [eb, if_pos c4, if_neg (fun z => c3 z.symm)])) hQ⟩, fun c3 => ⟨fun c4 => leaf9 ((ov_c _ _ _).trans (by rw [ea, if_pos c2, if_pos c1])) ((ov_c2 _ _ _).trans (by rw [eb, if_neg c4, if_pos c3.symm])) hQ, fun c4 => leaf9 ((ov_c _ _ _).trans (by rw [ea, if_pos c2, if_pos c1])) ((ov_c2 _ _ _).trans (by rw [eb, if_pos c4, if_pos c3.symm])) hQ⟩⟩⟩⟩⟩
end STR
end PT13x3
