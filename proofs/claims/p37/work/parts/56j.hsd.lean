section PT13x3
section STR
variable {M : Nat} {I : Im} {J : Jm} {R : Rm} {Q : Qt}
theorem px_bakes {e : Nat} {n : Int32} {s : StS9} (hn : (1 : Int32) ≤ n ∧ n ≤ 99) (h : BkR M s I) (hQ : ∀ I2, BkR M (opAdd n s).2 I2 → FrRs I J I2 J → Q (b9 (opAdd n s).1) 0 I2 J R) : AM (e + 1) 261 112 [.ref 97, .int n] I J R Q := by
  have e0 : opAdd n s = if s.1 1 + n ≤ 99 then (0, upd s.1 1 (s.1 1 + n), s.2) else (7, s) := if_pos hn
  have t4 : Int32.toNatClampNeg 4 = 3 + 1 := rfl
  have v4 : vp_in 4 1620 := vp_of (a := 4) rfl (by decide) (by decide)
  have e1 : I 102 (3 + 1) = s.1 1 := h.1 1 (by decide) (by decide)
  rw [e0] at hQ
  refine w_X12_bakes ⟨v4, ?_⟩
  rw [t4, e1]
  refine ⟨fun c => ⟨v4, v4, Or.inr rfl, ?_⟩, fun c => ⟨Or.inl rfl, ?_⟩⟩
  · rw [if_pos c] at hQ
    have k : Q (b9 0) 0 _ J R := hQ _ (h.st (by decide)) (FrW.rf.u ⟨rfl, Or.inl ⟨by decide, by decide⟩⟩)
    rw [b9_0] at k
    exact k
  · rw [if_neg c] at hQ
    have k : Q (b9 7) 0 I J R := hQ I h FrW.rf
    rw [b9_7] at k
    exact k
theorem px_cuts {e : Nat} {d a b : Int32} {s : StS9} (hd : sq9 d) (ha : sq9 a) (hb : sq9 b) (h : BkR M s I) (h0 : (0 : Int32) ≤ s.1 (nn9 d)) (hQ : ∀ I2, BkR M (opCut d a b s).2 I2 → FrRs I J I2 J → Q (b9 (opCut d a b s).1) 0 I2 J R) : AM (e + 2) 257 112 [.ref 97, .int d, .int a, .int b] I J R Q := by
  have e0 : opCut d a b s = if 99 < ov9 s.1 a d a b ∨ 99 < ov9 s.1 b d a b then (7, s) else if ¬ s.1 (nn9 d) < 1 ∧ a * b = d * (a + b) then (0, ct9 s.1 d a b, s.2.1, s.2.2 + 1) else (9, s) := if_pos ⟨hd, ha, hb⟩
  rw [e0] at hQ
  have no : ¬ (¬ (99 < ov9 s.1 a d a b ∨ 99 < ov9 s.1 b d a b) ∧ (¬ s.1 (nn9 d) < 1 ∧ a * b = d * (a + b))) → Q 0 0 I J R := fun hn => by
    by_cases q : 99 < ov9 s.1 a d a b ∨ 99 < ov9 s.1 b d a b
    · rw [if_pos q] at hQ
      have k : Q (b9 7) 0 I J R := hQ I h FrW.rf
      rw [b9_7] at k
      exact k
    · rw [if_neg q, if_neg (fun z => hn ⟨q, z⟩)] at hQ
      have k : Q (b9 9) 0 I J R := hQ I h FrW.rf
      rw [b9_9] at k
      exact k
  obtain ⟨id, vd⟩ := ix_st hd
  obtain ⟨ia, va⟩ := ix_st ha
  obtain ⟨ib, vb⟩ := ix_st hb
  have nd := (sq_nn hd).2
  have na := (sq_nn ha).2
  have nb := (sq_nn hb).2
  have sd := h.1 _ nd.1 nd.2
  have t2 : Int32.toNatClampNeg 2 = 2 := rfl
  have v2 : vp_in 2 1620 := vp_of (a := 2) rfl (by decide) (by decide)
  refine w_X12_cuts ⟨vd, ?_⟩
  rw [id, ia, ib, t2, sd]
  refine ⟨fun c => ⟨Or.inl rfl, no (fun z => z.2.1 (by rw [c]; decide))⟩, fun c => px_parts9 ha (fun y1 h1 => px_parts9 hb (fun y2 h2 => px_parts9 hd (fun y3 h3 => ?_)))⟩
  have c1 : ¬ s.1 (nn9 d) < 1 := fun z => c (Int32.toInt_inj.mp (by
    rw [Int32.lt_iff_toInt_lt, show (1 : Int32).toInt = 1 from rfl] at z
    rw [le_i, show (0 : Int32).toInt = 0 from rfl] at h0
    rw [show (0 : Int32).toInt = 0 from rfl]
    omega))
  obtain ⟨p1, p2, -⟩ := pt_b na.1 na.2
  obtain ⟨q1, q2, -⟩ := pt_b nb.1 nb.2
  have h12 : (y1 + y2).toInt = pt (nn9 a) + pt (nn9 b) := tl_add h1 h2 (by omega)
  refine ⟨fun c2 => ⟨Or.inl rfl, ?_⟩, fun c2 => px_isOver ha hb h (fun _ => ?_)⟩
  · rw [lg_cmp_eq] at c2
    have c3 := cl_ne h12 h3 c2
    exact no (fun z => c3 ((ab_i hd ha hb).mpr z.2.2))
  · rw [lg_cmp_eq] at c2
    have c3 := (ab_i hd ha hb).mp (cl_eq h12 h3 c2)
    by_cases q : 99 < ov9 s.1 a d a b ∨ 99 < ov9 s.1 b d a b
    · rw [if_pos q]
      exact ⟨fun z => absurd z (by decide), fun _ => ⟨Or.inl rfl, no (fun z => z.1 q)⟩⟩
    · rw [if_neg q]
      rw [if_neg q, if_pos ⟨c1, c3⟩] at hQ
      refine ⟨fun _ => ⟨vd, vd, va, va, vb, vb, v2, v2, Or.inr rfl, ?_⟩, fun z => absurd rfl z⟩
      have g1 := h.st (k := nn9 d) (v := s.1 (nn9 d) - 1) nd
      have f1 := g1.1 _ na.1 na.2
      rw [sd, f1]
      have g2 := g1.st (k := nn9 a) (v := upd s.1 (nn9 d) (s.1 (nn9 d) - 1) (nn9 a) + 1) na
      have f2 := g2.1 _ nb.1 nb.2
      rw [f2]
      have g3 := g2.st (k := nn9 b) (v := upd (upd s.1 (nn9 d) (s.1 (nn9 d) - 1)) (nn9 a) (upd s.1 (nn9 d) (s.1 (nn9 d) - 1) (nn9 a) + 1) (nn9 b) + 1) nb
      have f3 := g3.2.2
      rw [f3]
      have k : Q (b9 0) 0 _ J R := hQ _ (g3.ct (v := s.2.2 + 1)) ((((FrW.rf.u ⟨rfl, Or.inl ⟨by omega, by omega⟩⟩).u ⟨rfl, Or.inl ⟨by omega, by omega⟩⟩).u ⟨rfl, Or.inl ⟨by omega, by omega⟩⟩).u ⟨rfl, Or.inr (Or.inr rfl)⟩)
      rw [b9_0] at k
      exact k
theorem px_gives {e : Nat} {k d m : Int32} {s : StS9} (hk : (0 : Int32) ≤ k ∧ k < m) (hm : m.toInt = (M : Int) ∧ M ≤ 6) (hd : sq9 d) (h : BkR M s I) (h0 : (0 : Int32) ≤ s.1 (nn9 d)) (hh : 0 ≤ (s.2.1 (nn9 k)).toInt) (hQ : ∀ I2, BkR M (opGive m k d s).2 I2 → FrRs I J I2 J → Q (b9 (opGive m k d s).1) 0 I2 J R) : AM (e + 2) 263 112 [.ref 97, .int k, .int d] I J R Q := by
  have e0 : opGive m k d s = if ¬ s.1 (nn9 d) < 1 ∧ inS (s.2.1 (nn9 k)) d = false then (0, upd s.1 (nn9 d) (s.1 (nn9 d) - 1), upd s.2.1 (nn9 k) (s.2.1 (nn9 k) ||| biS d), s.2.2) else (9, s) := if_pos ⟨hk, hd⟩
  rw [e0] at hQ
  have no : ¬ (¬ s.1 (nn9 d) < 1 ∧ inS (s.2.1 (nn9 k)) d = false) → Q 0 0 I J R := fun hn => by
    rw [if_neg hn] at hQ
    have z : Q (b9 9) 0 I J R := hQ I h FrW.rf
    rw [b9_9] at z
    exact z
  obtain ⟨id, vd⟩ := ix_st hd
  obtain ⟨ik, vk, nk⟩ := ix_hv hk hm
  have nd := (sq_nn hd).2
  have sd := h.1 _ nd.1 nd.2
  have sk := h.2.1 _ nk
  refine w_X12_gives ⟨vd, ?_⟩
  rw [id, ik, sd, sk]
  refine ⟨fun c => ⟨Or.inl rfl, no (fun z => z.1 (by rw [c]; decide))⟩, fun c => ⟨vk, px_isOf hh hd.1 hd.2 (fun hi _ => ⟨fun z => absurd z (by decide), fun _ => ⟨Or.inl rfl, no (fun z => by rw [hi] at z; exact absurd z.2 (by decide))⟩⟩) (fun hi _ => ⟨fun _ => ⟨vd, vd, vk, vk, Or.inr rfl, ?_⟩, fun z => absurd rfl z⟩)⟩⟩
  have c1 : ¬ s.1 (nn9 d) < 1 := fun z => c (Int32.toInt_inj.mp (by
    rw [Int32.lt_iff_toInt_lt, show (1 : Int32).toInt = 1 from rfl] at z
    rw [le_i, show (0 : Int32).toInt = 0 from rfl] at h0
    rw [show (0 : Int32).toInt = 0 from rfl]
    omega))
  rw [if_pos ⟨c1, hi⟩] at hQ
  have g1 := h.st (k := nn9 d) (v := s.1 (nn9 d) - 1) nd
  have f1 := g1.2.1 _ nk
  rw [sd, f1]
  have z : Q (b9 0) 0 _ J R := hQ _ (g1.hv (k := nn9 k) (v := s.2.1 (nn9 k) ||| biS d) nk) ((FrW.rf.u ⟨rfl, Or.inl ⟨by omega, by omega⟩⟩).u ⟨rfl, Or.inr (Or.inl ⟨by omega, by omega⟩)⟩)
  rw [b9_0] at z
  exact z
end STR
end PT13x3
section PT13x4
/-! ===== the store's operations: the reference's, split and taken back ===== -/
theorem tw9 : ∀ n, n < 31 → 1 ≤ n → (biS (nI n)).toBitVec = BitVec.twoPow 32 (n - 1) := by decide +kernel
theorem bi_tw {d : Int32} (hd : sq9 d) : (biS d).toBitVec = BitVec.twoPow 32 (nn9 d - 1) := by
  obtain ⟨-, n1, n2⟩ := sq_nn hd
  have h := tw9 (nn9 d) (by omega) n1
  rw [sq_nI hd] at h
  exact h
theorem and_pow {h d : Int32} (hd : sq9 d) (hi : inS h d = true) : h &&& biS d = biS d := by
  have hb := bi_tw hd
  apply Int32.toBitVec_inj.mp
  rw [Int32.toBitVec_and, hb, BitVec.and_twoPow]
  split
  · rfl
  · rename_i hn
    exfalso
    have z : h &&& biS d = 0 := Int32.toBitVec_inj.mp (by rw [Int32.toBitVec_and, hb, BitVec.and_twoPow, if_neg hn]; rfl)
    unfold inS at hi
    rw [show h &&& ((1 : Int32) <<< ((d - 1) &&& 31)) = 0 from z] at hi
    exact absurd hi (by decide)
theorem xa9 {h b : Int32} (hb : h &&& b = b) : h ^^^ b = h &&& (b ^^^ (-1)) := by
  have e : h.toBitVec &&& b.toBitVec = b.toBitVec := by
    rw [← Int32.toBitVec_and, hb]
  have e1 : (-1 : Int32).toBitVec = BitVec.allOnes 32 := rfl
  apply Int32.toBitVec_inj.mp
  rw [Int32.toBitVec_xor, Int32.toBitVec_and, Int32.toBitVec_xor, e1]
  apply BitVec.eq_of_getLsbD_eq
  intro i hi
  have ei := congrArg (fun z => z.getLsbD i) e
  simp only [BitVec.getLsbD_and] at ei
  simp only [BitVec.getLsbD_xor, BitVec.getLsbD_and, BitVec.getLsbD_allOnes, hi, decide_true]
  cases q1 : h.toBitVec.getLsbD i <;> cases q2 : b.toBitVec.getLsbD i <;> simp_all
section STQ
variable {M : Nat} {I : Im} {J : Jm} {R : Rm} {Q : Qt}
theorem px_areMore {e : Nat} {p n : Int32} {s : StS9} (hp : sq9 p) (h : BkR M s I) (hQ : Q (if s.1 (nn9 p) + n ≤ 99 then 0 else 1) 0 I J R) : AM (e + 1) 255 112 [.ref 97, .int p, .int n] I J R Q := by
  obtain ⟨ip, vp⟩ := ix_st hp
  have np := (sq_nn hp).2
  have sp := h.1 _ np.1 np.2
  refine w_X12_areMore ⟨fun c => absurd c (ile.mpr hp.2), fun _ => ⟨vp, ?_⟩⟩
  rw [ip, sp]
  refine ⟨fun c => ⟨Or.inl rfl, ?_⟩, fun c => ⟨Or.inr rfl, ?_⟩⟩
  · rw [if_pos c] at hQ; exact hQ
  · rw [if_neg c] at hQ; exact hQ
theorem px_areMoreN {e : Nat} {p n : Int32} (hp : (30 : Int32) < p) (hQ : Q 0 0 I J R) : AM (e + 1) 255 112 [.ref 97, .int p, .int n] I J R Q :=
  w_X12_areMore ⟨fun _ => ⟨Or.inl rfl, hQ⟩, fun c => absurd hp c⟩
theorem dn_case {d n : Int32} (hd : sq9 d) (hn : (2 : Int32) ≤ n ∧ n ≤ 30) : sq9 (d * n) ∨ ((30 : Int32) < d * n ∧ ¬ sq9 (d * n)) := by
  obtain ⟨-, d1, d2⟩ := sq_nn hd
  have hn1 : sq9 n := ⟨by have := hn.1; rw [le_i] at this ⊢; have e2 : (2 : Int32).toInt = 2 := rfl; have e1 : (1 : Int32).toInt = 1 := rfl; omega, hn.2⟩
  obtain ⟨-, n1, n2⟩ := sq_nn hn1
  have m1 : nn9 d * nn9 n ≤ 30 * 30 := Nat.mul_le_mul d2 n2
  have m0 : 1 * 1 ≤ nn9 d * nn9 n := Nat.mul_le_mul d1 n1
  have k : d * n = nI (nn9 d * nn9 n) := by rw [← nI_mul (by omega) (by omega) (by omega), sq_nI hd, sq_nI hn1]
  have kt : (d * n).toInt = ((nn9 d * nn9 n : Nat) : Int) := by rw [k]; exact nI_toInt (by omega)
  have e1 : (1 : Int32).toInt = 1 := rfl
  have e30 : (30 : Int32).toInt = 30 := rfl
  by_cases q : nn9 d * nn9 n ≤ 30
  · refine Or.inl ⟨?_, ?_⟩
    · rw [le_i, kt, e1]; omega
    · rw [le_i, kt, e30]; omega
  · refine Or.inr ⟨by rw [Int32.lt_iff_toInt_lt, kt, e30]; omega, fun z => ?_⟩
    have := z.2
    rw [le_i, kt, e30] at this
    omega
end STQ
end PT13x4
