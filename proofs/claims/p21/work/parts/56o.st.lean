/-! ===== the store's operations: the reference's, split and taken back ===== -/
theorem tw9 : ∀ n, n < 31 → 1 ≤ n → (biS (nI n)).toBitVec = BitVec.twoPow 32 (n - 1) := by decide +kernel
theorem bi_tw {d : Int32} (hd : sq9 d) : (biS d).toBitVec = BitVec.twoPow 32 (nn9 d - 1) := by
  obtain ⟨-, n1, n2⟩ := sq_nn hd
  have h := tw9 (nn9 d) (by omega) n1
  rw [sq_nI hd] at h
  exact h
theorem and_pow {h d : Int32} (hd : sq9 d) (hi : inS h d = true) : h &&& biS d = biS d := by
  have hb := bi_tw hd
  apply Int32.toBitVec_inj.mp
  rw [Int32.toBitVec_and, hb, BitVec.and_twoPow]
  split
  · rfl
  · rename_i hn
    exfalso
    have z : h &&& biS d = 0 := Int32.toBitVec_inj.mp (by rw [Int32.toBitVec_and, hb, BitVec.and_twoPow, if_neg hn]; rfl)
    unfold inS at hi
    rw [show h &&& ((1 : Int32) <<< ((d - 1) &&& 31)) = 0 from z] at hi
    exact absurd hi (by decide)
theorem xa9 {h b : Int32} (hb : h &&& b = b) : h ^^^ b = h &&& (b ^^^ (-1)) := by
  have e : h.toBitVec &&& b.toBitVec = b.toBitVec := by
    rw [← Int32.toBitVec_and, hb]
  have e1 : (-1 : Int32).toBitVec = BitVec.allOnes 32 := rfl
  apply Int32.toBitVec_inj.mp
  rw [Int32.toBitVec_xor, Int32.toBitVec_and, Int32.toBitVec_xor, e1]
  apply BitVec.eq_of_getLsbD_eq
  intro i hi
  have ei := congrArg (fun z => z.getLsbD i) e
  simp only [BitVec.getLsbD_and] at ei
  simp only [BitVec.getLsbD_xor, BitVec.getLsbD_and, BitVec.getLsbD_allOnes, hi, decide_true]
  cases q1 : h.toBitVec.getLsbD i <;> cases q2 : b.toBitVec.getLsbD i <;> simp_all
section STQ
variable {M : Nat} {I : Im} {J : Jm} {R : Rm} {Q : Qt}
theorem px_areMore {e : Nat} {p n : Int32} {s : StS9} (hp : sq9 p) (h : BkR M s I) (hQ : Q (if s.1 (nn9 p) + n ≤ 99 then 0 else 1) 0 I J R) : AM (e + 1) 255 112 [.ref 97, .int p, .int n] I J R Q := by
  obtain ⟨ip, vp⟩ := ix_st hp
  have np := (sq_nn hp).2
  have sp := h.1 _ np.1 np.2
  refine w_X12_areMore ⟨fun c => absurd c (ile.mpr hp.2), fun _ => ⟨vp, ?_⟩⟩
  rw [ip, sp]
  refine ⟨fun c => ⟨Or.inl rfl, ?_⟩, fun c => ⟨Or.inr rfl, ?_⟩⟩
  · rw [if_pos c] at hQ; exact hQ
  · rw [if_neg c] at hQ; exact hQ
theorem px_areMoreN {e : Nat} {p n : Int32} (hp : (30 : Int32) < p) (hQ : Q 0 0 I J R) : AM (e + 1) 255 112 [.ref 97, .int p, .int n] I J R Q :=
  w_X12_areMore ⟨fun _ => ⟨Or.inl rfl, hQ⟩, fun c => absurd hp c⟩
theorem dn_case {d n : Int32} (hd : sq9 d) (hn : (2 : Int32) ≤ n ∧ n ≤ 30) : sq9 (d * n) ∨ ((30 : Int32) < d * n ∧ ¬ sq9 (d * n)) := by
  obtain ⟨-, d1, d2⟩ := sq_nn hd
  have hn1 : sq9 n := ⟨by have := hn.1; rw [le_i] at this ⊢; have e2 : (2 : Int32).toInt = 2 := rfl; have e1 : (1 : Int32).toInt = 1 := rfl; omega, hn.2⟩
  obtain ⟨-, n1, n2⟩ := sq_nn hn1
  have m1 : nn9 d * nn9 n ≤ 30 * 30 := Nat.mul_le_mul d2 n2
  have m0 : 1 * 1 ≤ nn9 d * nn9 n := Nat.mul_le_mul d1 n1
  have k : d * n = nI (nn9 d * nn9 n) := by rw [← nI_mul (by omega) (by omega) (by omega), sq_nI hd, sq_nI hn1]
  have kt : (d * n).toInt = ((nn9 d * nn9 n : Nat) : Int) := by rw [k]; exact nI_toInt (by omega)
  have e1 : (1 : Int32).toInt = 1 := rfl
  have e30 : (30 : Int32).toInt = 30 := rfl
  by_cases q : nn9 d * nn9 n ≤ 30
  · refine Or.inl ⟨?_, ?_⟩
    · rw [le_i, kt, e1]; omega
    · rw [le_i, kt, e30]; omega
  · refine Or.inr ⟨by rw [Int32.lt_iff_toInt_lt, kt, e30]; omega, fun z => ?_⟩
    have := z.2
    rw [le_i, kt, e30] at this
    omega
theorem px_splits {e : Nat} {d n : Int32} {s : StS9} (hd : sq9 d) (hn : (2 : Int32) ≤ n ∧ n ≤ 30) (h : BkR M s I) (h0 : (0 : Int32) ≤ s.1 (nn9 d)) (hQ : ∀ I2, BkR M (opSplit d n s).2 I2 → FrRs I J I2 J → Q (b9 (opSplit d n s).1) 0 I2 J R) : AM (e + 2) 259 112 [.ref 97, .int d, .int n] I J R Q := by
  have e0 : opSplit d n s = if sq9 (d * n) ∧ ¬ s.1 (nn9 (d * n)) + n ≤ 99 then (7, s) else if ¬ s.1 (nn9 d) < 1 ∧ sq9 (d * n) then (0, sp9 s.1 d n, s.2.1, s.2.2 + 1) else (9, s) := (if_pos hd).trans (if_pos hn)
  rw [e0] at hQ
  have no : ¬ (¬ (sq9 (d * n) ∧ ¬ s.1 (nn9 (d * n)) + n ≤ 99) ∧ (¬ s.1 (nn9 d) < 1 ∧ sq9 (d * n))) → Q 0 0 I J R := fun hn => by
    by_cases q : sq9 (d * n) ∧ ¬ s.1 (nn9 (d * n)) + n ≤ 99
    · rw [if_pos q] at hQ
      have k : Q (b9 7) 0 I J R := hQ I h FrW.rf
      rw [b9_7] at k
      exact k
    · rw [if_neg q, if_neg (fun z => hn ⟨q, z⟩)] at hQ
      have k : Q (b9 9) 0 I J R := hQ I h FrW.rf
      rw [b9_9] at k
      exact k
  obtain ⟨id, vd⟩ := ix_st hd
  have nd := (sq_nn hd).2
  have sd := h.1 _ nd.1 nd.2
  have t2 : Int32.toNatClampNeg 2 = 2 := rfl
  have v2 : vp_in 2 1620 := vp_of (a := 2) rfl (by decide) (by decide)
  refine w_X12_splits ⟨vd, ?_⟩
  rw [id, t2, sd]
  refine ⟨fun c => ⟨Or.inl rfl, no (fun z => z.2.1 (by rw [c]; decide))⟩, fun c => ⟨fun c2 => ⟨Or.inl rfl, no (fun z => absurd c2 (ile.mpr z.2.2.2))⟩, fun c2 => ?_⟩⟩
  have c1 : ¬ s.1 (nn9 d) < 1 := fun z => c (Int32.toInt_inj.mp (by
    rw [Int32.lt_iff_toInt_lt, show (1 : Int32).toInt = 1 from rfl] at z
    rw [le_i, show (0 : Int32).toInt = 0 from rfl] at h0
    rw [show (0 : Int32).toInt = 0 from rfl]
    omega))
  have hp : sq9 (d * n) := (dn_case hd hn).resolve_right (fun z => c2 z.1)
  obtain ⟨ip, vp⟩ := ix_st hp
  have np := (sq_nn hp).2
  refine px_areMore hp h (fun _ => ?_)
  by_cases q : s.1 (nn9 (d * n)) + n ≤ 99
  · rw [if_pos q]
    rw [if_neg (fun z => z.2 q), if_pos ⟨c1, hp⟩] at hQ
    refine ⟨fun _ => ⟨vd, vd, vp, vp, v2, v2, Or.inr rfl, ?_⟩, fun z => absurd rfl z⟩
    have g1 := h.st (k := nn9 d) (v := s.1 (nn9 d) - 1) nd
    have f1 := g1.1 _ np.1 np.2
    rw [ip, sd, f1]
    have g2 := g1.st (k := nn9 (d * n)) (v := upd s.1 (nn9 d) (s.1 (nn9 d) - 1) (nn9 (d * n)) + n) np
    have f3 := g2.2.2
    rw [f3]
    have k : Q (b9 0) 0 _ J R := hQ _ (g2.ct (v := s.2.2 + 1)) (((FrW.rf.u ⟨rfl, Or.inl ⟨by omega, by omega⟩⟩).u ⟨rfl, Or.inl ⟨by omega, by omega⟩⟩).u ⟨rfl, Or.inr (Or.inr rfl)⟩)
    rw [b9_0] at k
    exact k
  · rw [if_neg q]
    exact ⟨fun z => absurd z (by decide), fun _ => ⟨Or.inl rfl, no (fun z => z.1 ⟨hp, q⟩)⟩⟩
theorem px_takes {e : Nat} {k d m : Int32} {s : StS9} (hk : (0 : Int32) ≤ k ∧ k < m) (hm : m.toInt = (M : Int) ∧ M ≤ 6) (hd : sq9 d) (h : BkR M s I) (h9 : s.1 (nn9 d) ≤ 99) (hh : 0 ≤ (s.2.1 (nn9 k)).toInt) (hQ : ∀ I2, BkR M (opTake m k d s).2 I2 → FrRs I J I2 J → Q (b9 (opTake m k d s).1) 0 I2 J R) : AM (e + 2) 265 112 [.ref 97, .int k, .int d] I J R Q := by
  have e0 : opTake m k d s = if s.1 (nn9 d) < 99 then (if inS (s.2.1 (nn9 k)) d = true then (0, upd s.1 (nn9 d) (s.1 (nn9 d) + 1), upd s.2.1 (nn9 k) (s.2.1 (nn9 k) &&& (biS d ^^^ (-1))), s.2.2) else (9, s)) else (7, s) := if_pos ⟨hk, hd⟩
  rw [e0] at hQ
  obtain ⟨id, vd⟩ := ix_st hd
  obtain ⟨ik, vk, nk⟩ := ix_hv hk hm
  have nd := (sq_nn hd).2
  have sd := h.1 _ nd.1 nd.2
  have sk := h.2.1 _ nk
  refine w_X12_takes ⟨vd, ?_⟩
  rw [id, ik, sd, sk]
  refine ⟨fun c => ⟨Or.inl rfl, ?_⟩, fun c => ?_⟩
  · rw [if_neg (by rw [c]; decide)] at hQ
    have z : Q (b9 7) 0 I J R := hQ I h FrW.rf
    rw [b9_7] at z
    exact z
  · have c1 : s.1 (nn9 d) < 99 := by
      have hne : ¬ (s.1 (nn9 d)).toInt = 99 := fun z => c (Int32.toInt_inj.mp z)
      rw [le_i, show (99 : Int32).toInt = 99 from rfl] at h9
      rw [Int32.lt_iff_toInt_lt, show (99 : Int32).toInt = 99 from rfl]
      omega
    rw [if_pos c1] at hQ
    refine ⟨vk, px_isOf hh hd.1 hd.2 (fun hi _ => ⟨fun _ => ⟨vd, vd, vk, vk, Or.inr rfl, ?_⟩, fun z => absurd z (by decide)⟩) (fun hi _ => ⟨fun z => absurd rfl z, fun _ => ⟨Or.inl rfl, ?_⟩⟩)⟩
    · rw [if_pos hi, ← xa9 (and_pow hd hi)] at hQ
      have g1 := h.st (k := nn9 d) (v := s.1 (nn9 d) + 1) nd
      have f1 := g1.2.1 _ nk
      rw [sd, f1]
      have z : Q (b9 0) 0 _ J R := hQ _ (g1.hv (k := nn9 k) (v := s.2.1 (nn9 k) ^^^ biS d) nk) ((FrW.rf.u ⟨rfl, Or.inl ⟨by omega, by omega⟩⟩).u ⟨rfl, Or.inr (Or.inl ⟨by omega, by omega⟩)⟩)
      rw [b9_0] at z
      exact z
    · rw [if_neg (by rw [hi]; decide)] at hQ
      have z : Q (b9 9) 0 I J R := hQ I h FrW.rf
      rw [b9_9] at z
      exact z
end STQ
