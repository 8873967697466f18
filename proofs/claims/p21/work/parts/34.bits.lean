/-! ===== Integer.bitCount of a number that is not below 0 ===== -/
theorem nI_and (a b : Nat) : nI a &&& nI b = nI (a &&& b) := by
  apply Int32.toBitVec_inj.1
  show BitVec.ofNat 32 a &&& BitVec.ofNat 32 b = BitVec.ofNat 32 (a &&& b)
  apply BitVec.eq_of_getLsbD_eq
  intro i hi
  simp [hi]
theorem an_b (a m : Nat) : a &&& m = (a % 256 &&& m % 256) + 256 * (a / 256 &&& m / 256) := by
  have h1 : (a &&& m) % 2 ^ 8 = (a % 2 ^ 8) &&& (m % 2 ^ 8) := Nat.and_mod_two_pow
  have h2 : (a &&& m) / 2 ^ 8 = (a / 2 ^ 8) &&& (m / 2 ^ 8) := Nat.and_div_two_pow
  rw [show (2 : Nat) ^ 8 = 256 from rfl] at h1 h2
  rw [← h1, ← h2]
  omega
theorem an_2 {b m : Nat} (A M : Nat) (hb : b < 256) (hm : m < 256) : (b + 256 * A) &&& (m + 256 * M) = (b &&& m) + 256 * (A &&& M) := by
  rw [an_b, show (b + 256 * A) % 256 = b by omega, show (m + 256 * M) % 256 = m by omega, show (b + 256 * A) / 256 = A by omega, show (m + 256 * M) / 256 = M by omega]
/-- four bytes -/
noncomputable def n4 (b0 b1 b2 b3 : Nat) : Nat := b0 + 256 * (b1 + 256 * (b2 + 256 * b3))
theorem an_4 {b0 b1 b2 b3 m : Nat} (h0 : b0 < 256) (h1 : b1 < 256) (h2 : b2 < 256) (hm : m < 256) : n4 b0 b1 b2 b3 &&& n4 m m m m = n4 (b0 &&& m) (b1 &&& m) (b2 &&& m) (b3 &&& m) := by
  unfold n4
  rw [an_2 _ _ h0 hm, an_2 _ _ h1 hm, an_2 _ _ h2 hm]
/-- bits of a byte, the steps of the count on it -/
noncomputable def bp (b : Nat) : Nat := b % 2 + b / 2 % 2 + b / 4 % 2 + b / 8 % 2 + b / 16 % 2 + b / 32 % 2 + b / 64 % 2 + b / 128 % 2
noncomputable def by1 (b : Nat) : Nat := b - (b / 2 &&& 85)
noncomputable def bz1 (b : Nat) : Nat := (by1 b &&& 51) + (by1 b / 4 &&& 51)
set_option maxRecDepth 100000 in
theorem bl1 : ∀ b, b < 256 → (b / 2 &&& 85) ≤ b ∧ ∀ c, c < 2 → (b / 2 + 128 * c) &&& 85 = b / 2 &&& 85 := by decide +kernel
set_option maxRecDepth 100000 in
theorem bl2 : ∀ b, b < 256 → by1 b < 256 ∧ ∀ c, c < 4 → (by1 b / 4 + 64 * c) &&& 51 = by1 b / 4 &&& 51 := by decide +kernel
set_option maxRecDepth 100000 in
theorem bl3 : ∀ b, b < 256 → bz1 b < 128 ∧ bz1 b % 16 < 5 ∧ bz1 b / 16 < 5 ∧ bp b ≤ 8 ∧ ∀ c, c < 5 → (bz1 b + (bz1 b / 16 + 16 * c)) &&& 15 = bp b := by decide +kernel
theorem sA {b0 b1 b2 b3 : Nat} (h0 : b0 < 256) (h1 : b1 < 256) (h2 : b2 < 256) (h3 : b3 < 256) : (n4 b0 b1 b2 b3 / 2 &&& 1431655765) ≤ n4 b0 b1 b2 b3 ∧ n4 b0 b1 b2 b3 - (n4 b0 b1 b2 b3 / 2 &&& 1431655765) = n4 (by1 b0) (by1 b1) (by1 b2) (by1 b3) := by
  have e : n4 b0 b1 b2 b3 / 2 = n4 (b0 / 2 + 128 * (b1 % 2)) (b1 / 2 + 128 * (b2 % 2)) (b2 / 2 + 128 * (b3 % 2)) (b3 / 2 + 128 * 0) := by unfold n4; omega
  have k0 := bl1 b0 h0
  have k1 := bl1 b1 h1
  have k2 := bl1 b2 h2
  have k3 := bl1 b3 h3
  rw [e, show (1431655765 : Nat) = n4 85 85 85 85 from rfl, an_4 (by omega) (by omega) (by omega) (by decide), k0.2 _ (by omega), k1.2 _ (by omega), k2.2 _ (by omega), k3.2 _ (by decide)]
  have q0 := k0.1
  have q1 := k1.1
  have q2 := k2.1
  have q3 := k3.1
  clear k0 k1 k2 k3 e
  unfold n4 by1
  omega
theorem sB {b0 b1 b2 b3 : Nat} (h0 : b0 < 256) (h1 : b1 < 256) (h2 : b2 < 256) (h3 : b3 < 256) : (n4 (by1 b0) (by1 b1) (by1 b2) (by1 b3) &&& 858993459) + (n4 (by1 b0) (by1 b1) (by1 b2) (by1 b3) / 4 &&& 858993459) = n4 (bz1 b0) (bz1 b1) (bz1 b2) (bz1 b3) := by
  have k0 := bl2 b0 h0
  have k1 := bl2 b1 h1
  have k2 := bl2 b2 h2
  have k3 := bl2 b3 h3
  have e : n4 (by1 b0) (by1 b1) (by1 b2) (by1 b3) / 4 = n4 (by1 b0 / 4 + 64 * (by1 b1 % 4)) (by1 b1 / 4 + 64 * (by1 b2 % 4)) (by1 b2 / 4 + 64 * (by1 b3 % 4)) (by1 b3 / 4 + 64 * 0) := by
    have q0 := k0.1
    have q1 := k1.1
    have q2 := k2.1
    have q3 := k3.1
    clear k0 k1 k2 k3
    unfold n4
    omega
  rw [e, show (858993459 : Nat) = n4 51 51 51 51 from rfl, an_4 k0.1 k1.1 k2.1 (by decide)]
  have z0 : by1 b0 / 4 + 64 * (by1 b1 % 4) < 256 := by have := k0.1; omega
  have z1 : by1 b1 / 4 + 64 * (by1 b2 % 4) < 256 := by have := k1.1; omega
  have z2 : by1 b2 / 4 + 64 * (by1 b3 % 4) < 256 := by have := k2.1; omega
  rw [an_4 z0 z1 z2 (by decide), k0.2 _ (by omega), k1.2 _ (by omega), k2.2 _ (by omega), k3.2 _ (by decide)]
  clear k0 k1 k2 k3 e z0 z1 z2
  unfold n4 bz1
  omega
theorem sC {b0 b1 b2 b3 : Nat} (h0 : b0 < 256) (h1 : b1 < 256) (h2 : b2 < 256) (h3 : b3 < 256) : (n4 (bz1 b0) (bz1 b1) (bz1 b2) (bz1 b3) + n4 (bz1 b0) (bz1 b1) (bz1 b2) (bz1 b3) / 16) &&& 252645135 = n4 (bp b0) (bp b1) (bp b2) (bp b3) := by
  have k0 := bl3 b0 h0
  have k1 := bl3 b1 h1
  have k2 := bl3 b2 h2
  have k3 := bl3 b3 h3
  have e : n4 (bz1 b0) (bz1 b1) (bz1 b2) (bz1 b3) + n4 (bz1 b0) (bz1 b1) (bz1 b2) (bz1 b3) / 16 = n4 (bz1 b0 + (bz1 b0 / 16 + 16 * (bz1 b1 % 16))) (bz1 b1 + (bz1 b1 / 16 + 16 * (bz1 b2 % 16))) (bz1 b2 + (bz1 b2 / 16 + 16 * (bz1 b3 % 16))) (bz1 b3 + (bz1 b3 / 16 + 16 * 0)) := by
    have q0 := k0.1
    have q1 := k1.1
    have q2 := k2.1
    have q3 := k3.1
    clear k0 k1 k2 k3
    unfold n4
    omega
  have z0 : bz1 b0 + (bz1 b0 / 16 + 16 * (bz1 b1 % 16)) < 256 := by have := k0.1; have := k0.2.2.1; have := k1.2.1; omega
  have z1 : bz1 b1 + (bz1 b1 / 16 + 16 * (bz1 b2 % 16)) < 256 := by have := k1.1; have := k1.2.2.1; have := k2.2.1; omega
  have z2 : bz1 b2 + (bz1 b2 / 16 + 16 * (bz1 b3 % 16)) < 256 := by have := k2.1; have := k2.2.2.1; have := k3.2.1; omega
  rw [e, show (252645135 : Nat) = n4 15 15 15 15 from rfl, an_4 z0 z1 z2 (by decide), k0.2.2.2.2 _ k1.2.1, k1.2.2.2.2 _ k2.2.1, k2.2.2.2.2 _ k3.2.1, k3.2.2.2.2 _ (by decide)]
theorem sD {p0 p1 p2 p3 : Nat} (h0 : p0 ≤ 8) (h1 : p1 ≤ 8) (h2 : p2 ≤ 8) (h3 : p3 ≤ 8) : (n4 p0 p1 p2 p3 + n4 p0 p1 p2 p3 / 256 + (n4 p0 p1 p2 p3 + n4 p0 p1 p2 p3 / 256) / 65536) % 64 = p0 + p1 + p2 + p3 := by
  have e1 : n4 p0 p1 p2 p3 / 256 = p1 + 256 * (p2 + 256 * p3) := by unfold n4; omega
  have e2 : (n4 p0 p1 p2 p3 + (p1 + 256 * (p2 + 256 * p3))) / 65536 = p2 + p3 + 256 * p3 := by
    have e3 : n4 p0 p1 p2 p3 + (p1 + 256 * (p2 + 256 * p3)) = ((p0 + p1) + 256 * (p1 + p2)) + 65536 * (p2 + p3 + 256 * p3) := by unfold n4; omega
    rw [e3]
    have e4 : (p0 + p1) + 256 * (p1 + p2) < 65536 := by omega
    omega
  rw [e1, e2]
  unfold n4
  omega
/-- the JDK's steps -/
noncomputable def bcA (v : Int32) : Int32 := v - ((Int32.toUInt32 v >>> (Int32.toUInt32 1 &&& Int32.toUInt32 31)).toInt32 &&& 1431655765)
noncomputable def bcB (v : Int32) : Int32 := (v &&& 858993459) + ((Int32.toUInt32 v >>> (Int32.toUInt32 2 &&& Int32.toUInt32 31)).toInt32 &&& 858993459)
noncomputable def bcC (v : Int32) : Int32 := (v + (Int32.toUInt32 v >>> (Int32.toUInt32 4 &&& Int32.toUInt32 31)).toInt32) &&& 252645135
noncomputable def bcD (v : Int32) : Int32 := v + (Int32.toUInt32 v >>> (Int32.toUInt32 8 &&& Int32.toUInt32 31)).toInt32
noncomputable def bcE (v : Int32) : Int32 := v + (Int32.toUInt32 v >>> (Int32.toUInt32 16 &&& Int32.toUInt32 31)).toInt32
theorem bc_nI {b0 b1 b2 b3 : Nat} (h0 : b0 < 256) (h1 : b1 < 256) (h2 : b2 < 256) (h3 : b3 < 256) : bcE (bcD (bcC (bcB (bcA (nI (n4 b0 b1 b2 b3)))))) &&& 63 = nI (bp b0 + bp b1 + bp b2 + bp b3) := by
  have lt : ∀ {a b c d : Nat}, a < 256 → b < 256 → c < 256 → d < 256 → n4 a b c d < 2 ^ 32 := fun ha hb hc hd => by unfold n4; omega
  have eA : bcA (nI (n4 b0 b1 b2 b3)) = nI (n4 (by1 b0) (by1 b1) (by1 b2) (by1 b3)) := by
    unfold bcA
    rw [pk_ushrN (lt h0 h1 h2 h3) 1 1 (by decide), show (1431655765 : Int32) = nI 1431655765 from rfl, nI_and, show (2 : Nat) ^ 1 = 2 from rfl, pk_sub (sA h0 h1 h2 h3).1, (sA h0 h1 h2 h3).2]
  have y0 := (bl2 b0 h0).1
  have y1 := (bl2 b1 h1).1
  have y2 := (bl2 b2 h2).1
  have y3 := (bl2 b3 h3).1
  have eB : bcB (nI (n4 (by1 b0) (by1 b1) (by1 b2) (by1 b3))) = nI (n4 (bz1 b0) (bz1 b1) (bz1 b2) (bz1 b3)) := by
    unfold bcB
    rw [pk_ushrN (lt y0 y1 y2 y3) 2 2 (by decide), show (858993459 : Int32) = nI 858993459 from rfl, nI_and, nI_and, nI_add, show (2 : Nat) ^ 2 = 4 from rfl, sB h0 h1 h2 h3]
  have z0 := bl3 b0 h0
  have z1 := bl3 b1 h1
  have z2 := bl3 b2 h2
  have z3 := bl3 b3 h3
  have eC : bcC (nI (n4 (bz1 b0) (bz1 b1) (bz1 b2) (bz1 b3))) = nI (n4 (bp b0) (bp b1) (bp b2) (bp b3)) := by
    unfold bcC
    rw [pk_ushrN (lt (by have := z0.1; omega) (by have := z1.1; omega) (by have := z2.1; omega) (by have := z3.1; omega)) 4 4 (by decide), show (252645135 : Int32) = nI 252645135 from rfl, nI_add, nI_and, show (2 : Nat) ^ 4 = 16 from rfl, sC h0 h1 h2 h3]
  have p0 := z0.2.2.2.1
  have p1 := z1.2.2.2.1
  have p2 := z2.2.2.2.1
  have p3 := z3.2.2.2.1
  have l3 : n4 (bp b0) (bp b1) (bp b2) (bp b3) < 2 ^ 32 := lt (by omega) (by omega) (by omega) (by omega)
  have l4 : n4 (bp b0) (bp b1) (bp b2) (bp b3) + n4 (bp b0) (bp b1) (bp b2) (bp b3) / 256 < 2 ^ 32 := by unfold n4; omega
  have l5 : n4 (bp b0) (bp b1) (bp b2) (bp b3) + n4 (bp b0) (bp b1) (bp b2) (bp b3) / 256 + (n4 (bp b0) (bp b1) (bp b2) (bp b3) + n4 (bp b0) (bp b1) (bp b2) (bp b3) / 256) / 65536 < 2 ^ 32 := by unfold n4; omega
  rw [eA, eB, eC]
  unfold bcD bcE
  rw [pk_ushrN l3 8 8 (by decide), nI_add, show (2 : Nat) ^ 8 = 256 from rfl, pk_ushrN l4 16 16 (by decide), nI_add, show (2 : Nat) ^ 16 = 65536 from rfl, pk_andN l5 6 (by decide), show (2 : Nat) ^ 6 = 64 from rfl, sD p0 p1 p2 p3]
/-- the bits below k -/
noncomputable def pnN (n : Nat) : Nat → Nat
  | 0 => 0
  | k + 1 => pnN n k + n / 2 ^ k % 2
theorem pnN_8 (b A : Nat) (hb : b < 256) : pnN (b + 256 * A) 8 = bp b := by
  show 0 + (b + 256 * A) / 2 ^ 0 % 2 + (b + 256 * A) / 2 ^ 1 % 2 + (b + 256 * A) / 2 ^ 2 % 2 + (b + 256 * A) / 2 ^ 3 % 2 + (b + 256 * A) / 2 ^ 4 % 2 + (b + 256 * A) / 2 ^ 5 % 2 + (b + 256 * A) / 2 ^ 6 % 2 + (b + 256 * A) / 2 ^ 7 % 2 = bp b
  unfold bp
  omega
theorem pnN_s (b A : Nat) (hb : b < 256) : ∀ k, pnN (b + 256 * A) (8 + k) = bp b + pnN A k := by
  intro k
  induction k with
  | zero => exact pnN_8 b A hb
  | succ k ih =>
    show pnN (b + 256 * A) (8 + k) + (b + 256 * A) / 2 ^ (8 + k) % 2 = bp b + (pnN A k + A / 2 ^ k % 2)
    have e : (b + 256 * A) / 2 ^ (8 + k) = A / 2 ^ k := by
      rw [Nat.pow_add, ← Nat.div_div_eq_div_mul, show (b + 256 * A) / 2 ^ 8 = A by omega]
    rw [ih, e]
    omega
set_option maxRecDepth 100000 in
theorem pnN_6 : ∀ b, b < 64 → pnN b 6 = bp b := by decide +kernel
theorem pnN_30 {b0 b1 b2 b3 : Nat} (h0 : b0 < 256) (h1 : b1 < 256) (h2 : b2 < 256) (h3 : b3 < 64) : pnN (n4 b0 b1 b2 b3) 30 = bp b0 + bp b1 + bp b2 + bp b3 := by
  unfold n4
  rw [show (30 : Nat) = 8 + (8 + (8 + 6)) from rfl, pnN_s _ _ h0, pnN_s _ _ h1, pnN_s _ _ h2, pnN_6 _ h3]
  omega
