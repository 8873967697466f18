/-! ===== how many members a set has ===== -/
/-- how many slices there are of a set, below one -/
noncomputable def pcb (s i : Int32) : Int := if ((s >>> (i &&& 31)) &&& 1) = 1 then 1 else 0
noncomputable def pcn (s : Int32) : Nat → Int
  | 0 => 0
  | k + 1 => pcn s k + pcb s (Int32.ofNat k)
theorem pcb_in (s i : Int32) : 0 ≤ pcb s i ∧ pcb s i ≤ 1 := by unfold pcb; split <;> omega
theorem of_toNat {i : Int32} (h : 0 ≤ i.toInt) : Int32.ofNat i.toInt.toNat = i := by
  have h2 := i32 i
  have h3 : Int32.ofNat i.toInt.toNat = nI i.toInt.toNat := rfl
  rw [h3]
  exact Int32.toInt_inj.mp (by rw [nI_toInt (by omega)]; omega)
theorem pcn_step {s i : Int32} {z w b : Int} (h : w = pcn s i.toInt.toNat) (h0 : 0 ≤ i.toInt) (hz : z = i.toInt + 1) (hb : b = pcb s i) : w + b = pcn s z.toNat := by
  rw [show z.toNat = i.toInt.toNat + 1 by omega]
  show _ = pcn s i.toInt.toNat + pcb s (Int32.ofNat i.toInt.toNat)
  rw [of_toNat h0, h, hb]
theorem pcn_mono {s : Int32} (a : Nat) : ∀ b : Nat, pcn s a ≤ pcn s (a + b) := fun b => by
  induction b with
  | zero => exact Int.le_refl _
  | succ b ih =>
    have h1 : pcn s (a + (b + 1)) = pcn s (a + b) + pcb s (Int32.ofNat (a + b)) := rfl
    have h2 := pcb_in s (Int32.ofNat (a + b))
    omega
theorem pcn_le {s : Int32} {a b : Nat} (h : a ≤ b) : pcn s a ≤ pcn s b := by
  have := pcn_mono (s := s) a (b - a)
  rw [show a + (b - a) = b by omega] at this
  exact this
theorem pcb1 {s i : Int32} (h : ((s >>> (i &&& 31)) &&& 1) = 1) : (1 : Int) = pcb s i := by unfold pcb; rw [if_pos h]
theorem pcb0 {s i : Int32} (h : ¬ ((s >>> (i &&& 31)) &&& 1) = 1) : (0 : Int) = pcb s i := by unfold pcb; rw [if_neg h]
/-! ===== the count of a set's members, both ways ===== -/
theorem sl32 : ∀ n, n < 32 → ((nI n &&& 31).toBitVec.smod 32).toNat = n := by decide +kernel
theorem pcb_nI {n i : Nat} (hn : n < 2 ^ 30) (hi : i < 30) : pcb (nI n) (Int32.ofNat i) = ((n / 2 ^ i % 2 : Nat) : Int) := by
  unfold pcb
  have hd : n / 2 ^ i ≤ n := Nat.div_le_self _ _
  have h : nI n >>> (Int32.ofNat i &&& 31) = nI (n / 2 ^ i) := pk_shrN (by omega) (nI i &&& 31) i (sl32 i (by omega))
  rw [h, pk_andN (by omega) 1 (by decide), show (2 : Nat) ^ 1 = 2 from rfl]
  rcases Nat.mod_two_eq_zero_or_one (n / 2 ^ i) with q | q
  · rw [q, if_neg (by decide)]; rfl
  · rw [q, if_pos (by decide)]; rfl
theorem pcn_nI {n : Nat} (hn : n < 2 ^ 30) : ∀ k, k ≤ 30 → pcn (nI n) k = (pnN n k : Int) := by
  intro k
  induction k with
  | zero => intro _; rfl
  | succ k ih =>
    intro hk
    show pcn (nI n) k + pcb (nI n) (Int32.ofNat k) = ((pnN n k + n / 2 ^ k % 2 : Nat) : Int)
    rw [ih (by omega), pcb_nI hn (by omega)]
    omega
theorem bc_pcn {v : Int32} (h0 : 0 ≤ v.toInt) (h1 : v.toInt ≤ 1073741823) : (bcE (bcD (bcC (bcB (bcA v)))) &&& 63).toInt = pcn v 30 := by
  obtain ⟨n, hn⟩ : ∃ n : Nat, v.toInt = (n : Int) := ⟨v.toInt.toNat, by omega⟩
  have hv : v = nI n := Int32.toInt_inj.mp (by rw [hn]; exact (nI_toInt (by omega)).symm)
  have e : n = n4 (n % 256) (n / 256 % 256) (n / 65536 % 256) (n / 16777216) := by unfold n4; omega
  have h30 : n < 2 ^ 30 := by omega
  have k0 : n % 256 < 256 := by omega
  have k1 : n / 256 % 256 < 256 := by omega
  have k2 : n / 65536 % 256 < 256 := by omega
  have k3 : n / 16777216 < 64 := by omega
  have b := bc_nI k0 k1 k2 (show n / 16777216 < 256 by omega)
  have p := pnN_30 k0 k1 k2 k3
  rw [← e] at b p
  have m0 := (bl3 _ k0).2.2.2.1
  have m1 := (bl3 _ k1).2.2.2.1
  have m2 := (bl3 _ k2).2.2.2.1
  have m3 := (bl3 _ (show n / 16777216 < 256 by omega)).2.2.2.1
  rw [hv, b, pcn_nI h30 30 (Nat.le_refl _), p]
  exact nI_toInt (by omega)
theorem sp_J6_bitCount_0f7a4 {d : Nat} {Q : Qt} {v0 : Int32} {I : Im} {J : Jm} {R : Rm} (hB0 : Bd I) (hR0 : RI R) (hQ : ∀ (x : Int32) (y : Int64) (I2 : Im) (J2 : Jm), Bd I2 → (I = I2 ∧ (0 ≤ v0.toInt ∧ v0.toInt ≤ 1073741823 → x.toInt = pcn v0 30)) → Q x y I2 J2 R) : AM (d + 1) 319 112 [.int v0] I J R Q := w_J6_bitCount_0f7a4 (hQ _ 0 _ _ hB0 ⟨rfl, fun h => bc_pcn h.1 h.2⟩)
