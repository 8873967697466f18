section PT7x1
theorem Bd.n27 {I : Im} (h : Bd I) : 0 ≤ (I 97 27).toInt ∧ (I 97 27).toInt ≤ 30 := h.o io9_112_97_12 bd9_12_27
/-- what a reader of a bakery leaves -/
noncomputable def pR (j : Nat) : Prop := j = 1348
theorem ti_div {x y : Int32} {a b : Int} (hx : x.toInt = a) (hy : y.toInt = b) (ha : 0 ≤ a) (hb : 0 < b) : (x / y).toInt = a / b := by
  have h1 := i32 x
  rw [Int32.toInt_div, hx, hy, Int.tdiv_eq_ediv_of_nonneg ha]
  have h3 : 0 ≤ a / b := Int.ediv_nonneg ha (by omega)
  have h4 : a / b ≤ a := Int.ediv_le_self _ ha
  exact ti_bmod (by omega) (by omega)
theorem ti_rem {x y : Int32} {a b : Int} (hx : x.toInt = a) (hy : y.toInt = b) (ha : 0 ≤ a) (hb : 0 < b) : 0 ≤ (x - x / y * y).toInt ∧ (x - x / y * y).toInt < b ∧ (x - x / y * y).toInt ≤ a := by
  have h1 := i32 x
  have h3 := Int.mul_ediv_add_emod a b
  have h4 := Int.emod_nonneg a (show b ≠ 0 by omega)
  have h5 := Int.emod_lt_of_pos a hb
  have h6 : 0 ≤ a / b := Int.ediv_nonneg ha (by omega)
  have h8 : 0 ≤ b * (a / b) := Int.mul_nonneg (by omega) h6
  have h9 : (x / y * y).toInt = b * (a / b) := by
    rw [Int32.toInt_mul, ti_div hx hy ha hb, hy, Int.mul_comm]
    exact ti_bmod (by omega) (by omega)
  have h10 : (x - x / y * y).toInt = a - b * (a / b) := ti_sub hx h9 (by omega)
  omega
/-- a record's fields, at a place, by its kind -/
noncomputable def RF (f : Nat → Int32) (w : Int32) (men : Int) : Prop := ((f w.toNatClampNeg).toInt = 0 → 1 ≤ (f (w + 1).toNatClampNeg).toInt ∧ (f (w + 1).toNatClampNeg).toInt ≤ 30 ∧ 1 ≤ (f (w + 2).toNatClampNeg).toInt ∧ (f (w + 2).toNatClampNeg).toInt ≤ 30 ∧ 1 ≤ (f (w + 3).toNatClampNeg).toInt ∧ (f (w + 3).toNatClampNeg).toInt ≤ 30) ∧ ((f w.toNatClampNeg).toInt = 1 → 1 ≤ (f (w + 1).toNatClampNeg).toInt ∧ (f (w + 1).toNatClampNeg).toInt ≤ 30 ∧ 2 ≤ (f (w + 2).toNatClampNeg).toInt ∧ (f (w + 2).toNatClampNeg).toInt ≤ 30) ∧
  ((f w.toNatClampNeg).toInt = 2 ∨ (f w.toNatClampNeg).toInt = 3 → 0 ≤ (f (w + 1).toNatClampNeg).toInt ∧ (f (w + 1).toNatClampNeg).toInt < men ∧ 1 ≤ (f (w + 2).toNatClampNeg).toInt ∧ (f (w + 2).toNatClampNeg).toInt ≤ 30) ∧ ((f w.toNatClampNeg).toInt = 4 → 1 ≤ (f (w + 1).toNatClampNeg).toInt ∧ (f (w + 1).toNatClampNeg).toInt ≤ 9) ∧ ((f w.toNatClampNeg).toInt = 6 → ((f (w + 5).toNatClampNeg).toInt = 1 → 1 ≤ (f (w + 1).toNatClampNeg).toInt ∧ (f (w + 1).toNatClampNeg).toInt ≤ 30) ∧ (¬ (f (w + 5).toNatClampNeg).toInt = 1 → 0 ≤ (f (w + 1).toNatClampNeg).toInt ∧ (f (w + 1).toNatClampNeg).toInt < men))
noncomputable def NewOk (f : Nat → Int32) (s : Nat) (n men : Int) : Prop := Rec (f (1350 + 9 * s)).toInt (f (1350 + 9 * s + 1)).toInt (f (1350 + 9 * s + 2)).toInt (f (1350 + 9 * s + 3)).toInt (f (1350 + 9 * s + 5)).toInt (f (1350 + 9 * s + 8)).toInt (s : Int) n men
/-- new records, from one on -/
noncomputable def NR (f : Nat → Int32) (a n men : Int) : Prop := ∀ s : Nat, a ≤ (s : Int) → (s : Int) < n → NewOk f s n men
theorem NR.nil {f : Nat → Int32} {a n men : Int} (h : n ≤ a) : NR f a n men := fun s h1 h2 => absurd h2 (by omega)
theorem NR.app {f g : Nat → Int32} {a n n2 men z : Int} (h1 : NR f a n men) (fr : ∀ j : Nat, (j : Int) < z → g j = f j) (hz : z = 1350 + 9 * n) (h2 : NR g n n2 men) (hn : n ≤ n2) : NR g a n2 men := by
  intro s s1 s2
  by_cases q : (s : Int) < n
  · have h3 := h1 s s1 q
    unfold NewOk at h3 ⊢
    rw [fr (1350 + 9 * s) (by omega), fr (1350 + 9 * s + 1) (by omega), fr (1350 + 9 * s + 2) (by omega), fr (1350 + 9 * s + 3) (by omega), fr (1350 + 9 * s + 5) (by omega), fr (1350 + 9 * s + 8) (by omega)]
    unfold Rec at h3 ⊢
    omega
  · exact h2 s (by omega) s2
theorem w_at {w : Int32} {z : Int} (hw : w.toInt = z) (h0 : 0 ≤ z ∧ z ≤ 1000000) (k : Nat) (hk : k < 10) : (((w + Int32.ofNat k).toNatClampNeg : Nat) : Int) = z + k := by
  have h1 : (Int32.ofNat k).toInt = (k : Int) := nI_toInt (by omega)
  exact tn_of (ti_add hw h1 (by omega)) (by omega)
theorem NR.close {f : Nat → Int32} {a n men : Int} {w v : Int32} (h : NR f (a + 1) n men) (hw : w.toInt = 1350 + 9 * a) (ha : 0 ≤ a ∧ a ≤ 30) (hn : a + 1 ≤ n) (hr : RF f w men) (hv : v.toInt = n) : NR (upd f (w + 8).toNatClampNeg v) a n men := by
  have h0 := tn_of hw (by omega)
  have h1 := w_at hw (by omega) 1 (by omega)
  have h2 := w_at hw (by omega) 2 (by omega)
  have h3 := w_at hw (by omega) 3 (by omega)
  have h5 := w_at hw (by omega) 5 (by omega)
  have h8 := w_at hw (by omega) 8 (by omega)
  have e1 : (w + 1).toNatClampNeg = (w + Int32.ofNat 1).toNatClampNeg := rfl
  have e2 : (w + 2).toNatClampNeg = (w + Int32.ofNat 2).toNatClampNeg := rfl
  have e3 : (w + 3).toNatClampNeg = (w + Int32.ofNat 3).toNatClampNeg := rfl
  have e5 : (w + 5).toNatClampNeg = (w + Int32.ofNat 5).toNatClampNeg := rfl
  have e8 : (w + 8).toNatClampNeg = (w + Int32.ofNat 8).toNatClampNeg := rfl
  intro s s1 s2
  by_cases q : (s : Int) = a
  · unfold RF at hr
    unfold NewOk Rec
    rw [show (w + 8).toNatClampNeg = 1350 + 9 * s + 8 by omega, upd_s]
    rw [upd_i (show ¬ 1350 + 9 * s = 1350 + 9 * s + 8 by omega), upd_i (show ¬ 1350 + 9 * s + 1 = 1350 + 9 * s + 8 by omega), upd_i (show ¬ 1350 + 9 * s + 2 = 1350 + 9 * s + 8 by omega), upd_i (show ¬ 1350 + 9 * s + 3 = 1350 + 9 * s + 8 by omega), upd_i (show ¬ 1350 + 9 * s + 5 = 1350 + 9 * s + 8 by omega)]
    rw [show w.toNatClampNeg = 1350 + 9 * s by omega, show (w + 1).toNatClampNeg = 1350 + 9 * s + 1 by omega, show (w + 2).toNatClampNeg = 1350 + 9 * s + 2 by omega, show (w + 3).toNatClampNeg = 1350 + 9 * s + 3 by omega, show (w + 5).toNatClampNeg = 1350 + 9 * s + 5 by omega] at hr
    omega
  · have h4 := h s (by omega) s2
    unfold NewOk at h4 ⊢
    rw [upd_i (by omega), upd_i (by omega), upd_i (by omega), upd_i (by omega), upd_i (by omega), upd_i (by omega)]
    exact h4
theorem RF.fr {f g : Nat → Int32} {w : Int32} {z y men : Int} (h : RF f w men) (fr : ∀ j : Nat, (j : Int) < z → g j = f j) (hw : w.toInt = y) (hy : 0 ≤ y ∧ y ≤ 1000000) (hz : y + 9 ≤ z) : RF g w men := by
  have h0 := tn_of hw hy.1
  have h1 := w_at hw hy 1 (by omega)
  have h2 := w_at hw hy 2 (by omega)
  have h3 := w_at hw hy 3 (by omega)
  have h5 := w_at hw hy 5 (by omega)
  have e1 : (w + 1).toNatClampNeg = (w + Int32.ofNat 1).toNatClampNeg := rfl
  have e2 : (w + 2).toNatClampNeg = (w + Int32.ofNat 2).toNatClampNeg := rfl
  have e3 : (w + 3).toNatClampNeg = (w + Int32.ofNat 3).toNatClampNeg := rfl
  have e5 : (w + 5).toNatClampNeg = (w + Int32.ofNat 5).toNatClampNeg := rfl
  unfold RF at h ⊢
  rw [fr w.toNatClampNeg (by omega), fr (w + 1).toNatClampNeg (by omega), fr (w + 2).toNatClampNeg (by omega), fr (w + 3).toNatClampNeg (by omega), fr (w + 5).toNatClampNeg (by omega)]
  exact h
/-- a step of the days that are kept -/
theorem Bd.rec {I : Im} (h : Bd I) {s w : Int32} (h52 : ¬ (I 102 52).toInt = 0) (hs : 0 ≤ s.toInt ∧ s.toInt < (I 102 53).toInt) (hw : w.toInt = 54 + 9 * s.toInt) : RF (I 102) w (I 102 0).toInt ∧ s.toInt < (I 102 (w + 8).toNatClampNeg).toInt ∧ (I 102 (w + 8).toNatClampNeg).toInt ≤ (I 102 53).toInt ∧ (I 102 53).toInt ≤ 30 := by
  have h30 := (h.ck.1 53).2.2.1 (by decide)
  have h0 := tn_of hw (by omega)
  have h1 := w_at hw (by omega) 1 (by omega)
  have h2 := w_at hw (by omega) 2 (by omega)
  have h3 := w_at hw (by omega) 3 (by omega)
  have h5 := w_at hw (by omega) 5 (by omega)
  have h8 := w_at hw (by omega) 8 (by omega)
  have e1 : (w + 1).toNatClampNeg = (w + Int32.ofNat 1).toNatClampNeg := rfl
  have e2 : (w + 2).toNatClampNeg = (w + Int32.ofNat 2).toNatClampNeg := rfl
  have e3 : (w + 3).toNatClampNeg = (w + Int32.ofNat 3).toNatClampNeg := rfl
  have e5 : (w + 5).toNatClampNeg = (w + Int32.ofNat 5).toNatClampNeg := rfl
  have e8 : (w + 8).toNatClampNeg = (w + Int32.ofNat 8).toNatClampNeg := rfl
  have q := h.ck.2.2 0 s.toInt.toNat (by decide) h52 (show ((s.toInt.toNat : Nat) : Int) < (I 102 53).toInt by omega)
  unfold RecOk Rec at q
  rw [show 324 * 0 + 54 + 9 * s.toInt.toNat + 8 = (w + 8).toNatClampNeg by omega, show 324 * 0 + 54 + 9 * s.toInt.toNat + 1 = (w + 1).toNatClampNeg by omega, show 324 * 0 + 54 + 9 * s.toInt.toNat + 2 = (w + 2).toNatClampNeg by omega, show 324 * 0 + 54 + 9 * s.toInt.toNat + 3 = (w + 3).toNatClampNeg by omega, show 324 * 0 + 54 + 9 * s.toInt.toNat + 5 = (w + 5).toNatClampNeg by omega, show 324 * 0 + 54 + 9 * s.toInt.toNat = w.toNatClampNeg by omega] at q
  unfold RF
  have z0 : (I 102 (324 * 0)) = I 102 0 := rfl
  have z53 : (I 102 (324 * 0 + 53)) = I 102 53 := rfl
  rw [z0, z53] at q
  omega
end PT7x1
