section PT7x1
theorem CF.step {d e f : Int32} {n : Int} (h : CF d e f.toInt) (hn : n = f.toInt + 1) (hf : ¬ (2329089562800 : Int64) / e.toInt64 + 2329089562800 / f.toInt64 = 2329089562800 / d.toInt64) : CF d e n := by
  intro g h1 h2
  by_cases q : g = f
  · rw [q]; exact hf
  · exact h g h1 (by have : ¬ g.toInt = f.toInt := fun z => q (Int32.toInt_inj.mp z); omega)
theorem CF.no {d e : Int32} {n : Int} (h : CF d e n) (hn : 31 ≤ n) (h1 : ¬ (¬ e ≤ d ∧ e - e / d * d = 0)) : ¬ CO d e := by
  intro q
  rcases q with q | ⟨f, f1, f2, f3⟩
  · exact h1 q
  · exact h f f1 (by omega) f3
/-- of each that has been reached there is one before it -/
noncomputable def RQ (I : Im) : Prop := ∀ d : Int32, 1 ≤ d.toInt → d.toInt ≤ 30 → 1 ≤ (I 108 d.toNatClampNeg).toInt → ∃ e : Int32, 1 ≤ e.toInt ∧ e.toInt ≤ 30 ∧ (I 108 e.toNatClampNeg).toInt = (I 108 d.toNatClampNeg).toInt - 1 ∧ CO d e
noncomputable def RZ (I : Im) (n : Int) : Prop := ∀ j : Int32, 0 ≤ j.toInt → j.toInt < n → (I 108 j.toNatClampNeg).toInt ≤ 0
theorem RZ.zero {I : Im} {n : Int} (h : n ≤ 0) : RZ I n := fun j h1 h2 => absurd h2 (by omega)
theorem RZ.step {I : Im} {i v : Int32} {n : Int} (h : RZ I i.toInt) (h0 : 0 ≤ i.toInt) (hn : n = i.toInt + 1) (hv : v.toInt ≤ 0) : RZ (uI I 108 (Int32.toNatClampNeg i) v) n := by
  intro j h1 h2
  by_cases q : j = i
  · rw [q, rd_eq]; exact hv
  · have h3 : ¬ j.toInt = i.toInt := fun z => q (Int32.toInt_inj.mp z)
    rw [rd_k (by have := tn_of (x := j) rfl h1; have := tn_of (x := i) rfl h0; omega)]
    exact h j h1 (by omega)
theorem RZ.rq {I : Im} {n : Int} (h : RZ I n) (hn : 31 ≤ n) : RQ I := fun d h1 h2 h3 => absurd (h d (by omega) (by omega)) (by omega)
theorem RQ.set {I : Im} {i v : Int32} (h : RQ I) (h1 : 1 ≤ i.toInt ∧ i.toInt ≤ 30) (hn : (I 108 i.toNatClampNeg).toInt < 0) (hv : 1 ≤ v.toInt) (he : ∃ e : Int32, 1 ≤ e.toInt ∧ e.toInt ≤ 30 ∧ (I 108 e.toNatClampNeg).toInt = v.toInt - 1 ∧ CO i e) : RQ (uI I 108 (Int32.toNatClampNeg i) v) := by
  have hr : ∀ j : Int32, 1 ≤ j.toInt → ¬ j = i → uI I 108 (Int32.toNatClampNeg i) v 108 j.toNatClampNeg = I 108 j.toNatClampNeg := fun j hj q => by
    have h3 : ¬ j.toInt = i.toInt := fun z => q (Int32.toInt_inj.mp z)
    exact rd_k (by have := tn_of (x := j) rfl (by omega); have := tn_of (x := i) rfl (by omega); omega)
  intro d d1 d2 d3
  by_cases q : d = i
  · subst q
    rw [rd_eq] at d3 ⊢
    obtain ⟨e, e1, e2, e3, e4⟩ := he
    refine ⟨e, e1, e2, ?_, e4⟩
    rw [hr e e1 (fun z => by subst z; omega)]; exact e3
  · rw [hr d d1 q] at d3 ⊢
    obtain ⟨e, e1, e2, e3, e4⟩ := h d d1 d2 d3
    refine ⟨e, e1, e2, ?_, e4⟩
    rw [hr e e1 (fun z => by subst z; omega)]; exact e3
theorem Bd.n27 {I : Im} (h : Bd I) : 0 ≤ (I 97 27).toInt ∧ (I 97 27).toInt ≤ 30 := h.o (show isO 112 97 12 = true from rfl) (show bnd 12 27 = some _ from rfl)
/-- what a reader of a bakery leaves -/
noncomputable def pR (j : Nat) : Prop := j = 1348
theorem ti_div {x y : Int32} {a b : Int} (hx : x.toInt = a) (hy : y.toInt = b) (ha : 0 ≤ a) (hb : 0 < b) : (x / y).toInt = a / b := by
  have h1 := i32 x
  rw [Int32.toInt_div, hx, hy, Int.tdiv_eq_ediv_of_nonneg ha]
  have h3 : 0 ≤ a / b := Int.ediv_nonneg ha (by omega)
  have h4 : a / b ≤ a := Int.ediv_le_self _ ha
  exact ti_bmod (by omega) (by omega)
theorem ti_rem {x y : Int32} {a b : Int} (hx : x.toInt = a) (hy : y.toInt = b) (ha : 0 ≤ a) (hb : 0 < b) : 0 ≤ (x - x / y * y).toInt ∧ (x - x / y * y).toInt < b ∧ (x - x / y * y).toInt ≤ a := by
  have h1 := i32 x
  have h3 := Int.mul_ediv_add_emod a b
  have h4 := Int.emod_nonneg a (show b ≠ 0 by omega)
  have h5 := Int.emod_lt_of_pos a hb
  have h6 : 0 ≤ a / b := Int.ediv_nonneg ha (by omega)
  have h8 : 0 ≤ b * (a / b) := Int.mul_nonneg (by omega) h6
  have h9 : (x / y * y).toInt = b * (a / b) := by
    rw [Int32.toInt_mul, ti_div hx hy ha hb, hy, Int.mul_comm]
    exact ti_bmod (by omega) (by omega)
  have h10 : (x - x / y * y).toInt = a - b * (a / b) := ti_sub hx h9 (by omega)
  omega
/-- a record's fields, at a place, by its kind -/
noncomputable def RF (f : Nat → Int32) (w : Int32) (men : Int) : Prop := ((f w.toNatClampNeg).toInt = 0 → 1 ≤ (f (w + 1).toNatClampNeg).toInt ∧ (f (w + 1).toNatClampNeg).toInt ≤ 30 ∧ 1 ≤ (f (w + 2).toNatClampNeg).toInt ∧ (f (w + 2).toNatClampNeg).toInt ≤ 30 ∧ 1 ≤ (f (w + 3).toNatClampNeg).toInt ∧ (f (w + 3).toNatClampNeg).toInt ≤ 30) ∧ ((f w.toNatClampNeg).toInt = 1 → 1 ≤ (f (w + 1).toNatClampNeg).toInt ∧ (f (w + 1).toNatClampNeg).toInt ≤ 30 ∧ 2 ≤ (f (w + 2).toNatClampNeg).toInt ∧ (f (w + 2).toNatClampNeg).toInt ≤ 30) ∧
  ((f w.toNatClampNeg).toInt = 2 ∨ (f w.toNatClampNeg).toInt = 3 → 0 ≤ (f (w + 1).toNatClampNeg).toInt ∧ (f (w + 1).toNatClampNeg).toInt < men ∧ 1 ≤ (f (w + 2).toNatClampNeg).toInt ∧ (f (w + 2).toNatClampNeg).toInt ≤ 30) ∧ ((f w.toNatClampNeg).toInt = 4 → 1 ≤ (f (w + 1).toNatClampNeg).toInt ∧ (f (w + 1).toNatClampNeg).toInt ≤ 9) ∧ ((f w.toNatClampNeg).toInt = 6 → ((f (w + 5).toNatClampNeg).toInt = 1 → 1 ≤ (f (w + 1).toNatClampNeg).toInt ∧ (f (w + 1).toNatClampNeg).toInt ≤ 30) ∧ (¬ (f (w + 5).toNatClampNeg).toInt = 1 → 0 ≤ (f (w + 1).toNatClampNeg).toInt ∧ (f (w + 1).toNatClampNeg).toInt < men))
noncomputable def NewOk (f : Nat → Int32) (s : Nat) (n men : Int) : Prop := Rec (f (1350 + 9 * s)).toInt (f (1350 + 9 * s + 1)).toInt (f (1350 + 9 * s + 2)).toInt (f (1350 + 9 * s + 3)).toInt (f (1350 + 9 * s + 5)).toInt (f (1350 + 9 * s + 8)).toInt (s : Int) n men
/-- new records, from one on -/
noncomputable def NR (f : Nat → Int32) (a n men : Int) : Prop := ∀ s : Nat, a ≤ (s : Int) → (s : Int) < n → NewOk f s n men
theorem NR.nil {f : Nat → Int32} {a n men : Int} (h : n ≤ a) : NR f a n men := fun s h1 h2 => absurd h2 (by omega)
theorem NR.app {f g : Nat → Int32} {a n n2 men z : Int} (h1 : NR f a n men) (fr : ∀ j : Nat, (j : Int) < z → g j = f j) (hz : z = 1350 + 9 * n) (h2 : NR g n n2 men) (hn : n ≤ n2) : NR g a n2 men := by
  intro s s1 s2
  by_cases q : (s : Int) < n
  · have h3 := h1 s s1 q
    unfold NewOk at h3 ⊢
    rw [fr (1350 + 9 * s) (by omega), fr (1350 + 9 * s + 1) (by omega), fr (1350 + 9 * s + 2) (by omega), fr (1350 + 9 * s + 3) (by omega), fr (1350 + 9 * s + 5) (by omega), fr (1350 + 9 * s + 8) (by omega)]
    unfold Rec at h3 ⊢
    omega
  · exact h2 s (by omega) s2
theorem w_at {w : Int32} {z : Int} (hw : w.toInt = z) (h0 : 0 ≤ z ∧ z ≤ 1000000) (k : Nat) (hk : k < 10) : (((w + Int32.ofNat k).toNatClampNeg : Nat) : Int) = z + k := by
  have h1 : (Int32.ofNat k).toInt = (k : Int) := nI_toInt (by omega)
  exact tn_of (ti_add hw h1 (by omega)) (by omega)
theorem NR.close {f : Nat → Int32} {a n men : Int} {w v : Int32} (h : NR f (a + 1) n men) (hw : w.toInt = 1350 + 9 * a) (ha : 0 ≤ a ∧ a ≤ 30) (hn : a + 1 ≤ n) (hr : RF f w men) (hv : v.toInt = n) : NR (upd f (w + 8).toNatClampNeg v) a n men := by
  have h0 := tn_of hw (by omega)
  have h1 := w_at hw (by omega) 1 (by omega)
  have h2 := w_at hw (by omega) 2 (by omega)
  have h3 := w_at hw (by omega) 3 (by omega)
  have h5 := w_at hw (by omega) 5 (by omega)
  have h8 := w_at hw (by omega) 8 (by omega)
  have e1 : (w + 1).toNatClampNeg = (w + Int32.ofNat 1).toNatClampNeg := rfl
  have e2 : (w + 2).toNatClampNeg = (w + Int32.ofNat 2).toNatClampNeg := rfl
  have e3 : (w + 3).toNatClampNeg = (w + Int32.ofNat 3).toNatClampNeg := rfl
  have e5 : (w + 5).toNatClampNeg = (w + Int32.ofNat 5).toNatClampNeg := rfl
  have e8 : (w + 8).toNatClampNeg = (w + Int32.ofNat 8).toNatClampNeg := rfl
  intro s s1 s2
  by_cases q : (s : Int) = a
  · unfold RF at hr
    unfold NewOk Rec
    rw [show (w + 8).toNatClampNeg = 1350 + 9 * s + 8 by omega, upd_s]
    rw [upd_i (show ¬ 1350 + 9 * s = 1350 + 9 * s + 8 by omega), upd_i (show ¬ 1350 + 9 * s + 1 = 1350 + 9 * s + 8 by omega), upd_i (show ¬ 1350 + 9 * s + 2 = 1350 + 9 * s + 8 by omega), upd_i (show ¬ 1350 + 9 * s + 3 = 1350 + 9 * s + 8 by omega), upd_i (show ¬ 1350 + 9 * s + 5 = 1350 + 9 * s + 8 by omega)]
    rw [show w.toNatClampNeg = 1350 + 9 * s by omega, show (w + 1).toNatClampNeg = 1350 + 9 * s + 1 by omega, show (w + 2).toNatClampNeg = 1350 + 9 * s + 2 by omega, show (w + 3).toNatClampNeg = 1350 + 9 * s + 3 by omega, show (w + 5).toNatClampNeg = 1350 + 9 * s + 5 by omega] at hr
    omega
  · have h4 := h s (by omega) s2
    unfold NewOk at h4 ⊢
    rw [upd_i (by omega), upd_i (by omega), upd_i (by omega), upd_i (by omega), upd_i (by omega), upd_i (by omega)]
    exact h4
end PT7x1
