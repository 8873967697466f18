/-! ===== the greedy row of a share, as both sides reckon it ===== -/
def gcf : Nat → Int64 → Int64 → Int64
  | 0, a, _ => a
  | m + 1, a, b => if b = 0 then a else gcf m b (a - a / b * b)
theorem gcf_e1 {v4 v6 g : Int64} {v8 : Int32} (h : gcf (1000 - v8.toInt).toNat v4 v6 = g) (hv : 1000 ≤ v8.toInt) : v4 = g := by
  rw [show (1000 - v8.toInt).toNat = 0 by omega] at h
  exact h
theorem gcf_e2 {v4 v6 g : Int64} {n : Nat} (h : gcf n v4 v6 = g) (hz : v6.toInt = 0) : v4 = g := by
  have hz1 : v6 = 0 := Int64.toInt_inj.mp hz
  subst hz1
  cases n with
  | zero => exact h
  | succ n =>
    unfold gcf at h
    rwa [if_pos rfl] at h
theorem gcf_s {v4 v6 g : Int64} {v8 w8 : Int32} (h : gcf (1000 - v8.toInt).toNat v4 v6 = g) (hv : v8.toInt < 1000) (hz : ¬ v6.toInt = 0) (h8 : w8.toInt = v8.toInt + 1) : gcf (1000 - w8.toInt).toNat v6 (v4 - v4 / v6 * v6) = g := by
  rw [show (1000 - v8.toInt).toNat = (1000 - w8.toInt).toNat + 1 by omega] at h
  unfold gcf at h
  rwa [if_neg (fun q => hz (by rw [q]; rfl))] at h
abbrev gn (t b : Int64) : Int64 := ((b + t) - 1) / t
def grN : Nat → Nat → Int64 → Int64 → Int64
  | 0, _, _, _ => 0
  | m + 1, j, t, b => if t ≤ 0 then 0 else match j with
    | 0 => gn t b
    | j + 1 => if (t * gn t b) - b = 0 then 0 else if 1 ≤ gcf 1000 ((t * gn t b) - b) (b * gn t b) then grN m j (((t * gn t b) - b) / gcf 1000 ((t * gn t b) - b) (b * gn t b)) ((b * gn t b) / gcf 1000 ((t * gn t b) - b) (b * gn t b)) else 0
def rfN : Nat → Int64 → Int64 → Int32
  | 0, L, B => if L ≤ 0 then -1 else if gn L B ≤ 100000000 then (gn L B).toInt32 else -1
  | j + 1, L, B => if L ≤ 0 then -1 else if gn L B ≤ 100000000 then rfN j ((L * gn L B) - B) (B * gn L B) else -1
def gcls (y : Int64) : Int32 := if y = 0 then -1 else if y ≤ 100000000 then y.toInt32 else -1
/-- what the scribe answers beyond the limit -/
def gchC : Nat → Int64 → Int64 → Bool
  | 0, _, _ => true
  | m + 1, t, b => if t ≤ 0 then true else !decide (gn t b ≤ 100000000) && (if (t * gn t b) - b = 0 then true else if 1 ≤ gcf 1000 ((t * gn t b) - b) (b * gn t b) then gchC m (((t * gn t b) - b) / gcf 1000 ((t * gn t b) - b) (b * gn t b)) ((b * gn t b) / gcf 1000 ((t * gn t b) - b) (b * gn t b)) else true)
theorem gcls_0 : gcls 0 = -1 := by decide
theorem gcls_b {y : Int64} (h : ¬ y ≤ 100000000) : gcls y = -1 := by
  unfold gcls
  rw [if_neg h, ite_self]
theorem gchC_ok : ∀ (m : Nat) (t b : Int64), gchC m t b = true → ∀ j, gcls (grN m j t b) = -1 := by
  intro m
  induction m with
  | zero => intro t b _ j; exact gcls_0
  | succ m ih =>
    intro t b h j
    unfold gchC at h
    unfold grN
    by_cases ht : t ≤ 0
    · rw [if_pos ht]; exact gcls_0
    · rw [if_neg ht] at h ⊢
      rw [Bool.and_eq_true, Bool.not_eq_true', decide_eq_false_iff_not] at h
      cases j with
      | zero => exact gcls_b h.1
      | succ j =>
        have h2 := h.2
        dsimp only
        by_cases hl : (t * gn t b) - b = 0
        · rw [if_pos hl]; exact gcls_0
        · rw [if_neg hl] at h2 ⊢
          by_cases hg : 1 ≤ gcf 1000 ((t * gn t b) - b) (b * gn t b)
          · rw [if_pos hg] at h2 ⊢
            exact ih _ _ h2 j
          · rw [if_neg hg]; exact gcls_0
/-- both in step -/
def gchk : Nat → Int64 → Int64 → Int64 → Int64 → Bool
  | 0, _, _, _, _ => false
  | m + 1, t, b, L, B => if t ≤ 0 then decide (L ≤ 0) else !decide (L ≤ 0) && (decide (gn t b = gn L B) && (if gn L B ≤ 100000000 then
      !decide (gn t b = 0) && (if (t * gn t b) - b = 0 then decide ((L * gn L B) - B ≤ 0) else if 1 ≤ gcf 1000 ((t * gn t b) - b) (b * gn t b) then gchk m (((t * gn t b) - b) / gcf 1000 ((t * gn t b) - b) (b * gn t b)) ((b * gn t b) / gcf 1000 ((t * gn t b) - b) (b * gn t b)) ((L * gn L B) - B) (B * gn L B) else false)
    else (if (t * gn t b) - b = 0 then true else if 1 ≤ gcf 1000 ((t * gn t b) - b) (b * gn t b) then gchC m (((t * gn t b) - b) / gcf 1000 ((t * gn t b) - b) (b * gn t b)) ((b * gn t b) / gcf 1000 ((t * gn t b) - b) (b * gn t b)) else true)))
theorem rfN_e {L B : Int64} (h : L ≤ 0) : ∀ j, rfN j L B = -1 := by
  intro j
  cases j <;> (unfold rfN; rw [if_pos h])
theorem gchk_ok : ∀ (m : Nat) (t b L B : Int64), gchk m t b L B = true → ∀ j, gcls (grN m j t b) = rfN j L B := by
  intro m
  induction m with
  | zero => intro t b L B h; exact absurd h Bool.false_ne_true
  | succ m ih =>
    intro t b L B h j
    unfold gchk at h
    unfold grN
    by_cases ht : t ≤ 0
    · rw [if_pos ht] at h ⊢
      rw [rfN_e (of_decide_eq_true h)]; exact gcls_0
    · rw [if_neg ht] at h ⊢
      rw [Bool.and_eq_true, Bool.and_eq_true, Bool.not_eq_true', decide_eq_false_iff_not, decide_eq_true_eq] at h
      obtain ⟨hL, he, h⟩ := h
      by_cases hd : gn L B ≤ 100000000
      · rw [if_pos hd, Bool.and_eq_true, Bool.not_eq_true', decide_eq_false_iff_not] at h
        obtain ⟨h0, h⟩ := h
        cases j with
        | zero =>
          unfold rfN
          rw [if_neg hL, if_pos hd]
          show gcls (gn t b) = _
          unfold gcls
          rw [if_neg h0, he, if_pos hd]
        | succ j =>
          unfold rfN
          rw [if_neg hL, if_pos hd]
          dsimp only
          by_cases hl : (t * gn t b) - b = 0
          · rw [if_pos hl] at h ⊢
            rw [rfN_e (of_decide_eq_true h)]; exact gcls_0
          · rw [if_neg hl] at h ⊢
            by_cases hg : 1 ≤ gcf 1000 ((t * gn t b) - b) (b * gn t b)
            · rw [if_pos hg] at h ⊢
              exact ih _ _ _ _ h j
            · rw [if_neg hg] at h
              exact absurd h Bool.false_ne_true
      · rw [if_neg hd] at h
        have hr : rfN j L B = -1 := by cases j <;> (unfold rfN; rw [if_neg hL, if_neg hd])
        rw [hr]
        cases j with
        | zero => exact gcls_b (by rw [he]; exact hd)
        | succ j =>
          dsimp only
          by_cases hl : (t * gn t b) - b = 0
          · rw [if_pos hl]; exact gcls_0
          · rw [if_neg hl] at h ⊢
            by_cases hg : 1 ≤ gcf 1000 ((t * gn t b) - b) (b * gn t b)
            · rw [if_pos hg] at h ⊢
              exact gchC_ok _ _ _ h j
            · rw [if_neg hg]; exact gcls_0
/-! the same, every number come to before it is used (for the kernel) -/
def fI {β : Type} (x : Int64) (k : Int64 → β) : β := match x.toBitVec.toNat with
  | 0 => k 0
  | n + 1 => k (Int64.ofBitVec (BitVec.ofNat 64 (n + 1)))
theorem fI_eq {β : Type} (x : Int64) (k : Int64 → β) : fI x k = k x := by
  have e : ∀ m, x.toBitVec.toNat = m → Int64.ofBitVec (BitVec.ofNat 64 m) = x := fun m h => by
    rw [← h, BitVec.ofNat_toNat, BitVec.setWidth_eq, Int64.ofBitVec_toBitVec]
  unfold fI
  split
  · next h => exact congrArg k (e 0 h)
  · next n h => exact congrArg k (e (n + 1) h)
def gcfF : Nat → Int64 → Int64 → Int64
  | 0, a, _ => a
  | m + 1, a, b => if b = 0 then a else fI (a - a / b * b) (fun r => gcfF m b r)
theorem gcfF_eq : ∀ (m : Nat) (a b : Int64), gcfF m a b = gcf m a b := by
  intro m
  induction m with
  | zero => intro a b; rfl
  | succ m ih =>
    intro a b
    unfold gcfF gcf
    rw [fI_eq, ih]
def gchCF : Nat → Int64 → Int64 → Bool
  | 0, _, _ => true
  | m + 1, t, b => if t ≤ 0 then true else fI (gn t b) (fun n => !decide (n ≤ 100000000) && fI ((t * n) - b) (fun l => if l = 0 then true else fI (b * n) (fun c => fI (gcfF 1000 l c) (fun g => if 1 ≤ g then fI (l / g) (fun t1 => fI (c / g) (fun b1 => gchCF m t1 b1)) else true))))
theorem gchCF_eq : ∀ (m : Nat) (t b : Int64), gchCF m t b = gchC m t b := by
  intro m
  induction m with
  | zero => intro t b; rfl
  | succ m ih =>
    intro t b
    unfold gchCF gchC
    simp only [fI_eq, gcfF_eq, ih]
def gchkF : Nat → Int64 → Int64 → Int64 → Int64 → Bool
  | 0, _, _, _, _ => false
  | m + 1, t, b, L, B => if t ≤ 0 then decide (L ≤ 0) else !decide (L ≤ 0) && fI (gn t b) (fun n => fI (gn L B) (fun N => decide (n = N) && (if N ≤ 100000000 then
      !decide (n = 0) && fI ((t * n) - b) (fun l => fI ((L * N) - B) (fun L1 => if l = 0 then decide (L1 ≤ 0) else fI (b * n) (fun c => fI (gcfF 1000 l c) (fun g => if 1 ≤ g then fI (l / g) (fun t1 => fI (c / g) (fun b1 => fI (B * N) (fun B1 => gchkF m t1 b1 L1 B1))) else false))))
    else fI ((t * n) - b) (fun l => if l = 0 then true else fI (b * n) (fun c => fI (gcfF 1000 l c) (fun g => if 1 ≤ g then fI (l / g) (fun t1 => fI (c / g) (fun b1 => gchCF m t1 b1)) else true))))))
theorem gchkF_eq : ∀ (m : Nat) (t b L B : Int64), gchkF m t b L B = gchk m t b L B := by
  intro m
  induction m with
  | zero => intro t b L B; rfl
  | succ m ih =>
    intro t b L B
    unfold gchkF gchk
    simp only [fI_eq, gcfF_eq, gchCF_eq, ih]
set_option maxRecDepth 100000 in
theorem g_allF : ∀ p, p < 31 → ∀ q, q < 31 → 0 < p → p < q → gchkF 30 (Int32.toInt64 (nI p)) (Int32.toInt64 (nI q)) (Int32.toInt64 (nI p)) (Int32.toInt64 (nI q)) = true := by decide +kernel
theorem g_all : ∀ p, p < 31 → ∀ q, q < 31 → 0 < p → p < q → gchk 30 (Int32.toInt64 (nI p)) (Int32.toInt64 (nI q)) (Int32.toInt64 (nI p)) (Int32.toInt64 (nI q)) = true := fun p hp q hq h0 h1 => by
  rw [← gchkF_eq]; exact g_allF p hp q hq h0 h1
/-- the scribe's answer, the reference's -/
def gaC (v1 v2 v3 : Int32) : Int32 := if 1 ≤ v1.toInt ∧ v1.toInt < v2.toInt ∧ v2.toInt ≤ 30 then (if 0 ≤ v3.toInt then gcls (grN 30 v3.toInt.toNat (Int32.toInt64 v1) (Int32.toInt64 v2)) else -1) else -1
def gaR (v1 v2 v3 : Int32) : Int32 := if 1 ≤ v1.toInt ∧ v1.toInt < v2.toInt ∧ v2.toInt ≤ 30 then (if 0 ≤ v3.toInt then rfN v3.toInt.toNat (Int32.toInt64 v1) (Int32.toInt64 v2) else -1) else -1
theorem ga_eq (v1 v2 v3 : Int32) : gaC v1 v2 v3 = gaR v1 v2 v3 := by
  unfold gaC gaR
  by_cases h : 1 ≤ v1.toInt ∧ v1.toInt < v2.toInt ∧ v2.toInt ≤ 30
  · rw [if_pos h, if_pos h]
    by_cases h3 : 0 ≤ v3.toInt
    · rw [if_pos h3, if_pos h3]
      have e : ∀ v : Int32, 0 ≤ v.toInt → v = nI v.toInt.toNat := fun v hv => Int32.toInt_inj.mp (by rw [nI_toInt (by have := Int32.toInt_lt v; omega)]; omega)
      have a := g_all v1.toInt.toNat (by omega) v2.toInt.toNat (by omega) (by omega) (by omega)
      rw [← e v1 (by omega), ← e v2 (by omega)] at a
      exact gchk_ok _ _ _ _ _ a _
    · rw [if_neg h3, if_neg h3]
  · rw [if_neg h, if_neg h]
/-! ===== the loops' steps ===== -/
theorem g64_le {t : Int64} (h : t.toInt ≤ 0) : t ≤ 0 := by rw [Int64.le_iff_toInt_le]; exact h
theorem g64_nle {t : Int64} (h : 0 < t.toInt) : ¬ t ≤ 0 := fun q => by
  have a := Int64.le_iff_toInt_le.mp q
  have z : (0 : Int64).toInt = 0 := rfl
  omega
theorem g64_1 {t : Int64} (h : 1 ≤ t.toInt) : 1 ≤ t := by rw [Int64.le_iff_toInt_le]; exact h
theorem g64_n1 {t : Int64} (h : t.toInt < 1) : ¬ 1 ≤ t := fun q => by
  have a := Int64.le_iff_toInt_le.mp q
  have z : (1 : Int64).toInt = 1 := rfl
  omega
theorem g64_ne {t : Int64} (h : ¬ t.toInt = 0) : ¬ t = 0 := fun q => h (by rw [q]; rfl)
theorem g64_L {t : Int64} (h : t.toInt ≤ 100000000) : t ≤ 100000000 := by rw [Int64.le_iff_toInt_le]; exact h
theorem g64_nL {t : Int64} (h : 100000000 < t.toInt) : ¬ t ≤ 100000000 := fun q => by
  have a := Int64.le_iff_toInt_le.mp q
  have z : (100000000 : Int64).toInt = 100000000 := rfl
  omega
theorem gcf_z {a b : Int64} : gcf (1000 - (0 : Int32).toInt).toNat a b = gcf 1000 a b := by
  rw [show (1000 - (0 : Int32).toInt).toNat = 1000 from rfl]
theorem gr_e0 {v2 v7 : Int32} {t b G : Int64} (h : grN (30 - v7.toInt).toNat (v2.toInt - v7.toInt).toNat t b = G) (h7 : 30 ≤ v7.toInt) : (0 : Int64) = G := by
  rw [show (30 - v7.toInt).toNat = 0 by omega] at h
  unfold grN at h
  exact h
theorem gr_e1 {v2 v7 : Int32} {t b G : Int64} (h : grN (30 - v7.toInt).toNat (v2.toInt - v7.toInt).toNat t b = G) (h7 : v7.toInt < 30) (ht : t.toInt ≤ 0) : (0 : Int64) = G := by
  rw [show (30 - v7.toInt).toNat = (29 - v7.toInt).toNat + 1 by omega] at h
  unfold grN at h
  rw [if_pos (g64_le ht)] at h
  exact h
theorem gr_e2 {v2 v7 : Int32} {t b G : Int64} (h : grN (30 - v7.toInt).toNat (v2.toInt - v7.toInt).toNat t b = G) (h7 : v7.toInt < 30) (ht : 0 < t.toInt) (he : v7.toInt = v2.toInt) : gn t b = G := by
  rw [show (30 - v7.toInt).toNat = (29 - v7.toInt).toNat + 1 by omega, show (v2.toInt - v7.toInt).toNat = 0 by omega] at h
  unfold grN at h
  rw [if_neg (g64_nle ht)] at h
  exact h
theorem gr_e3 {v2 v7 : Int32} {t b G : Int64} (h : grN (30 - v7.toInt).toNat (v2.toInt - v7.toInt).toNat t b = G) (h7 : v7.toInt < 30) (ht : 0 < t.toInt) (he : v7.toInt < v2.toInt) (hl : ((t * gn t b) - b).toInt = 0) : (0 : Int64) = G := by
  rw [show (30 - v7.toInt).toNat = (29 - v7.toInt).toNat + 1 by omega, show (v2.toInt - v7.toInt).toNat = (v2.toInt - v7.toInt - 1).toNat + 1 by omega] at h
  unfold grN at h
  rw [if_neg (g64_nle ht)] at h
  dsimp only at h
  rw [if_pos (Int64.toInt_inj.mp hl)] at h
  exact h
theorem gr_e4 {v2 v7 : Int32} {t b G y : Int64} (h : grN (30 - v7.toInt).toNat (v2.toInt - v7.toInt).toNat t b = G) (h7 : v7.toInt < 30) (ht : 0 < t.toInt) (he : v7.toInt < v2.toInt) (hl : ¬ ((t * gn t b) - b).toInt = 0) (hy : y = gcf 1000 ((t * gn t b) - b) (b * gn t b)) (h1 : y.toInt < 1) : (0 : Int64) = G := by
  rw [show (30 - v7.toInt).toNat = (29 - v7.toInt).toNat + 1 by omega, show (v2.toInt - v7.toInt).toNat = (v2.toInt - v7.toInt - 1).toNat + 1 by omega] at h
  unfold grN at h
  rw [if_neg (g64_nle ht)] at h
  dsimp only at h
  rw [if_neg (g64_ne hl), ← hy, if_neg (g64_n1 h1)] at h
  exact h
theorem gr_s {v2 v7 w7 : Int32} {t b G y : Int64} (h : grN (30 - v7.toInt).toNat (v2.toInt - v7.toInt).toNat t b = G) (h7 : v7.toInt < 30) (ht : 0 < t.toInt) (he : v7.toInt < v2.toInt) (hl : ¬ ((t * gn t b) - b).toInt = 0) (hy : y = gcf 1000 ((t * gn t b) - b) (b * gn t b)) (h1 : 1 ≤ y.toInt) (hw : w7.toInt = v7.toInt + 1) : grN (30 - w7.toInt).toNat (v2.toInt - w7.toInt).toNat (((t * gn t b) - b) / y) ((b * gn t b) / y) = G := by
  rw [show (30 - v7.toInt).toNat = (30 - w7.toInt).toNat + 1 by omega, show (v2.toInt - v7.toInt).toNat = (v2.toInt - w7.toInt).toNat + 1 by omega] at h
  unfold grN at h
  rw [if_neg (g64_nle ht)] at h
  dsimp only at h
  rw [if_neg (g64_ne hl), ← hy, if_pos (g64_1 h1)] at h
  exact h
theorem gr_z {v2 : Int32} {t b : Int64} : grN (30 - (0 : Int32).toInt).toNat (v2.toInt - (0 : Int32).toInt).toNat t b = grN 30 v2.toInt.toNat t b := by
  have z : (0 : Int32).toInt = 0 := rfl
  rw [z, show ((30 : Int) - 0).toNat = 30 from rfl, show v2.toInt - 0 = v2.toInt by omega]
/-- what the scribe answers -/
theorem gaC_n {v1 v2 v3 : Int32} (h : ¬ (1 ≤ v1.toInt ∧ v1.toInt < v2.toInt ∧ v2.toInt ≤ 30)) : (-1 : Int32).toInt = (gaC v1 v2 v3).toInt := by
  unfold gaC; rw [if_neg h]
theorem gaC_k {v1 v2 v3 : Int32} (h : v3.toInt < 0) : (-1 : Int32).toInt = (gaC v1 v2 v3).toInt := by
  unfold gaC; rw [if_neg (show ¬ 0 ≤ v3.toInt by omega), ite_self]
theorem gaC_e {v1 v2 v3 : Int32} {y : Int64} (h : 1 ≤ v1.toInt ∧ v1.toInt < v2.toInt ∧ v2.toInt ≤ 30) (h3 : 0 ≤ v3.toInt) (hy : y = grN 30 v3.toInt.toNat (Int32.toInt64 v1) (Int32.toInt64 v2)) : gaC v1 v2 v3 = gcls y := by
  unfold gaC; rw [if_pos h, if_pos h3, hy]
theorem gaC_z {v1 v2 v3 : Int32} {y : Int64} (h : 1 ≤ v1.toInt ∧ v1.toInt < v2.toInt ∧ v2.toInt ≤ 30) (h3 : 0 ≤ v3.toInt) (hy : y = grN 30 v3.toInt.toNat (Int32.toInt64 v1) (Int32.toInt64 v2)) (hz : y.toInt = 0) : (-1 : Int32).toInt = (gaC v1 v2 v3).toInt := by
  rw [gaC_e h h3 hy, show y = 0 from Int64.toInt_inj.mp hz, gcls_0]
theorem gaC_b {v1 v2 v3 : Int32} {y : Int64} (h : 1 ≤ v1.toInt ∧ v1.toInt < v2.toInt ∧ v2.toInt ≤ 30) (h3 : 0 ≤ v3.toInt) (hy : y = grN 30 v3.toInt.toNat (Int32.toInt64 v1) (Int32.toInt64 v2)) (hz : 100000000 < y.toInt) : (-1 : Int32).toInt = (gaC v1 v2 v3).toInt := by
  rw [gaC_e h h3 hy, gcls_b (g64_nL hz)]
theorem gaC_y {v1 v2 v3 : Int32} {y : Int64} (h : 1 ≤ v1.toInt ∧ v1.toInt < v2.toInt ∧ v2.toInt ≤ 30) (h3 : 0 ≤ v3.toInt) (hy : y = grN 30 v3.toInt.toNat (Int32.toInt64 v1) (Int32.toInt64 v2)) (hn : ¬ y.toInt = 0) (hz : y.toInt ≤ 100000000) : (Int64.toInt32 y).toInt = (gaC v1 v2 v3).toInt := by
  rw [gaC_e h h3 hy]
  unfold gcls
  rw [if_neg (g64_ne hn), if_pos (g64_L hz)]
/-- what the reference answers -/
def rgN (v3 v8 : Int32) (L B : Int64) : Int32 := if v3.toInt < v8.toInt then -1 else rfN (v3.toInt - v8.toInt).toNat L B
theorem rg_e0 {v3 v8 G : Int32} {L B : Int64} (h : rgN v3 v8 L B = G) (h3 : v3.toInt < v8.toInt) : (-1 : Int32).toInt = G.toInt := by
  rw [← h]; unfold rgN; rw [if_pos h3]
theorem rg_e1 {v3 v8 G : Int32} {L B : Int64} (h : rgN v3 v8 L B = G) (h3 : v8.toInt ≤ v3.toInt) (hL : L.toInt ≤ 0) : (-1 : Int32).toInt = G.toInt := by
  rw [← h]; unfold rgN; rw [if_neg (by omega), rfN_e (g64_le hL)]
theorem rg_e2 {v3 v8 G : Int32} {L B : Int64} (h : rgN v3 v8 L B = G) (h3 : v8.toInt ≤ v3.toInt) (hL : 0 < L.toInt) (hb : 100000000 < (gn L B).toInt) : (-1 : Int32).toInt = G.toInt := by
  rw [← h]; unfold rgN; rw [if_neg (by omega)]
  have hr : ∀ j, rfN j L B = -1 := by
    intro j
    cases j <;> (unfold rfN; rw [if_neg (g64_nle hL), if_neg (g64_nL hb)])
  rw [hr]
theorem rg_e3 {v3 v8 G : Int32} {L B : Int64} (h : rgN v3 v8 L B = G) (h3 : v8.toInt = v3.toInt) (hL : 0 < L.toInt) (hb : (gn L B).toInt ≤ 100000000) : (Int64.toInt32 (gn L B)).toInt = G.toInt := by
  rw [← h]; unfold rgN; rw [if_neg (by omega), show (v3.toInt - v8.toInt).toNat = 0 by omega]
  unfold rfN
  rw [if_neg (g64_nle hL), if_pos (g64_L hb)]
theorem rg_s {v3 v8 w8 G : Int32} {L B : Int64} (h : rgN v3 v8 L B = G) (h3 : v8.toInt < v3.toInt) (hL : 0 < L.toInt) (hb : (gn L B).toInt ≤ 100000000) (hw : w8.toInt = v8.toInt + 1) : rgN v3 w8 ((L * gn L B) - B) (B * gn L B) = G := by
  rw [← h]; unfold rgN; rw [if_neg (by omega), if_neg (by omega), show (v3.toInt - v8.toInt).toNat = (v3.toInt - w8.toInt).toNat + 1 by omega]
  conv => rhs; unfold rfN
  rw [if_neg (g64_nle hL), if_pos (g64_L hb)]
theorem rg_z {v1 v2 v3 : Int32} (h : 1 ≤ v1.toInt ∧ v1.toInt < v2.toInt ∧ v2.toInt ≤ 30) : rgN v3 0 (Int32.toInt64 v1) (Int32.toInt64 v2) = gaR v1 v2 v3 := by
  have z : (0 : Int32).toInt = 0 := rfl
  unfold rgN gaR
  rw [if_pos h, z]
  by_cases h3 : 0 ≤ v3.toInt
  · rw [if_neg (by omega), if_pos h3, show v3.toInt - 0 = v3.toInt by omega]
  · rw [if_pos (by omega), if_neg h3]
theorem gaR_n {v1 v2 v3 : Int32} (h : ¬ (1 ≤ v1.toInt ∧ v1.toInt < v2.toInt ∧ v2.toInt ≤ 30)) : (-1 : Int32).toInt = (gaR v1 v2 v3).toInt := by
  unfold gaR; rw [if_neg h]
