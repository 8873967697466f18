/-! ===== the latest fault: both sides tell the same ===== -/
def FQ (I : Im) : Prop := (I 3 3 = 0 ∧ I 97 10 = -1 ∧ I 97 11 = -1) ∨ (I 3 3 = 1 ∧ I 3 12 = I 97 10 ∧ I 3 13 = I 97 11)
theorem FQ.kp {I I2 : Im} (h : FQ I) (k : PlK plF I I2) : FQ I2 := by
  unfold FQ at h ⊢
  rw [k.at (o := 3) (k := 3) rfl, k.at (o := 3) (k := 12) rfl, k.at (o := 3) (k := 13) rfl, k.at (o := 97) (k := 10) rfl, k.at (o := 97) (k := 11) rfl]
  exact h
theorem PlK.F {I I2 : Im} (a : I2 3 3 = I 3 3) (b : I2 3 12 = I 3 12) (c : I2 3 13 = I 3 13) (e : I2 97 10 = I 97 10) (g : I2 97 11 = I 97 11) : PlK plF I I2 := fun q hq => by
  have h5 : q = (3, 3) ∨ q = (3, 12) ∨ q = (3, 13) ∨ q = (97, 10) ∨ q = (97, 11) := by simpa [plF] using hq
  rcases h5 with z | z | z | z | z <;> subst z
  · exact a
  · exact b
  · exact c
  · exact e
  · exact g
/-- a text was told to the class, of at most so many bytes -/
def HQt (f l : Nat) (G : Nat → Int32 × Int32) (v : Int32) (I I2 : Im) : Prop := ((v < 0 ∨ nI f < v ∨ nI l < v) ∧ PlK plF I I2) ∨ ∃ n, n ≤ f ∧ n ≤ l ∧ v = nI n ∧ I2 3 3 = 1 ∧ I2 3 12 = (G n).1 ∧ I2 3 13 = (G n).2
def MQt (f l : Nat) (G : Nat → Int32 × Int32) (v : Int32) (I I2 : Im) : Prop := ((v < 0 ∨ nI f < v ∨ nI l < v) ∧ PlK plF I I2) ∨ ∃ n, n ≤ f ∧ n ≤ l ∧ v = nI n ∧ I2 97 10 = (G n).1 ∧ I2 97 11 = (G n).2 ∧ I2 3 3 = I 3 3 ∧ I2 3 12 = I 3 12 ∧ I2 3 13 = I 3 13
theorem FQ.txt {f l : Nat} {G : Nat → Int32 × Int32} {v : Int32} {I I1 I2 : Im} (hf : f ≤ 900) (hl : l ≤ 900) (h : FQ I) (h1 : HQt f l G v I I1) (h2 : MQt f l G v I1 I2) : FQ I2 := by
  have bad : ∀ n : Nat, n ≤ f → n ≤ l → ¬ (nI n < 0 ∨ nI f < nI n ∨ nI l < nI n) := fun n hn h3 z => by
    rcases z with q | q | q
    · exact absurd q (nI_pos (by omega))
    · have := (nlt_nI (by omega) (by omega)).mp q; omega
    · have := (nlt_nI (by omega) (by omega)).mp q; omega
  rcases h1 with ⟨a, b⟩ | ⟨n, a, a3, rfl, b1, b2, b3⟩
  · rcases h2 with ⟨c, e⟩ | ⟨k, c, c3, rfl, e⟩
    · exact (h.kp b).kp e
    · exact absurd a (bad k c c3)
  · rcases h2 with ⟨c, e⟩ | ⟨k, c, c3, ek, e1, e2, e3, e4, e5⟩
    · exact absurd c (bad n a a3)
    · have := (nK (a := n) (b := k) (by omega) (by omega)).mp ek
      subst this
      exact Or.inr ⟨e3.trans b1, (e4.trans b2).trans e1.symm, (e5.trans b3).trans e2.symm⟩
def bkG (T : Nat → Int32) (n : Nat) : Int32 × Int32 := match prB T n (n + 1) em0 0 with
  | .error p => (nI p.1, nI p.2)
  | .ok _ => (0, -1)
def dyG (T : Nat → Int32) (N : Nat → Int64) (m n : Nat) : Int32 × Int32 := match dyB T n N m (n + 1) ds0 0 with
  | .error p => (nI p.1, nI p.2)
  | .ok _ => (0, -1)
theorem cx_bakQ {d : Nat} {v : Int32} {I : Im} {J : Jm} {R : Rm} (hB : Bd I) (hR : RI R) (h3 : R3 I J) : AM (d + 8) 108 112 [.ref 1, .int v] I J R (fun _ _ I2 _ _ => HQt (fl I) 900 (bkG (I 4)) v I I2) := by
  obtain ⟨h1, h2⟩ := fl_bd hB
  rcases sp_v (v := v) h2 with q | ⟨n, hn, rfl⟩
  · exact px_cbN h2 h1 q (Or.inl ⟨q.elim Or.inl (fun z => Or.inr (Or.inl z)), PlK.F (rd_ne (by decide)) (rd_ne (by decide)) (rd_ne (by decide)) (rd_ne (by decide)) (rd_ne (by decide))⟩)
  · exact px_cbY h2 hn h1 h3.2.2 hR (fun p I2 J2 he hF e1 e3 hf => Or.inr ⟨n, hn, by omega, rfl, e3, by unfold bkG; rw [he]; exact hf.1, by unfold bkG; rw [he]; exact hf.2.1⟩) (fun B2 b I2 J2 he _ hF e1 e3 e12 e13 _ _ _ _ => Or.inr ⟨n, hn, by omega, rfl, e3, by unfold bkG; rw [he]; exact e12, by unfold bkG; rw [he]; exact e13⟩)
theorem mx_bakQ {d f : Nat} {T : Nat → Int32} {v : Int32} {I : Im} {J : Jm} {R : Rm} (h1 : I 97 8 = nI f) (h2 : f ≤ 900) (hT : Byt T) (hI : ∀ i, i < f → I 101 i = T i) : AM (d + 8) 233 112 [.ref 97, .int v] I J R (fun _ _ I2 _ _ => MQt f 900 (bkG T) v I I2) := by
  have k3 : ∀ I2 J2, FrQ I J I2 J2 → I2 3 3 = I 3 3 ∧ I2 3 12 = I 3 12 ∧ I2 3 13 = I 3 13 := fun I2 J2 hF => ⟨hF.i (by omega), hF.i (by omega), hF.i (by omega)⟩
  rcases sp_v (v := v) h2 with q | ⟨n, hn, rfl⟩
  · exact px_mbN h2 h1 q (fun I2 hF _ e10 e11 _ => Or.inl ⟨q.elim Or.inl (fun z => Or.inr (Or.inl z)), PlK.F (k3 I2 J hF).1 (k3 I2 J hF).2.1 (k3 I2 J hF).2.2 e10 e11⟩)
  · exact px_mbY h2 hn h1 hT hI (fun p I2 J2 he hF _ hk _ _ => Or.inr ⟨n, hn, by omega, rfl, by unfold bkG; rw [he]; exact hk.1, by unfold bkG; rw [he]; exact hk.2, k3 I2 J2 hF⟩) (fun B2 b I2 J2 he _ hF _ e10 e11 _ _ => Or.inr ⟨n, hn, by omega, rfl, by unfold bkG; rw [he]; exact e10, by unfold bkG; rw [he]; exact e11, k3 I2 J2 hF⟩)
theorem cx_dayQ {d m : Nat} {N : Nat → Int64} {v : Int32} {I : Im} {J : Jm} {R : Rm} (hB : Bd I) (hR : RI R) (h3 : R3 I J) (hm : MnA N m (R 1 7) I J) : AM (d + 9) 109 112 [.ref 1, .int v] I J R (fun _ _ I2 _ _ => HQt (fl I) 300 (dyG (I 4) N m) v I I2) := by
  obtain ⟨h1, h2⟩ := fl_bd hB
  rcases dy_v (v := v) h2 with q | ⟨n, hn, h300, rfl⟩
  · exact px_cdN h2 h1 q (Or.inl ⟨q, PlK.F (rd_ne (by decide)) (rd_ne (by decide)) (rd_ne (by decide)) (rd_ne (by decide)) (rd_ne (by decide))⟩)
  · exact px_cdY h2 hn h300 h1 h3.2.2 hR hm (fun p I2 J2 he hF e1 e3 hf => Or.inr ⟨n, hn, h300, rfl, e3, by unfold dyG; rw [he]; exact hf.1, by unfold dyG; rw [he]; exact hf.2.1⟩) (fun s b I2 J2 he _ hF e1 e3 e12 e13 _ _ => Or.inr ⟨n, hn, h300, rfl, e3, by unfold dyG; rw [he]; exact e12, by unfold dyG; rw [he]; exact e13⟩)
theorem mx_dayQ {d f m : Nat} {T : Nat → Int32} {N : Nat → Int64} {v : Int32} {I : Im} {J : Jm} {R : Rm} (h1 : I 97 8 = nI f) (h2 : f ≤ 900) (hT : Byt T) (hI : ∀ i, i < f → I 101 i = T i) (hm : MnR N m I J) : AM (d + 12) 237 112 [.ref 97, .int v] I J R (fun _ _ I2 _ _ => MQt f 300 (dyG T N m) v I I2) := by
  have k3 : ∀ I2 J2, FrG I J I2 J2 → I2 3 3 = I 3 3 ∧ I2 3 12 = I 3 12 ∧ I2 3 13 = I 3 13 := fun I2 J2 hF => ⟨hF.i (by omega), hF.i (by omega), hF.i (by omega)⟩
  rcases dy_v (v := v) h2 with q | ⟨n, hn, h300, rfl⟩
  · exact px_mdN h2 h1 q (fun I2 hF => Or.inl ⟨q, PlK.F (hF.i (by decide)) (hF.i (by decide)) (hF.i (by decide)) (hF.i (by decide)) (hF.i (by decide))⟩)
  · exact px_mdY h2 hn h300 h1 hT hI hm (fun p I2 J2 he hF _ hk _ => Or.inr ⟨n, hn, h300, rfl, by unfold dyG; rw [he]; exact hk.1, by unfold dyG; rw [he]; exact hk.2, k3 I2 J2 hF⟩) (fun s b I2 J2 he _ _ hF _ e10 e11 _ _ _ _ => Or.inr ⟨n, hn, h300, rfl, by unfold dyG; rw [he]; exact e10, by unfold dyG; rw [he]; exact e11, k3 I2 J2 hF⟩)
/-- fault() -/
def fqX (a b c w : Int32) : Int32 := if a = 0 then -1 else if w = 0 then b else if w = 1 then c else -1
theorem cx_fault {d : Nat} {w : Int32} {I : Im} {J : Jm} {R : Rm} : AM (d + 1) 110 112 [.ref 1, .int w] I J R (fun x _ _ _ _ => x = fqX (I 3 3) (I 3 12) (I 3 13) w) := by
  unfold fqX
  refine w_X11_fault ⟨fun a => ⟨fun b => ⟨fun c => ?_, fun c => ?_⟩, fun b => ?_⟩, fun a => ?_⟩
  · rw [if_neg a, if_neg b, if_neg c]
  · rw [if_neg a, if_neg b, if_pos c]
  · rw [if_neg a, if_pos b]
  · rw [if_pos a]
theorem mx_fault {d : Nat} {w : Int32} {I : Im} {J : Jm} {R : Rm} : AM (d + 1) 224 112 [.ref 97, .int w] I J R (fun x _ _ _ _ => x = if w = 0 then I 97 10 else if w = 1 then I 97 11 else -1) := by
  refine w_X12_fault ⟨fun b => ⟨fun c => ?_, fun c => ?_⟩, fun b => ?_⟩
  · rw [if_neg b, if_neg c]
  · rw [if_neg b, if_pos c, rd_k (by decide)]
  · rw [if_pos b, rd_k (by decide)]
theorem FQ.eq {w x x2 : Int32} {I : Im} (h : FQ I) (h1 : x = fqX (I 3 3) (I 3 12) (I 3 13) w) (h2 : x2 = if w = 0 then I 97 10 else if w = 1 then I 97 11 else -1) : x2 = x := by
  unfold fqX at h1
  rcases h with ⟨a, b, c⟩ | ⟨a, b, c⟩
  · rw [if_pos a] at h1
    rw [h1, h2, b, c]
    split
    · rfl
    · split <;> rfl
  · rw [if_neg (by rw [a]; decide), b, c] at h1
    rw [h1, h2]
theorem FQ.eq2 {w x x2 : Int32} {I I1 : Im} (h : FQ I) (k : PlK plF I I1) (h1 : x = fqX (I 3 3) (I 3 12) (I 3 13) w) (h2 : x2 = if w = 0 then I1 97 10 else if w = 1 then I1 97 11 else -1) : x2 = x := by
  rw [k.at (o := 97) (k := 10) rfl, k.at (o := 97) (k := 11) rfl] at h2
  exact h.eq h1 h2
