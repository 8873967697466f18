/-! ===== the reference reads days: a step's words ===== -/
noncomputable abbrev WK (w : Nat) : Nat → Nat → Prop := fun c k => WM msB c k ∨ (c = 102 ∧ w < k ∧ k < w + 8)
noncomputable abbrev FrK (w : Nat) (I : Im) (J : Jm) (I2 : Im) (J2 : Jm) : Prop := FrW (WK w) VM I J I2 J2
theorem FrW.k8 {w : Nat} {I I2 : Im} {J J2 : Jm} (h : FrM I J I2 J2) : FrK w I J I2 J2 := h.up (fun _ _ q => Or.inl q) (fun _ _ q => q)
/-- a step's record says what its code says -/
noncomputable def RcO (c : CD) (f : Nat → Int32) (w : Nat) : Prop :=
  (c.1 = 9 → f (w + 1) = c.2.1 ∧ f (w + 2) = c.2.2.1 ∧ f (w + 3) = c.2.2.2) ∧ ((c.1 = 10 ∨ c.1 = 11 ∨ c.1 = 12) → f (w + 1) = c.2.1 ∧ f (w + 2) = c.2.2.1) ∧ ((c.1 = 13 ∨ c.1 = 19) → f (w + 1) = c.2.1) ∧ (isTs c.1 = true → f (w + 5) = teW c.1 ∧ f (w + 1) = c.2.1) ∧ ((c.1 = 17 ∨ c.1 = 18) → f (w + 7) = c.2.2.1 ∧ f (w + 6) = c.2.2.2)
theorem RcO.cut {x y z : Int32} {f : Nat → Int32} {w : Nat} (h1 : f (w + 1) = x) (h2 : f (w + 2) = y) (h3 : f (w + 3) = z) : RcO (9, x, y, z) f w :=
  ⟨fun _ => ⟨h1, h2, h3⟩, fun q => absurd q (show ¬ ((9 : Int32) = 10 ∨ (9 : Int32) = 11 ∨ (9 : Int32) = 12) by decide), fun q => absurd q (show ¬ ((9 : Int32) = 13 ∨ (9 : Int32) = 19) by decide), fun q => absurd q (show ¬ isTs 9 = true by decide), fun q => absurd q (show ¬ ((9 : Int32) = 17 ∨ (9 : Int32) = 18) by decide)⟩
theorem RcO.two {k x y z : Int32} {f : Nat → Int32} {w : Nat} (hk : k = 10 ∨ k = 11 ∨ k = 12) (h1 : f (w + 1) = x) (h2 : f (w + 2) = y) : RcO (k, x, y, z) f w := by
  rcases hk with rfl | rfl | rfl
  · exact ⟨fun q => absurd q (show ¬ (10 : Int32) = 9 by decide), fun _ => ⟨h1, h2⟩, fun q => absurd q (show ¬ ((10 : Int32) = 13 ∨ (10 : Int32) = 19) by decide), fun q => absurd q (show ¬ isTs 10 = true by decide), fun q => absurd q (show ¬ ((10 : Int32) = 17 ∨ (10 : Int32) = 18) by decide)⟩
  · exact ⟨fun q => absurd q (show ¬ (11 : Int32) = 9 by decide), fun _ => ⟨h1, h2⟩, fun q => absurd q (show ¬ ((11 : Int32) = 13 ∨ (11 : Int32) = 19) by decide), fun q => absurd q (show ¬ isTs 11 = true by decide), fun q => absurd q (show ¬ ((11 : Int32) = 17 ∨ (11 : Int32) = 18) by decide)⟩
  · exact ⟨fun q => absurd q (show ¬ (12 : Int32) = 9 by decide), fun _ => ⟨h1, h2⟩, fun q => absurd q (show ¬ ((12 : Int32) = 13 ∨ (12 : Int32) = 19) by decide), fun q => absurd q (show ¬ isTs 12 = true by decide), fun q => absurd q (show ¬ ((12 : Int32) = 17 ∨ (12 : Int32) = 18) by decide)⟩
theorem RcO.one {k x y z : Int32} {f : Nat → Int32} {w : Nat} (hk : k = 13 ∨ k = 19) (h1 : f (w + 1) = x) : RcO (k, x, y, z) f w := by
  rcases hk with rfl | rfl
  · exact ⟨fun q => absurd q (show ¬ (13 : Int32) = 9 by decide), fun q => absurd q (show ¬ ((13 : Int32) = 10 ∨ (13 : Int32) = 11 ∨ (13 : Int32) = 12) by decide), fun _ => h1, fun q => absurd q (show ¬ isTs 13 = true by decide), fun q => absurd q (show ¬ ((13 : Int32) = 17 ∨ (13 : Int32) = 18) by decide)⟩
  · exact ⟨fun q => absurd q (show ¬ (19 : Int32) = 9 by decide), fun q => absurd q (show ¬ ((19 : Int32) = 10 ∨ (19 : Int32) = 11 ∨ (19 : Int32) = 12) by decide), fun _ => h1, fun q => absurd q (show ¬ isTs 19 = true by decide), fun q => absurd q (show ¬ ((19 : Int32) = 17 ∨ (19 : Int32) = 18) by decide)⟩
theorem RcO.none {k x y z : Int32} {f : Nat → Int32} {w : Nat} (hk : k = 14 ∨ k = 21) : RcO (k, x, y, z) f w := by
  rcases hk with rfl | rfl
  · exact ⟨fun q => absurd q (show ¬ (14 : Int32) = 9 by decide), fun q => absurd q (show ¬ ((14 : Int32) = 10 ∨ (14 : Int32) = 11 ∨ (14 : Int32) = 12) by decide), fun q => absurd q (show ¬ ((14 : Int32) = 13 ∨ (14 : Int32) = 19) by decide), fun q => absurd q (show ¬ isTs 14 = true by decide), fun q => absurd q (show ¬ ((14 : Int32) = 17 ∨ (14 : Int32) = 18) by decide)⟩
  · exact ⟨fun q => absurd q (show ¬ (21 : Int32) = 9 by decide), fun q => absurd q (show ¬ ((21 : Int32) = 10 ∨ (21 : Int32) = 11 ∨ (21 : Int32) = 12) by decide), fun q => absurd q (show ¬ ((21 : Int32) = 13 ∨ (21 : Int32) = 19) by decide), fun q => absurd q (show ¬ isTs 21 = true by decide), fun q => absurd q (show ¬ ((21 : Int32) = 17 ∨ (21 : Int32) = 18) by decide)⟩
section RDB
variable {T : Nat → Int32} {e a d m w : Nat} {N : Nat → Int64} {I : Im} {J : Jm} {R : Rm} {Q : Qt}
theorem wk_k {k : Nat} (hw : w + k < 2 ^ 31) : nI w + nI k = nI (w + k) := nI_add w k
theorem FrW.r8 {I2 : Im} {J2 : Jm} {k : Nat} {v : Int32} (h : FrK w I J I2 J2) (hk : w < k ∧ k < w + 8) : FrK w I J (uI I2 102 k v) J2 := h.u (Or.inr ⟨rfl, hk.1, hk.2⟩)
/-- a number goes into the record -/
theorem px_cnW {lo hi : Int32} {k : Nat} (hw : w + k < 1620) (hk : w < k + w) (h : Mr T e a I J) (Q1 : Int32 → Im → Jm → Prop) (hE : ∀ q I2 J2, tkN T e lo hi a = .error q → FrM I J I2 J2 → FtM q I2 → Q1 0 (uI I2 102 (w + k) 0) J2) (hK : ∀ v b I2 J2, tkN T e lo hi a = .ok (v, b) → lo ≤ v → v ≤ hi → FrM I J I2 J2 → Mr T e b I2 J2 → Q1 v (uI I2 102 (w + k) v) J2) : AM (d + 4) 216 112 [.ref 97, .int lo, .int hi] I J R (fun x _ I2 J2 _ => vp_in (nI w + nI k) 1620 ∧ Q1 x (uI I2 102 (Int32.toNatClampNeg (nI w + nI k)) x) J2) := by
  have e1 := wk_k (w := w) (k := k) (by omega)
  refine px_count h (fun q I2 hq hF hf => ?_) (fun v b I2 J2 hv l1 l2 hF h2 => ?_)
  · rw [e1, tn_nI (by omega)]
    exact ⟨vp_of (a := ((w + k : Nat) : Int)) (nI_toInt (by omega)) (by omega) (by omega), hE q I2 J hq hF hf⟩
  · rw [e1, tn_nI (by omega)]
    exact ⟨vp_of (a := ((w + k : Nat) : Int)) (nI_toInt (by omega)) (by omega) (by omega), hK v b I2 J2 hv l1 l2 hF h2⟩
theorem px_cnB {q : Nat × Nat} {lo hi : Int32} {k : Nat} (hw : w + k < 1620) (hf : FtM q I) (Q1 : Int32 → Im → Jm → Prop) (hQ : Q1 0 (uI I 102 (w + k) 0) J) : AM (d + 4) 216 112 [.ref 97, .int lo, .int hi] I J R (fun x _ I2 J2 _ => vp_in (nI w + nI k) 1620 ∧ Q1 x (uI I2 102 (Int32.toNatClampNeg (nI w + nI k)) x) J2) := by
  have e1 := wk_k (w := w) (k := k) (by omega)
  refine px_countB hf ?_
  rw [e1, tn_nI (by omega)]
  exact ⟨vp_of (a := ((w + k : Nat) : Int)) (nI_toInt (by omega)) (by omega) (by omega), hQ⟩
theorem px_rcut (hw : w + 8 ≤ 1620) (h : Mr T e a I J) {P : Kt} (hc : Cl (AM (d + 6)) true false 0 (fun _ => 0) 0 112 kX12_readRest (fun _ => Q) P) (hE : ∀ q I2 J2, dyA T e N m 9 a = .error q → FrK w I J I2 J2 → FtM q I2 → Q 0 0 I2 J2 R) (hK : ∀ c b I2 J2, dyA T e N m 9 a = .ok (c, b) → FrK w I J I2 J2 → Mr T e b I2 J2 → RcO c (I2 102) w → Q 0 0 I2 J2 R) : P 13 112 [(0, .ref 97), (1, .int (nI w)), (3, .int 1)] [] I J R := by
  have e9 : dyA T e N m 9 a = rb (tkN T e 1 30 a) fun x b => rb (tkN T e 1 30 b) fun y b => rb (tkN T e 1 30 b) fun z b => .ok ((9, x, y, z), b) := rfl
  have Z4 : ∀ I2 J2, Q 0 0 I2 J2 R → P 13 112 [(0, .ref 97), (1, .int (nI w)), (3, .int (nI 4))] [] I2 J2 R := fun I2 J2 hq => sg_X12_readRest_13 hc _ _ _ _ _ ⟨fun _ => hq, fun c => absurd (show (4 : Int32) ≤ nI 4 by decide) c⟩
  have Z3 : ∀ q I2 J2, dyA T e N m 9 a = .error q → FrK w I J I2 J2 → FtM q I2 → P 13 112 [(0, .ref 97), (1, .int (nI w)), (3, .int (nI 3))] [] I2 J2 R := fun q I2 J2 hq hF hf => sg_X12_readRest_13 hc _ _ _ _ _ ⟨fun c => absurd c (by decide), fun _ => px_cnB (k := 3) (by omega) hf (fun _ I3 J3 => P 13 112 [(0, .ref 97), (1, .int (nI w)), (3, .int (nI 4))] [] I3 J3 R) (Z4 _ _ (hE q _ J2 hq (hF.r8 (by omega)) (hf.w_ (Or.inl (by decide)))))⟩
  have Z2 : ∀ q I2 J2, dyA T e N m 9 a = .error q → FrK w I J I2 J2 → FtM q I2 → P 13 112 [(0, .ref 97), (1, .int (nI w)), (3, .int (nI 2))] [] I2 J2 R := fun q I2 J2 hq hF hf => sg_X12_readRest_13 hc _ _ _ _ _ ⟨fun c => absurd c (by decide), fun _ => px_cnB (k := 2) (by omega) hf (fun _ I3 J3 => P 13 112 [(0, .ref 97), (1, .int (nI w)), (3, .int (nI 3))] [] I3 J3 R) (Z3 q _ J2 hq (hF.r8 (by omega)) (hf.w_ (Or.inl (by decide))))⟩
  refine sg_X12_readRest_13 hc _ _ _ _ _ ⟨fun c => absurd c (by decide), fun _ => px_cnW (k := 1) (by omega) (by omega) h (fun _ I3 J3 => P 13 112 [(0, .ref 97), (1, .int (nI w)), (3, .int (nI 2))] [] I3 J3 R) (fun q I2 J2 hq hF hf => Z2 q _ J2 (by rw [e9]; exact rb_e hq) (hF.k8.r8 (by omega)) (hf.w_ (Or.inl (by decide)))) (fun x b I2 J2 hx _ _ hF h2 => ?_)⟩
  have hF2 : FrK w I J (uI I2 102 (w + 1) x) J2 := hF.k8.r8 (by omega)
  refine sg_X12_readRest_13 hc _ _ _ _ _ ⟨fun c => absurd c (by decide), fun _ => px_cnW (k := 2) (by omega) (by omega) (h2.w_ (Or.inl (by decide)) (by decide)) (fun _ I3 J3 => P 13 112 [(0, .ref 97), (1, .int (nI w)), (3, .int (nI 3))] [] I3 J3 R) (fun q I3 J3 hq hF3 hf => Z3 q _ J3 (by rw [e9, rb_k hx]; exact rb_e hq) ((hF2.tr hF3.k8).r8 (by omega)) (hf.w_ (Or.inl (by decide)))) (fun y b3 I3 J3 hy _ _ hF3 h3 => ?_)⟩
  have hF4 : FrK w I J (uI I3 102 (w + 2) y) J3 := (hF2.tr hF3.k8).r8 (by omega)
  refine sg_X12_readRest_13 hc _ _ _ _ _ ⟨fun c => absurd c (by decide), fun _ => px_cnW (k := 3) (by omega) (by omega) (h3.w_ (Or.inl (by decide)) (by decide)) (fun _ I3 J3 => P 13 112 [(0, .ref 97), (1, .int (nI w)), (3, .int (nI 4))] [] I3 J3 R) (fun q I4 J4 hq hF5 hf => Z4 _ J4 (hE q _ J4 (by rw [e9, rb_k hx, rb_k hy]; exact rb_e hq) ((hF4.tr hF5.k8).r8 (by omega)) (hf.w_ (Or.inl (by decide))))) (fun z b4 I4 J4 hz _ _ hF5 h4 => Z4 _ J4 (hK (9, x, y, z) b4 _ J4 (by rw [e9, rb_k hx, rb_k hy, rb_k hz]) ((hF4.tr hF5.k8).r8 (by omega)) (h4.w_ (Or.inl (by decide)) (by decide)) (RcO.cut ?_ ?_ rd_eq)))⟩
  · rw [rd_k (by omega), hF5.i (by intro q; exact absurd q.1 (by decide)), rd_k (by omega), hF3.i (by intro q; exact absurd q.1 (by decide)), rd_eq]
  · rw [rd_k (by omega), hF5.i (by intro q; exact absurd q.1 (by decide)), rd_eq]
theorem px_sgn {b : Nat} (hw : w + 8 ≤ 1620) (h : Mr T e b I J) (hE : ∀ q I2 J2, (rb (tkC T e b) fun _ b => tkN T e 0 99 b) = .error q → FrM I J I2 J2 → FtM q I2 → Q 0 0 (uI I2 102 (w + 6) 0) J2 R) (hK : ∀ b2 z b3 I2 J2, tkC T e b = .ok (tV (tok T e b), b2) → tK (tok T e b) = 3 → tkN T e 0 99 b2 = .ok (z, b3) → FrM I J I2 J2 → Mr T e b3 I2 J2 → Q 0 0 (uI I2 102 (w + 6) z) J2 R) : AM (d + 5) 196 112 [.ref 97, .int 60] I J R (fun x4 y4 I4 J4 R4 => (x4 = 0 ∨ x4 = 1) → ((¬ x4 = (0 : Int32) → (AM (d + 5) 214 112 [.ref 97, .int 1] I4 J4 R (fun x5 y5 I5 J5 R5 => (AM (d + 5) 216 112 [.ref 97, .int 0, .int 99] I5 J5 R (fun x9 y9 I9 J9 R9 => (vp_in (nI w + 6) 1620 ∧ Q 0 0 (uI I9 102 (Int32.toNatClampNeg (nI w + 6)) x9) J9 R)))))) ∧ (x4 = (0 : Int32) → (AM (d + 5) 196 112 [.ref 97, .int 62] I4 J4 R (fun x7 y7 I7 J7 R7 => (x7 = 0 ∨ x7 = 1) → ((¬ x7 = (0 : Int32) → (AM (d + 5) 214 112 [.ref 97, .int 1] I7 J7 R (fun x5 y5 I5 J5 R5 => (AM (d + 5) 216 112 [.ref 97, .int 0, .int 99] I5 J5 R (fun x9 y9 I9 J9 R9 => (vp_in (nI w + 6) 1620 ∧ Q 0 0 (uI I9 102 (Int32.toNatClampNeg (nI w + 6)) x9) J9 R)))))) ∧ (x7 = (0 : Int32) → (AM (d + 5) 196 112 [.ref 97, .int 61] I7 J7 R (fun x10 y10 I10 J10 R10 => (x10 = 0 ∨ x10 = 1) → ((x10 = (0 : Int32) → (AM (d + 5) 214 112 [.ref 97, .int 0] I10 J10 R (fun x5 y5 I5 J5 R5 => (AM (d + 5) 216 112 [.ref 97, .int 0, .int 99] I5 J5 R (fun x9 y9 I9 J9 R9 => (vp_in (nI w + 6) 1620 ∧ Q 0 0 (uI I9 102 (Int32.toNatClampNeg (nI w + 6)) x9) J9 R)))))) ∧ (¬ x10 = (0 : Int32) → (AM (d + 5) 214 112 [.ref 97, .int 1] I10 J10 R (fun x5 y5 I5 J5 R5 => (AM (d + 5) 216 112 [.ref 97, .int 0, .int 99] I5 J5 R (fun x9 y9 I9 J9 R9 => (vp_in (nI w + 6) 1620 ∧ Q 0 0 (uI I9 102 (Int32.toNatClampNeg (nI w + 6)) x9) J9 R)))))))))))))))) := by
  have eC : tkC T e b = if tK (tok T e b) = 3 then (if tV (tok T e b) = 59 then .error (mis T e b) else .ok (tV (tok T e b), tB (tok T e b))) else .error (mis T e b) := rfl
  have Y : tK (tok T e b) = 3 → ¬ tV (tok T e b) = 59 → (AM (d + 5) 214 112 [.ref 97, .int 1] I J R (fun x5 y5 I5 J5 R5 => (AM (d + 5) 216 112 [.ref 97, .int 0, .int 99] I5 J5 R (fun x9 y9 I9 J9 R9 => (vp_in (nI w + 6) 1620 ∧ Q 0 0 (uI I9 102 (Int32.toNatClampNeg (nI w + 6)) x9) J9 R))))) := fun k3 n59 => by
    rw [if_pos k3, if_neg n59] at eC
    refine px_mustY h (fun I2 J2 hF h2 => px_cnW (k := 6) (by omega) (by omega) h2 (fun _ I3 J3 => Q 0 0 I3 J3 R) (fun q I3 J3 hq hF3 hf => hE q I3 J3 (by rw [rb_k eC]; exact hq) (hF.tr hF3) hf) (fun z b3 I3 J3 hz _ _ hF3 h3 => hK _ z b3 I3 J3 eC k3 hz (hF.tr hF3) h3))
  have X : ∀ q, tkC T e b = .error q → q = mis T e b → (AM (d + 5) 214 112 [.ref 97, .int 0] I J R (fun x5 y5 I5 J5 R5 => (AM (d + 5) 216 112 [.ref 97, .int 0, .int 99] I5 J5 R (fun x9 y9 I9 J9 R9 => (vp_in (nI w + 6) 1620 ∧ Q 0 0 (uI I9 102 (Int32.toNatClampNeg (nI w + 6)) x9) J9 R))))) := fun q hq eq => by
    refine px_mustN h (fun I2 hF hf => px_cnB (k := 6) (by omega) hf (fun _ I3 J3 => Q 0 0 I3 J3 R) (hE q I2 J (rb_e hq) hF (by rw [eq]; exact hf)))
  refine px_isSign h (fun k3 v _ => ⟨fun _ => Y k3 (by rw [v]; decide), fun z => absurd z (by decide)⟩) (fun n1 _ => ⟨fun z => absurd rfl z, fun _ => ?_⟩)
  refine px_isSign h (fun k3 v _ => ⟨fun _ => Y k3 (by rw [v]; decide), fun z => absurd z (by decide)⟩) (fun n2 _ => ⟨fun z => absurd rfl z, fun _ => ?_⟩)
  refine px_isSign h (fun k3 v _ => ⟨fun z => absurd z (by decide), fun _ => Y k3 (by rw [v]; decide)⟩) (fun n3 _ => ⟨fun _ => ?_, fun z => absurd rfl z⟩)
  by_cases k3 : tK (tok T e b) = 3
  · have v59 : tV (tok T e b) = 59 := by
      rcases tok_sg k3 with z | z | z | z
      · exact z
      · exact absurd z (n1 k3)
      · exact absurd z (n2 k3)
      · exact absurd z (n3 k3)
    rw [if_pos k3, if_pos v59] at eC
    exact X _ eC rfl
  · rw [if_neg k3] at eC
    exact X _ eC rfl
theorem teW_t {i : Int32} (h : isTs i = true) : (i = 16 ∧ teW i = 0) ∨ (i = 17 ∧ teW i = 1) ∨ (i = 18 ∧ teW i = 2) := by
  unfold isTs at h
  rw [Bool.or_eq_true, Bool.or_eq_true, beq_iff_eq, beq_iff_eq, beq_iff_eq] at h
  rcases h with rfl | rfl | rfl
  · exact Or.inl ⟨rfl, rfl⟩
  · exact Or.inr (Or.inl ⟨rfl, rfl⟩)
  · exact Or.inr (Or.inr ⟨rfl, rfl⟩)
theorem teW_n {i : Int32} (h : ¬ isTs i = true) : teW i = -1 := by
  unfold isTs at h
  rw [Bool.or_eq_true, Bool.or_eq_true, beq_iff_eq, beq_iff_eq, beq_iff_eq] at h
  unfold teW
  rw [if_neg (fun z => h (Or.inl z)), if_neg (fun z => h (Or.inr (Or.inl z))), if_neg (fun z => h (Or.inr (Or.inr z)))]
theorem RcO.ev {x : Int32} {f : Nat → Int32} {w : Nat} (h5 : f (w + 5) = 0) (h1 : f (w + 1) = x) : RcO (16, x, 0, 0) f w :=
  ⟨fun q => absurd q (show ¬ (16 : Int32) = 9 by decide), fun q => absurd q (show ¬ ((16 : Int32) = 10 ∨ (16 : Int32) = 11 ∨ (16 : Int32) = 12) by decide), fun q => absurd q (show ¬ ((16 : Int32) = 13 ∨ (16 : Int32) = 19) by decide), fun _ => ⟨h5, h1⟩, fun q => absurd q (show ¬ ((16 : Int32) = 17 ∨ (16 : Int32) = 18) by decide)⟩
theorem RcO.ts {k x y z : Int32} {f : Nat → Int32} {w : Nat} (hk : k = 17 ∨ k = 18) (h5 : f (w + 5) = teW k) (h1 : f (w + 1) = x) (h7 : f (w + 7) = y) (h6 : f (w + 6) = z) : RcO (k, x, y, z) f w := by
  rcases hk with rfl | rfl
  · exact ⟨fun q => absurd q (show ¬ (17 : Int32) = 9 by decide), fun q => absurd q (show ¬ ((17 : Int32) = 10 ∨ (17 : Int32) = 11 ∨ (17 : Int32) = 12) by decide), fun q => absurd q (show ¬ ((17 : Int32) = 13 ∨ (17 : Int32) = 19) by decide), fun _ => ⟨h5, h1⟩, fun _ => ⟨h7, h6⟩⟩
  · exact ⟨fun q => absurd q (show ¬ (18 : Int32) = 9 by decide), fun q => absurd q (show ¬ ((18 : Int32) = 10 ∨ (18 : Int32) = 11 ∨ (18 : Int32) = 12) by decide), fun q => absurd q (show ¬ ((18 : Int32) = 13 ∨ (18 : Int32) = 19) by decide), fun _ => ⟨h5, h1⟩, fun _ => ⟨h7, h6⟩⟩
noncomputable def dyT3 (T : Nat → Int32) (e : Nat) (i x : Int32) (b : Nat) : Rs CD := rb (tkC T e b) fun y b => rb (tkN T e 0 99 b) fun z b => .ok ((i, x, y, z), b)
theorem px_sg2 {b : Nat} {i x y : Int32} (hw : w + 8 ≤ 1620) (hi : i = 17 ∨ i = 18) (h : Mr T e b I J) (hy : tK (tok T e b) = 3 → y = tV (tok T e b)) (g5 : I 102 (w + 5) = teW i) (g1 : I 102 (w + 1) = x) (g7 : I 102 (w + 7) = y) (hE : ∀ q I2 J2, dyT3 T e i x b = .error q → FrK w I J I2 J2 → FtM q I2 → Q 0 0 I2 J2 R) (hK : ∀ c b2 I2 J2, dyT3 T e i x b = .ok (c, b2) → FrK w I J I2 J2 → Mr T e b2 I2 J2 → RcO c (I2 102) w → Q 0 0 I2 J2 R) : AM (d + 5) 196 112 [.ref 97, .int 60] I J R (fun x4 y4 I4 J4 R4 => (x4 = 0 ∨ x4 = 1) → ((¬ x4 = (0 : Int32) → (AM (d + 5) 214 112 [.ref 97, .int 1] I4 J4 R (fun x5 y5 I5 J5 R5 => (AM (d + 5) 216 112 [.ref 97, .int 0, .int 99] I5 J5 R (fun x9 y9 I9 J9 R9 => (vp_in (nI w + 6) 1620 ∧ Q 0 0 (uI I9 102 (Int32.toNatClampNeg (nI w + 6)) x9) J9 R)))))) ∧ (x4 = (0 : Int32) → (AM (d + 5) 196 112 [.ref 97, .int 62] I4 J4 R (fun x7 y7 I7 J7 R7 => (x7 = 0 ∨ x7 = 1) → ((¬ x7 = (0 : Int32) → (AM (d + 5) 214 112 [.ref 97, .int 1] I7 J7 R (fun x5 y5 I5 J5 R5 => (AM (d + 5) 216 112 [.ref 97, .int 0, .int 99] I5 J5 R (fun x9 y9 I9 J9 R9 => (vp_in (nI w + 6) 1620 ∧ Q 0 0 (uI I9 102 (Int32.toNatClampNeg (nI w + 6)) x9) J9 R)))))) ∧ (x7 = (0 : Int32) → (AM (d + 5) 196 112 [.ref 97, .int 61] I7 J7 R (fun x10 y10 I10 J10 R10 => (x10 = 0 ∨ x10 = 1) → ((x10 = (0 : Int32) → (AM (d + 5) 214 112 [.ref 97, .int 0] I10 J10 R (fun x5 y5 I5 J5 R5 => (AM (d + 5) 216 112 [.ref 97, .int 0, .int 99] I5 J5 R (fun x9 y9 I9 J9 R9 => (vp_in (nI w + 6) 1620 ∧ Q 0 0 (uI I9 102 (Int32.toNatClampNeg (nI w + 6)) x9) J9 R)))))) ∧ (¬ x10 = (0 : Int32) → (AM (d + 5) 214 112 [.ref 97, .int 1] I10 J10 R (fun x5 y5 I5 J5 R5 => (AM (d + 5) 216 112 [.ref 97, .int 0, .int 99] I5 J5 R (fun x9 y9 I9 J9 R9 => (vp_in (nI w + 6) 1620 ∧ Q 0 0 (uI I9 102 (Int32.toNatClampNeg (nI w + 6)) x9) J9 R)))))))))))))))) := by
  refine px_sgn hw h (fun q I2 J2 hq hF hf => hE q _ J2 ?_ (hF.k8.r8 (by omega)) (hf.w_ (Or.inl (by decide)))) (fun b2 z b3 I2 J2 hc k3 hz hF h2 => hK (i, x, tV (tok T e b), z) b3 _ J2 ?_ (hF.k8.r8 (by omega)) (h2.w_ (Or.inl (by decide)) (by decide)) (RcO.ts hi ?_ ?_ ?_ rd_eq))
  · unfold dyT3
    cases hc : tkC T e b with
    | error q2 =>
      rw [hc] at hq
      have hq2 : (Except.error q2 : Rs Int32) = .error q := hq
      injection hq2 with hq3
      show (Except.error q2 : Rs CD) = .error q
      rw [hq3]
    | ok p2 =>
      rw [hc] at hq
      show (rb (tkN T e 0 99 p2.2) fun z b => (.ok ((i, x, p2.1, z), b) : Rs CD)) = .error q
      exact rb_e hq
  · unfold dyT3
    rw [rb_k hc, rb_k hz]
  · rw [rd_k (by omega), hF.i (by intro q; exact absurd q.1 (by decide))]; exact g5
  · rw [rd_k (by omega), hF.i (by intro q; exact absurd q.1 (by decide))]; exact g1
  · rw [rd_k (by omega), hF.i (by intro q; exact absurd q.1 (by decide)), g7]; exact hy k3
set_option maxHeartbeats 1000000 in
theorem px_rtest (hw : 1350 ≤ w ∧ w + 8 ≤ 1620) (hm : MnR N m I J) (h : Mr T e a I J) (hE : ∀ q I2 J2, dyT T e N m a = .error q → FrK w I J I2 J2 → FtM q I2 → Q 0 0 I2 J2 R) (hK : ∀ c b I2 J2, dyT T e N m a = .ok (c, b) → FrK w I J I2 J2 → Mr T e b I2 J2 → RcO c (I2 102) w → Q 0 0 I2 J2 R) : AM (d + 6) 234 112 [.ref 97, .int (nI w)] I J R Q := by
  have eT : dyT T e N m a = if isTs (tI (tok T e a)) = true then rb (if tI (tok T e a) = 17 then tkN T e 1 30 (tB (tok T e a)) else tkH T e N m (tB (tok T e a))) (fun x b => if tI (tok T e a) = 16 then .ok ((16, x, 0, 0), b) else rb (tkC T e b) fun y b => rb (tkN T e 0 99 b) fun z b => .ok ((tI (tok T e a), x, y, z), b)) else .error (mis T e a) := rfl
  have k5 : Int32.toNatClampNeg (nI w + 5) = w + 5 := by rw [show (5 : Int32) = nI 5 from rfl, wk_k (by omega), tn_nI (by omega)]
  have k1 : Int32.toNatClampNeg (nI w + 1) = w + 1 := by rw [show (1 : Int32) = nI 1 from rfl, wk_k (by omega), tn_nI (by omega)]
  have k7 : Int32.toNatClampNeg (nI w + 7) = w + 7 := by rw [show (7 : Int32) = nI 7 from rfl, wk_k (by omega), tn_nI (by omega)]
  have v5 : vp_in (nI w + 5) 1620 := by rw [show (5 : Int32) = nI 5 from rfl, wk_k (by omega)]; exact vp_of (a := ((w + 5 : Nat) : Int)) (nI_toInt (by omega)) (by omega) (by omega)
  have v1 : vp_in (nI w + 1) 1620 := by rw [show (1 : Int32) = nI 1 from rfl, wk_k (by omega)]; exact vp_of (a := ((w + 1 : Nat) : Int)) (nI_toInt (by omega)) (by omega) (by omega)
  have v7 : vp_in (nI w + 7) 1620 := by rw [show (7 : Int32) = nI 7 from rfl, wk_k (by omega)]; exact vp_of (a := ((w + 7 : Nat) : Int)) (nI_toInt (by omega)) (by omega) (by omega)
  refine w_X12_readTest (px_testWord h ?_)
  simp only [k5, k1, k7]
  by_cases ht : isTs (tI (tok T e a)) = true
  · rw [if_pos ht] at eT
    -- behind a man or a slice: a sign, a number
    have TL : ∀ (i x : Int32) (b : Nat) (I3 : Im) (J3 : Jm) (y : Int32), (i = 17 ∨ i = 18) → (tK (tok T e b) = 3 → y = tV (tok T e b)) → dyT T e N m a = dyT3 T e i x b → FrK w I J I3 J3 → Mr T e b I3 J3 → I3 102 (w + 5) = teW i → AM (d + 5) 196 112 [.ref 97, .int 60] (uI (uI I3 102 (w + 1) x) 102 (w + 7) y) J3 R (fun x4 y4 I4 J4 R4 => (x4 = 0 ∨ x4 = 1) → ((¬ x4 = (0 : Int32) → (AM (d + 5) 214 112 [.ref 97, .int 1] I4 J4 R (fun x5 y5 I5 J5 R5 => (AM (d + 5) 216 112 [.ref 97, .int 0, .int 99] I5 J5 R (fun x9 y9 I9 J9 R9 => (vp_in (nI w + 6) 1620 ∧ Q 0 0 (uI I9 102 (Int32.toNatClampNeg (nI w + 6)) x9) J9 R)))))) ∧ (x4 = (0 : Int32) → (AM (d + 5) 196 112 [.ref 97, .int 62] I4 J4 R (fun x7 y7 I7 J7 R7 => (x7 = 0 ∨ x7 = 1) → ((¬ x7 = (0 : Int32) → (AM (d + 5) 214 112 [.ref 97, .int 1] I7 J7 R (fun x5 y5 I5 J5 R5 => (AM (d + 5) 216 112 [.ref 97, .int 0, .int 99] I5 J5 R (fun x9 y9 I9 J9 R9 => (vp_in (nI w + 6) 1620 ∧ Q 0 0 (uI I9 102 (Int32.toNatClampNeg (nI w + 6)) x9) J9 R)))))) ∧ (x7 = (0 : Int32) → (AM (d + 5) 196 112 [.ref 97, .int 61] I7 J7 R (fun x10 y10 I10 J10 R10 => (x10 = 0 ∨ x10 = 1) → ((x10 = (0 : Int32) → (AM (d + 5) 214 112 [.ref 97, .int 0] I10 J10 R (fun x5 y5 I5 J5 R5 => (AM (d + 5) 216 112 [.ref 97, .int 0, .int 99] I5 J5 R (fun x9 y9 I9 J9 R9 => (vp_in (nI w + 6) 1620 ∧ Q 0 0 (uI I9 102 (Int32.toNatClampNeg (nI w + 6)) x9) J9 R)))))) ∧ (¬ x10 = (0 : Int32) → (AM (d + 5) 214 112 [.ref 97, .int 1] I10 J10 R (fun x5 y5 I5 J5 R5 => (AM (d + 5) 216 112 [.ref 97, .int 0, .int 99] I5 J5 R (fun x9 y9 I9 J9 R9 => (vp_in (nI w + 6) 1620 ∧ Q 0 0 (uI I9 102 (Int32.toNatClampNeg (nI w + 6)) x9) J9 R)))))))))))))))) := fun i x b I3 J3 y hi hy e1 hF h3 g5 => by
      have hF7 : FrK w I J (uI (uI I3 102 (w + 1) x) 102 (w + 7) y) J3 := (hF.r8 (by omega)).r8 (by omega)
      exact px_sg2 hw.2 hi ((h3.w_ (Or.inl (by decide)) (by decide)).w_ (Or.inl (by decide)) (by decide)) hy ((rd_k (by omega)).trans ((rd_k (by omega)).trans g5)) ((rd_k (by omega)).trans rd_eq) rd_eq (fun q I2 J2 hq hF2 hf => hE q I2 J2 (e1.trans hq) (hF7.tr hF2) hf) (fun c b2 I2 J2 hq hF2 h2 hr => hK c b2 I2 J2 (e1.trans hq) (hF7.tr hF2) h2 hr)
    rcases teW_t ht with ⟨hi, hv⟩ | ⟨hi, hv⟩ | ⟨hi, hv⟩
    · rw [hi] at eT
      rw [hv]
      refine ⟨fun z => absurd z (by decide), fun _ => px_mustY h (fun I1 J1 hF1 h1 => ⟨v5, fun _ => px_told (hm.fr hF1 |>.w (by omega)) (h1.w_ (Or.inl (by decide)) (by decide)) (fun q I3 J3 hq hF3 hf => ⟨v1, fun _ => hE q _ J3 ?_ (((hF1.k8.r8 (by omega)).tr hF3.k8).r8 (by omega)) (hf.w_ (Or.inl (by decide))), fun c => absurd ?_ c⟩) (fun x b I3 J3 hx hF3 h3 => ⟨v1, fun c => absurd c ?_, fun _ => ⟨fun z => absurd rfl z, fun _ => hK (16, x, 0, 0) b _ J3 ?_ (((hF1.k8.r8 (by omega)).tr hF3.k8).r8 (by omega)) (h3.w_ (Or.inl (by decide)) (by decide)) (RcO.ev ?_ rd_eq)⟩⟩), fun z => absurd z (by decide)⟩)⟩
      · rw [eT]; exact rb_e hq
      · rw [rd_ne (by decide)]; exact hf.ne.2.2
      · rw [rd_ne (by decide)]; exact h3.le.2
      · rw [eT]; exact rb_k hx
      · rw [rd_k (by omega), hF3.i (by intro q; exact absurd q.1 (by decide)), rd_eq]
    · rw [hi] at eT
      rw [hv]
      refine ⟨fun z => absurd z (by decide), fun _ => px_mustY h (fun I1 J1 hF1 h1 => ⟨v5, fun z => absurd rfl z, fun _ => px_count (h1.w_ (Or.inl (by decide)) (by decide)) (fun q I3 hq hF3 hf => ⟨v1, fun _ => hE q _ J1 ?_ (((hF1.k8.r8 (by omega)).tr hF3.k8).r8 (by omega)) (hf.w_ (Or.inl (by decide))), fun c => absurd ?_ c⟩) (fun x b I3 J3 hx _ _ hF3 h3 => ⟨v1, fun c => absurd c ?_, fun _ => ⟨fun _ => ⟨fun c3 => ⟨v7, TL 17 x b I3 J3 0 (Or.inl rfl) (fun k3 => absurd ?_ c3) ?_ ((hF1.k8.r8 (by omega)).tr hF3.k8) h3 ?_⟩, fun c3 => ⟨v7, TL 17 x b I3 J3 _ (Or.inl rfl) (fun k3 => ?_) ?_ ((hF1.k8.r8 (by omega)).tr hF3.k8) h3 ?_⟩⟩, fun z => absurd z (by decide)⟩⟩)⟩)⟩
      · rw [eT]; exact rb_e hq
      · rw [rd_ne (by decide)]; exact hf.ne.2.2
      · rw [rd_ne (by decide)]; exact h3.le.2
      · rw [rd_ne (by decide)]; exact (h3.k_is (n := 3) (by omega)).mpr k3
      · rw [eT]; exact rb_k hx
      · rw [hF3.i (by intro q; exact absurd q.1 (by decide)), rd_eq]; rfl
      · rw [rd_ne (by decide)]; exact h3.v (Or.inr k3)
      · rw [eT]; exact rb_k hx
      · rw [hF3.i (by intro q; exact absurd q.1 (by decide)), rd_eq]; rfl
    · rw [hi] at eT
      rw [hv]
      refine ⟨fun z => absurd z (by decide), fun _ => px_mustY h (fun I1 J1 hF1 h1 => ⟨v5, fun _ => px_told (hm.fr hF1 |>.w (by omega)) (h1.w_ (Or.inl (by decide)) (by decide)) (fun q I3 J3 hq hF3 hf => ⟨v1, fun _ => hE q _ J3 ?_ (((hF1.k8.r8 (by omega)).tr hF3.k8).r8 (by omega)) (hf.w_ (Or.inl (by decide))), fun c => absurd ?_ c⟩) (fun x b I3 J3 hx hF3 h3 => ⟨v1, fun c => absurd c ?_, fun _ => ⟨fun _ => ⟨fun c3 => ⟨v7, TL 18 x b I3 J3 0 (Or.inr rfl) (fun k3 => absurd ?_ c3) ?_ ((hF1.k8.r8 (by omega)).tr hF3.k8) h3 ?_⟩, fun c3 => ⟨v7, TL 18 x b I3 J3 _ (Or.inr rfl) (fun k3 => ?_) ?_ ((hF1.k8.r8 (by omega)).tr hF3.k8) h3 ?_⟩⟩, fun z => absurd z (by decide)⟩⟩), fun z => absurd z (by decide)⟩)⟩
      · rw [eT]; exact rb_e hq
      · rw [rd_ne (by decide)]; exact hf.ne.2.2
      · rw [rd_ne (by decide)]; exact h3.le.2
      · rw [rd_ne (by decide)]; exact (h3.k_is (n := 3) (by omega)).mpr k3
      · rw [eT]; exact rb_k hx
      · rw [hF3.i (by intro q; exact absurd q.1 (by decide)), rd_eq]; rfl
      · rw [rd_ne (by decide)]; exact h3.v (Or.inr k3)
      · rw [eT]; exact rb_k hx
      · rw [hF3.i (by intro q; exact absurd q.1 (by decide)), rd_eq]; rfl
  · rw [if_neg ht] at eT
    rw [teW_n ht]
    refine ⟨fun _ => px_mustN h (fun I2 hF hf => ⟨v5, fun _ => px_toldB (hf.w_ (Or.inl (by decide))) ⟨v1, fun _ => hE _ _ J eT ?_ ((hf.w_ (Or.inl (by decide))).w_ (Or.inl (by decide))), fun c => absurd ?_ c⟩, fun z => absurd z (by decide)⟩), fun z => absurd (show (-1 : Int32) < 0 by decide) z⟩
    · exact (hF.k8.r8 (by omega)).r8 (by omega)
    · rw [rd_ne (by decide), rd_ne (by decide)]; exact hf.ne.2.2
end RDB
