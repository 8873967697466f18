/-! ===== has(), lacks(): whether they tell ===== -/
def hsP (m v : Int32) : Prop := (0 : Int32) ≤ v ∧ v < m
def HsX (m v x : Int32) : Prop := (x = 1 ∧ hsP m v) ∨ (x = 0 ∧ ¬ hsP m v)
theorem HsX.both {m m2 v x x2 : Int32} (e : m2 = m) (h : HsX m v x) (h2 : HsX m2 v x2) : x2 = x := by
  rw [e] at h2
  rcases h with ⟨a, b⟩ | ⟨a, b⟩ <;> rcases h2 with ⟨c, e⟩ | ⟨c, e⟩
  · rw [a, c]
  · exact absurd b e
  · exact absurd e b
  · rw [a, c]
theorem x_one {x : Int32} (h : x.toInt = 1) : x = 1 := Int32.toInt_inj.mp h
/-- the class asks whether he is a man -/
theorem cx_isMan {d : Nat} {v : Int32} {I : Im} {J : Jm} {R : Rm} {Q : Qt} (hB : Bd I) (hR : RI R) (hN : ¬ hsP (I (R 1 7) 4) v → Q 0 0 I J R) (hY : hsP (I (R 1 7) 4) v → 0 ≤ v.toInt ∧ v.toInt ≤ 5 → Q 1 0 I J R) : AM (d + 1) 3 112 [.ref (R 1 7), .int v] I J R (fun x y I2 J2 R2 => (x = 0 ∨ x = 1) → Q x y I2 J2 R2) := by
  have hO := hR.now.1
  have b4 := Bd.o hB hO (show bnd 0 4 = some _ from rfl)
  have nm : (v < 0 ∨ ¬ v < I (R 1 7) 4) → ¬ hsP (I (R 1 7) 4) v := fun z y => z.elim (fun a => ile.mpr y.1 a) (fun a => a y.2)
  refine w_X0_isMan ⟨fun c => ⟨Or.inl rfl, fun _ => hN (nm (Or.inl c))⟩, fun c => bif_t hO ⟨fun c2 => ⟨Or.inl rfl, fun _ => hN (nm (Or.inr (ile.mpr c2)))⟩, fun c2 => ⟨Or.inr rfl, fun _ => ?_⟩⟩⟩
  have h0 : (0 : Int32) ≤ v := ile.mp c
  have hm : v < I (R 1 7) 4 := Decidable.not_not.mp (fun z => c2 (ile.mp z))
  have h0' := h0
  have hm' := hm
  rw [Int32.le_iff_toInt_le, show (0 : Int32).toInt = 0 from rfl] at h0'
  rw [Int32.lt_iff_toInt_lt] at hm'
  exact hY ⟨h0, hm⟩ ⟨h0', by omega⟩
theorem cx_has {d : Nat} {v : Int32} {I : Im} {J : Jm} {R : Rm} (hB : Bd I) (hR : RI R) : AM (d + 3) 114 112 [.ref 1, .int v] I J R (fun x _ _ _ _ => HsX (I (R 1 7) 4) v x) := by
  have hO := hR.now.1
  refine w_X11_has ⟨hR.now.2, bif_t hO (cx_isMan hB hR (fun h => ⟨fun z => absurd rfl z, fun _ => w_X11_deny ⟨Or.inl rfl, fun _ => ⟨Or.inl rfl, Or.inr ⟨rfl, h⟩⟩⟩⟩) (fun h hv => ⟨fun _ => ⟨hR.now.2, bif_t hO ?_⟩, fun z => absurd z (by decide)⟩))⟩
  exact sp_X0_holding hB hR hO hv (fun x y I2 J2 hB2 _ => sp_X11_tell hB2 hR (fun x3 y3 I3 J3 _ p o => ⟨o, Or.inl ⟨x_one p, h⟩⟩))
theorem cx_lacks {d : Nat} {v : Int32} {I : Im} {J : Jm} {R : Rm} (hB : Bd I) (hR : RI R) : AM (d + 4) 115 112 [.ref 1, .int v] I J R (fun x _ _ _ _ => HsX (I (R 1 7) 4) v x) := by
  have hO := hR.now.1
  refine w_X11_lacks ⟨hR.now.2, bif_t hO (cx_isMan hB hR (fun h => ⟨fun z => absurd rfl z, fun _ => w_X11_deny ⟨Or.inl rfl, fun _ => ⟨Or.inl rfl, Or.inr ⟨rfl, h⟩⟩⟩⟩) (fun h hv => ⟨fun _ => ⟨hR.now.2, bif_t hO ?_⟩, fun z => absurd z (by decide)⟩))⟩
  exact sp_X0_lacking hB hR hO hv (fun x y I2 J2 hB2 _ => sp_X11_tell hB2 hR (fun x3 y3 I3 J3 _ p o => ⟨o, Or.inl ⟨x_one p, h⟩⟩))
/-- the reference asks it -/
theorem mx_isMan {d : Nat} {v : Int32} {I : Im} {J : Jm} {R : Rm} {Q : Qt} (hB : Bd I) (hN : ¬ hsP (I 102 0) v → Q 0 0 I J R) (hY : hsP (I 102 0) v → 0 ≤ v.toInt ∧ v.toInt < (I 102 0).toInt → Q 1 0 I J R) : AM (d + 2) 239 112 [.ref 97, .int v] I J R (fun x y I2 J2 R2 => (x = 0 ∨ x = 1) → Q x y I2 J2 R2) := by
  obtain ⟨b0, b6⟩ := Bd.men hB
  have t0 : Int32.toNatClampNeg 0 = 0 := rfl
  have e1 : (I 102 0 - 1 : Int32).toInt = (I 102 0).toInt - 1 := ti_sub rfl (show (1 : Int32).toInt = 1 from rfl) (by omega)
  have hle : v ≤ I 102 0 - 1 ↔ v < I 102 0 := by
    rw [Int32.le_iff_toInt_le, Int32.lt_iff_toInt_lt, e1]; omega
  refine w_X12_isManAt ⟨vp_of (a := 0) rfl (by decide) (by decide), ?_⟩
  rw [t0]
  refine px_isInI (lo := 0) (hi := I 102 0 - 1) (fun l1 l2 _ => ⟨Or.inr rfl, fun _ => ?_⟩) (fun n1 _ => ⟨Or.inl rfl, fun _ => hN (fun y => n1.elim (fun a => ile.mpr y.1 a) (fun a => a (hle.mpr y.2)))⟩)
  have hm := hle.mp l2
  have h0' := l1
  have hm' := hm
  rw [Int32.le_iff_toInt_le, show (0 : Int32).toInt = 0 from rfl] at h0'
  rw [Int32.lt_iff_toInt_lt] at hm'
  exact hY ⟨l1, hm⟩ ⟨h0', hm'⟩
theorem mx_has {d : Nat} {v : Int32} {I : Im} {J : Jm} {R : Rm} (hB : Bd I) (hR : RI R) : AM (d + 3) 251 112 [.ref 97, .int v] I J R (fun x _ _ _ _ => HsX (I 102 0) v x) := by
  have b := Bd.men hB
  have e102 : uI (uI I 97 1 0) 97 0 0 102 = I 102 := (uI_ne (by decide)).trans (uI_ne (by decide))
  have hB1 : Bd (uI I 97 1 0) := Bd.o0 hB (show isO 112 97 12 = true from rfl) (by omega) (show bnd 12 1 = none from rfl)
  have hB2 : Bd (uI (uI I 97 1 0) 97 0 0) := Bd.o0 hB1 (show isO 112 97 12 = true from rfl) (by omega) (show bnd 12 0 = none from rfl)
  refine w_X12_has (mx_isMan hB2 (fun h => ⟨fun _ => w_X12_no ⟨Or.inl rfl, fun _ => ⟨Or.inl rfl, Or.inr ⟨rfl, e102 ▸ h⟩⟩⟩, fun z => absurd rfl z⟩) (fun h hv => ⟨fun z => absurd z (by decide), fun _ => ?_⟩))
  rw [e102] at h hv
  have e : (46 + v : Int32).toInt = 46 + v.toInt := ti_add rfl rfl (by omega)
  refine ⟨vp_of (a := 46 + v.toInt) e (by omega) (by omega), ?_⟩
  exact sp_X12_sumOf hB2 hR (fun x y I3 J3 hB3 _ => sp_X12_fraction hB3 hR (by decide) (fun x4 y4 I4 J4 _ p o => ⟨o, Or.inl ⟨x_one p, h⟩⟩))
theorem mx_lacks {d : Nat} {v : Int32} {I : Im} {J : Jm} {R : Rm} (hB : Bd I) (hR : RI R) : AM (d + 4) 252 112 [.ref 97, .int v] I J R (fun x _ _ _ _ => HsX (I 102 0) v x) := by
  have b := Bd.men hB
  have e102 : uI (uI I 97 1 0) 97 0 0 102 = I 102 := (uI_ne (by decide)).trans (uI_ne (by decide))
  have hB1 : Bd (uI I 97 1 0) := Bd.o0 hB (show isO 112 97 12 = true from rfl) (by omega) (show bnd 12 1 = none from rfl)
  have hB2 : Bd (uI (uI I 97 1 0) 97 0 0) := Bd.o0 hB1 (show isO 112 97 12 = true from rfl) (by omega) (show bnd 12 0 = none from rfl)
  refine w_X12_lacks (mx_isMan hB2 (fun h => ⟨fun _ => w_X12_no ⟨Or.inl rfl, fun _ => ⟨Or.inl rfl, Or.inr ⟨rfl, e102 ▸ h⟩⟩⟩, fun z => absurd rfl z⟩) (fun h hv => ⟨fun z => absurd z (by decide), fun _ => ?_⟩))
  have hv2 := hv
  rw [e102] at h
  exact sp_X12_lackOf hB2 hR hv2 (fun x y I3 J3 hB3 _ => sp_X12_fraction hB3 hR (by decide) (fun x4 y4 I4 J4 _ p o => ⟨o, Or.inl ⟨x_one p, h⟩⟩))
