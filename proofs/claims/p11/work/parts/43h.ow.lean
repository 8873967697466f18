/-! ===== owe(): what it answers ===== -/
def owP (m v p q : Int32) : Prop := ((0 : Int32) ≤ v ∧ v < m) ∧ sh p q
def OwX (m v p q x : Int32) : Prop := (x = 1 ∧ owP m v p q) ∨ (x = 0 ∧ ¬ owP m v p q)
theorem OwX.eq {m v p q x x2 : Int32} (h : OwX m v p q x) (h2 : OwX m v p q x2) : x2 = x := by
  rcases h with ⟨a, b⟩ | ⟨a, b⟩ <;> rcases h2 with ⟨c, e⟩ | ⟨c, e⟩
  · rw [a, c]
  · exact absurd b e
  · exact absurd e b
  · rw [a, c]
theorem cx_owe {d : Nat} {v p q : Int32} {I : Im} {J : Jm} {R : Rm} (hB : Bd I) (hR : RI R) : AM (d + 3) 123 112 [.ref 1, .int v, .int p, .int q] I J R (fun x _ _ _ _ => OwX (I (R 1 7) 4) v p q x) := by
  have hO := hR.now.1
  have b4 := Bd.o hB hO (show bnd 0 4 = some _ from rfl)
  obtain ⟨a3, l3, -⟩ := fa_0_6 hO
  obtain ⟨a4, l4, -⟩ := fa_0_7 hO
  have no : ∀ z : Int32, (¬ owP (I (R 1 7) 4) v p q) → AM (d + 2) 150 112 [.ref 1, .int z] I J R (fun x _ I2 J2 R2 => (x = 0 ∨ x = 1) → ((x = 0 ∨ x = 1) ∧ OwX (I (R 1 7) 4) v p q x)) := fun z h => w_X11_deny ⟨Or.inl rfl, fun _ => ⟨Or.inl rfl, Or.inr ⟨rfl, h⟩⟩⟩
  have nm : (v < 0 ∨ ¬ v < I (R 1 7) 4) → ¬ owP (I (R 1 7) 4) v p q := fun z y => z.elim (fun a => ile.mpr y.1.1 a) (fun a => a y.1.2)
  refine w_X11_owe ⟨hR.now.2, bif_t hO (w_X0_isMan ⟨fun c => ⟨Or.inl rfl, fun _ => ⟨fun z => absurd rfl z, fun _ => no 2 (nm (Or.inl c))⟩⟩, fun c => bif_t hO ⟨fun c2 => ⟨Or.inl rfl, fun _ => ⟨fun z => absurd rfl z, fun _ => no 2 (nm (Or.inr (ile.mpr c2)))⟩⟩, fun c2 => ⟨Or.inr rfl, fun _ => ⟨fun _ => ?_, fun z => absurd z (by decide)⟩⟩⟩⟩)⟩
  have h0 : (0 : Int32) ≤ v := ile.mp c
  have hm : v < I (R 1 7) 4 := Decidable.not_not.mp (fun z => c2 (ile.mp z))
  have h0' := h0
  have hm' := hm
  rw [Int32.le_iff_toInt_le, show (0 : Int32).toInt = 0 from rfl] at h0'
  rw [Int32.lt_iff_toInt_lt] at hm'
  refine px_isShare (fun hs _ => ⟨fun _ => ⟨hR.now.2, bif_t hO (bif_t a3 ⟨vp_of (a := v.toInt) rfl h0' (by omega), hR.now.2, bif_t hO (bif_t a4 ⟨vp_of (a := v.toInt) rfl h0' (by omega), w_X11_allow ⟨Or.inr rfl, fun _ => ⟨Or.inr rfl, Or.inl ⟨rfl, ⟨h0, hm⟩, hs⟩⟩⟩⟩)⟩)⟩, fun z => absurd z (by decide)⟩) (fun hs _ => ⟨fun z => absurd rfl z, fun _ => no 5 (fun y => hs y.2)⟩)
theorem mx_owe {d : Nat} {v p q : Int32} {I : Im} {J : Jm} {R : Rm} (hB : Bd I) : AM (d + 4) 267 112 [.ref 97, .int v, .int p, .int q] I J R (fun x _ _ _ _ => OwX (I 102 0) v p q x) := by
  obtain ⟨b0, b6⟩ := Bd.men hB
  have e102 : uI (uI I 97 1 0) 97 0 0 102 = I 102 := (uI_ne (by decide)).trans (uI_ne (by decide))
  have t0 : Int32.toNatClampNeg 0 = 0 := rfl
  have e1 : (I 102 0 - 1 : Int32).toInt = (I 102 0).toInt - 1 := ti_sub rfl (show (1 : Int32).toInt = 1 from rfl) (by omega)
  have hle : v ≤ I 102 0 - 1 ↔ v < I 102 0 := by
    rw [Int32.le_iff_toInt_le, Int32.lt_iff_toInt_lt, e1]; omega
  refine w_X12_owe (w_X12_isManAt ⟨vp_of (a := 0) rfl (by decide) (by decide), ?_⟩)
  rw [t0, e102]
  refine px_isInI (lo := 0) (hi := I 102 0 - 1) (fun l1 l2 _ => ⟨Or.inr rfl, fun _ => ⟨fun _ => ?_, fun z => absurd z (by decide)⟩⟩) (fun n1 _ => ⟨Or.inl rfl, fun _ => ⟨fun z => absurd rfl z, fun _ => w_X12_no ⟨Or.inl rfl, fun _ => ⟨Or.inl rfl, Or.inr ⟨rfl, fun y => n1.elim (fun a => ile.mpr y.1.1 a) (fun a => a (hle.mpr y.1.2))⟩⟩⟩⟩⟩)
  have hm := hle.mp l2
  have h0' := l1
  have hm' := hm
  rw [Int32.le_iff_toInt_le, show (0 : Int32).toInt = 0 from rfl] at h0'
  rw [Int32.lt_iff_toInt_lt] at hm'
  have k1 : (34 + v : Int32).toInt = 34 + v.toInt := ti_add (show (34 : Int32).toInt = 34 from rfl) rfl (by omega)
  have k2 : (40 + v : Int32).toInt = 40 + v.toInt := ti_add (show (40 : Int32).toInt = 40 from rfl) rfl (by omega)
  refine px_mShare (fun hs _ => ⟨fun _ => ⟨vp_of k1 (by omega) (by omega), vp_of k2 (by omega) (by omega), Or.inr rfl, Or.inl ⟨rfl, ⟨l1, hm⟩, hs⟩⟩, fun z => absurd z (by decide)⟩) (fun hs _ => ⟨fun z => absurd rfl z, fun _ => w_X12_no ⟨Or.inl rfl, fun _ => ⟨Or.inl rfl, Or.inr ⟨rfl, fun y => hs y.2⟩⟩⟩⟩)
theorem OwX.both {m m2 v p q x x2 : Int32} (e : m2 = m) (h : OwX m v p q x) (h2 : OwX m2 v p q x2) : x2 = x := by
  rw [e] at h2
  exact h.eq h2
theorem RM.men8 {I I1 : Im} {J J1 : Jm} {R : Rm} (h : RM I J R) (k : K8 I J I1 J1) : I1 102 0 = I (R 1 7) 4 := (k.2.2 0 pK0).trans h.1.1.symm
theorem RM.kn8 {I I1 : Im} {J J1 : Jm} {R : Rm} (h : RM I J R) (k : K8 I J I1 J1) : I1 102 3 = I (R 1 7) 2 := by
  have := h.1.2.1
  rw [Nat.zero_add] at this
  exact (k.2.2 3 pK3).trans this.symm
