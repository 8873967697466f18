section PT15x5
section W9D
variable {I I1 I2 : Im} {J J1 J2 : Jm} {R R2 : Rm} {v a b x : Int32}
noncomputable def HOw9 (o : Nat) (v a b : Int32) (I : Im) (x : Int32) (I1 : Im) : Prop := (¬ owP (I o 4) v a b ∧ x = 0 ∧ I1 = uI I 1 0 (I1 1 0)) ∨ (owP (I o 4) v a b ∧ x = 1 ∧ I1 = uI (uI (uI I (o + 3) (nn9 v) a) (o + 4) (nn9 v) b) 1 0 0)
theorem cx_owe9 {d : Nat} (hB : Bd I) (hR : RI R) : AM (d + 3) 123 112 [.ref 1, .int v, .int a, .int b] I J R (fun x _ I1 _ _ => HOw9 (R 1 7) v a b I x I1) := by
  have hO := hR.now.1
  have b4 := Bd.o hB hO bd9_0_4
  obtain ⟨a3, l3, -⟩ := fa_0_6 hO
  obtain ⟨a4, l4, -⟩ := fa_0_7 hO
  have no : ∀ z : Int32, (¬ owP (I (R 1 7) 4) v a b) → AM (d + 2) 150 112 [.ref 1, .int z] I J R (fun x _ I2 J2 R2 => (x = 0 ∨ x = 1) → ((x = 0 ∨ x = 1) ∧ HOw9 (R 1 7) v a b I x I2)) := fun z h => w_X11_deny ⟨Or.inl rfl, fun _ => ⟨Or.inl rfl, Or.inl ⟨h, rfl, uI_self (k := 0)⟩⟩⟩
  refine w_X11_owe ⟨hR.now.2, bif_t hO (px_cMan9 hO (fun hk _ => ⟨fun _ => ?_, fun z => absurd z (by decide)⟩) (fun hk _ => ⟨fun z => absurd rfl z, fun _ => no 2 (fun y => hk y.1)⟩))⟩
  have h0' := hk.1
  have hm' := hk.2
  rw [Int32.le_iff_toInt_le, show (0 : Int32).toInt = 0 from rfl] at h0'
  rw [Int32.lt_iff_toInt_lt] at hm'
  refine px_isShare (fun hs _ => ⟨fun _ => ⟨hR.now.2, bif_t hO (bif_t a3 ⟨vp_of (a := v.toInt) rfl h0' (by omega), hR.now.2, bif_t hO (bif_t a4 ⟨vp_of (a := v.toInt) rfl h0' (by omega), w_X11_allow ⟨Or.inr rfl, fun _ => ⟨Or.inr rfl, Or.inr ⟨⟨hk, hs⟩, rfl, rfl⟩⟩⟩⟩)⟩)⟩, fun z => absurd z (by decide)⟩) (fun hs _ => ⟨fun z => absurd rfl z, fun _ => no 5 (fun y => hs y.2)⟩)
theorem mx_owe9 {d : Nat} (hR : RI R) (e0 : I (R 1 7) 4 = I 102 0) (h : W9 I R) (H1 : HOw9 (R 1 7) v a b I x I1) : AM (d + 4) 267 112 [.ref 97, .int v, .int a, .int b] I1 J1 R (fun x2 _ I2 _ _ => x2 = x ∧ W9 I2 R) := by
  have n7 := now_9 hR
  have n9 := n9_p hR
  obtain ⟨q1, q2, q3⟩ := h.1
  obtain ⟨m6, mt, mi⟩ := q1.m
  have e102 : I1 102 = I 102 := by
    rcases H1 with ⟨-, -, eI⟩ | ⟨-, -, eI⟩
    · rw [eI]; exact uI_ne (by decide)
    · rw [eI, uI_ne (by decide), uI_ne (by first | decide | omega), uI_ne (by first | decide | omega)]
  have c102 : uI (uI I1 97 1 0) 97 0 0 102 = I 102 := by rw [uI_ne (by decide), uI_ne (by decide)]; exact e102
  have k0 : uI (uI I1 97 1 0) 97 0 0 102 0 = I 102 0 := congrFun c102 0
  refine w_X12_owe (px_manAt (by rw [k0]; omega) (fun hk => ⟨fun z => absurd rfl z, fun _ => ?_⟩) (fun hk => ⟨fun _ => px_mShare (fun hs _ => ⟨fun _ => ?_, fun z => absurd z (by decide)⟩) (fun hs _ => ⟨fun z => absurd rfl z, fun _ => ?_⟩), fun z => absurd z (by decide)⟩))
  · rw [k0] at hk
    rcases H1 with ⟨-, x1, eI⟩ | ⟨y, -, -⟩
    · exact no9 (w := 0) hR h x1 eI
    · rw [e0] at y
      exact absurd y.1 hk
  · rw [k0] at hk
    rcases H1 with ⟨n1, -, -⟩ | ⟨-, x1, eI⟩
    · rw [e0] at n1
      exact absurd ⟨hk, hs⟩ n1
    · have h0' := hk.1
      have hm' := hk.2
      rw [le_i, show (0 : Int32).toInt = 0 from rfl] at h0'
      rw [Int32.lt_iff_toInt_lt] at hm'
      have nk : nn9 v = v.toInt.toNat := rfl
      have nm : nn9 v < mnN (I 102) := by omega
      have s1 : (34 + v : Int32).toInt = 34 + v.toInt := ti_add (show (34 : Int32).toInt = 34 from rfl) rfl (by omega)
      have s2 : (40 + v : Int32).toInt = 40 + v.toInt := ti_add (show (40 : Int32).toInt = 40 from rfl) rfl (by omega)
      have i34 : Int32.toNatClampNeg (34 + v) = 34 + nn9 v := by
        have e3 : Int32.toNatClampNeg (34 + v) = (34 + v : Int32).toInt.toNat := rfl
        rw [e3, s1]; omega
      have i40 : Int32.toNatClampNeg (40 + v) = 40 + nn9 v := by
        have e3 : Int32.toNatClampNeg (40 + v) = (40 + v : Int32).toInt.toNat := rfl
        rw [e3, s2]; omega
      refine ⟨vp_of s1 (by omega) (by omega), vp_of s2 (by omega) (by omega), Or.inr rfl, x1.symm, ?_⟩
      rw [i34, i40]
      generalize hk' : nn9 v = k at nm eI i34 i40
      have fk : ∀ j, ¬ j = 34 + k → ¬ j = 40 + k → uI (uI (uI (uI I1 97 1 0) 97 0 0) 102 (34 + k) a) 102 (40 + k) b 102 j = I 102 j := fun j h1 h2 => (rd_k h2).trans ((rd_k h1).trans (congrFun c102 j))
      have f34 : uI (uI (uI (uI I1 97 1 0) 97 0 0) 102 (34 + k) a) 102 (40 + k) b 102 (34 + k) = a := (rd_k (by omega)).trans rd_eq
      have f40 : uI (uI (uI (uI I1 97 1 0) 97 0 0) 102 (34 + k) a) 102 (40 + k) b 102 (40 + k) = b := rd_eq
      have g : ∀ c, ¬ c = 97 → ¬ c = 102 → uI (uI (uI (uI I1 97 1 0) 97 0 0) 102 (34 + k) a) 102 (40 + k) b c = I1 c := fun c h1 h2 => (uI_ne h2).trans ((uI_ne h2).trans ((uI_ne h1).trans (uI_ne h1)))
      have g23 : uI (uI (uI (uI I1 97 1 0) 97 0 0) 102 (34 + k) a) 102 (40 + k) b 97 23 = I1 97 23 := by rw [rd_ne (by decide), rd_ne (by decide), rd_k (by decide), rd_k (by decide)]
      generalize uI (uI (uI (uI I1 97 1 0) 97 0 0) 102 (34 + k) a) 102 (40 + k) b = A at fk f34 f40 g g23
      have i : ∀ c, ¬ c = 1 → ¬ c = R 1 7 + 3 → ¬ c = R 1 7 + 4 → I1 c = I c := fun c a1 a2 a3 => by
        rw [eI, uI_ne a1, uI_ne a3, uI_ne a2]
      have mm : mnN (A 102) = mnN (I 102) := congrArg Int32.toNatClampNeg (fk 0 (by omega) (by omega))
      obtain ⟨b1, b2, b3, b4⟩ := q2
      refine h.nw ⟨⟨⟨mnN (I 102), m6, (fk 0 (by omega) (by omega)).trans mt⟩, fun d a1 a2 => ?_, fun j hj => ?_⟩, ⟨?_, ?_, fun d a1 a2 => ?_, fun j hj => ?_⟩, ?_, fun h0 => ?_⟩ ?_ (fun j a1 a2 => fk j (by omega) (by omega)) (fun c a1 a2 => (g c (by omega) (by omega)).trans (i c (by omega) (by omega) (by omega)))
      · rw [fk (3 + d) (by omega) (by omega)]; exact q1.2.1 d a1 a2
      · rw [mm] at hj
        have q := q1.2.2 j hj
        by_cases z : j = k
        · subst z
          rw [f34, f40, fk (46 + j) (by omega) (by omega)]
          exact ⟨hs, q.2⟩
        · rw [fk (34 + j) (by omega) (by omega), fk (40 + j) (by omega) (by omega), fk (46 + j) (by omega) (by omega)]
          exact q
      · rw [g _ (by omega) (by omega), i _ (by omega) (by omega) (by omega), fk 1 (by omega) (by omega)]; exact b1
      · rw [g _ (by omega) (by omega), i _ (by omega) (by omega) (by omega), fk 2 (by omega) (by omega)]; exact b2
      · rw [g _ (by omega) (by omega), i _ (by omega) (by omega) (by omega), fk (3 + d) (by omega) (by omega)]; exact b3 d a1 a2
      · rw [mm] at hj
        obtain ⟨y1, y2, y3⟩ := b4 j hj
        rw [g (R 1 7 + 3) (by omega) (by omega), g (R 1 7 + 4) (by omega) (by omega), g (R 1 7 + 5) (by omega) (by omega)]
        refine ⟨?_, ?_, ?_⟩
        · rw [eI, rd_ne (by first | decide | omega), rd_ne (by first | decide | omega)]
          by_cases z : j = k
          · subst z; rw [rd_eq, f34]
          · rw [rd_k z, fk (34 + j) (by omega) (by omega)]; exact y1
        · rw [eI, rd_ne (by first | decide | omega)]
          by_cases z : j = k
          · subst z; rw [rd_eq, f40]
          · rw [rd_k z, rd_ne (by first | decide | omega), fk (40 + j) (by omega) (by omega)]; exact y2
        · rw [i _ (by omega) (by omega) (by omega), fk (46 + j) (by omega) (by omega)]; exact y3
      · rw [g _ (by omega) (by omega), i _ (by omega) (by omega) (by omega), fk 52 (by omega) (by omega)]; exact q3.1
      · have e52 : ∀ j, 52 ≤ j → A 102 j = I 102 j := fun j hj => fk j (by omega) (by omega)
        rw [e52 52 (by omega)] at h0
        obtain ⟨s, y1, y2, y3, y4, y5, y6, y7⟩ := q3.2 h0
        refine ⟨s, y1, y2, y3, y4, y5.cp (fun c a1 a2 => (g c (by omega) (by omega)).trans (i c (by omega) (by omega) (by omega))), (e52 53 (by omega)).trans y6, fun t ht => ?_⟩
        obtain ⟨w1, w2, w3⟩ := y7 t ht
        exact ⟨(e52 _ (by omega)).trans w1, w2.cp (fun k a1 a2 => e52 k (by omega)), (e52 _ (by omega)).trans w3⟩
      · rw [g23, eI, rd_ne (by decide), rd_ne (by first | decide | omega), rd_ne (by first | decide | omega)]
  · rw [k0] at hk
    rcases H1 with ⟨-, x1, eI⟩ | ⟨y, -, -⟩
    · exact no9 (w := 0) hR h x1 eI
    · exact absurd y.2 hs
/-- the block's first places but the odds, the days, the bakery's cells: all as it was but one place of both -/
theorem W9.od {z : Int32} (hR : RI R) (h : W9 I R) (e1 : ∀ c, ¬ c = 1 → ¬ c = R 1 7 → I1 c = I c) (eo : ∀ k, ¬ k = 1 → I1 (R 1 7) k = I (R 1 7) k) (o1 : I1 (R 1 7) 1 = z) (e2 : ∀ c, ¬ c = 97 → ¬ c = 102 → I2 c = I1 c) (e23 : I2 97 23 = I1 97 23) (ej : ∀ j, ¬ j = 1 → I2 102 j = I1 102 j) (j1 : I2 102 1 = z) : W9 I2 R := by
  have n7 := now_9 hR
  have n9 := n9_p hR
  have e102 : I1 102 = I 102 := e1 102 (by decide) (by omega)
  have ek : ∀ j, ¬ j = 1 → I2 102 j = I 102 j := fun j hj => (ej j hj).trans (congrFun e102 j)
  obtain ⟨q1, q2, q3⟩ := h.1
  have mm : mnN (I2 102) = mnN (I 102) := congrArg Int32.toNatClampNeg (ek 0 (by omega))
  obtain ⟨m6, mt, mi⟩ := q1.m
  obtain ⟨b1, b2, b3, b4⟩ := q2
  have cc : ∀ c, ¬ c = 1 → ¬ c = R 1 7 → ¬ c = 97 → ¬ c = 102 → I2 c = I c := fun c a1 a2 a3 a4 => (e2 c a3 a4).trans (e1 c a1 a2)
  refine h.nw ⟨⟨⟨mnN (I 102), m6, (ek 0 (by omega)).trans mt⟩, fun d a1 a2 => ?_, fun j hj => ?_⟩, ⟨?_, ?_, fun d a1 a2 => ?_, fun j hj => ?_⟩, ?_, fun h0 => ?_⟩ ?_ (fun j a1 a2 => ek j (by omega)) (fun c a1 a2 => cc c (by omega) (by omega) (by omega) (by omega))
  · rw [ek (3 + d) (by omega)]; exact q1.2.1 d a1 a2
  · rw [mm] at hj
    rw [ek (34 + j) (by omega), ek (40 + j) (by omega), ek (46 + j) (by omega)]; exact q1.2.2 j hj
  · rw [e2 _ (by omega) (by omega), o1, j1]
  · rw [e2 _ (by omega) (by omega), eo 3 (by decide), ek 2 (by omega)]; exact b2
  · rw [cc _ (by omega) (by omega) (by omega) (by omega), ek (3 + d) (by omega)]; exact b3 d a1 a2
  · rw [mm] at hj
    rw [cc _ (by omega) (by omega) (by omega) (by omega), cc (R 1 7 + 4) (by omega) (by omega) (by omega) (by omega), cc (R 1 7 + 5) (by omega) (by omega) (by omega) (by omega), ek (34 + j) (by omega), ek (40 + j) (by omega), ek (46 + j) (by omega)]; exact b4 j hj
  · rw [cc _ (by omega) (by omega) (by omega) (by omega), ek 52 (by omega)]; exact q3.1
  · rw [ek 52 (by omega)] at h0
    obtain ⟨s, y1, y2, y3, y4, y5, y6, y7⟩ := q3.2 h0
    refine ⟨s, y1, y2, y3, y4, y5.cp (fun c a1 a2 => cc c (by omega) (by omega) (by omega) (by omega)), (ek 53 (by omega)).trans y6, fun t ht => ?_⟩
    obtain ⟨w1, w2, w3⟩ := y7 t ht
    exact ⟨(ek _ (by omega)).trans w1, w2.cp (fun k a1 a2 => ek k (by omega)), (ek _ (by omega)).trans w3⟩
  · rw [e23, e1 97 (by decide) (by omega)]
noncomputable def okR9 (v : Int32) : Prop := (0 : Int32) ≤ v ∧ v ≤ 16
noncomputable def HRu9 (o : Nat) (v : Int32) (I : Im) (x : Int32) (I1 : Im) : Prop := (¬ okR9 v ∧ x = 0 ∧ I1 = uI I 1 0 (I1 1 0)) ∨ (okR9 v ∧ x = 1 ∧ I1 = uI (uI I o 1 v) 1 0 0)
theorem cx_rule9 {d : Nat} (hR : RI R) : AM (d + 2) 126 112 [.ref 1, .int v] I J R (fun x _ I1 _ _ => HRu9 (R 1 7) v I x I1) := by
  have hO := hR.now.1
  have no : ∀ z : Int32, ¬ okR9 v → AM (d + 1) 150 112 [.ref 1, .int z] I J R (fun x _ I2 J2 R2 => (x = 0 ∨ x = 1) → ((x = 0 ∨ x = 1) ∧ HRu9 (R 1 7) v I x I2)) := fun z h => w_X11_deny ⟨Or.inl rfl, fun _ => ⟨Or.inl rfl, Or.inl ⟨h, rfl, uI_self (k := 0)⟩⟩⟩
  exact w_X11_rule ⟨fun c => no 5 (fun z => ile.mpr z.1 c), fun c1 => ⟨fun c2 => ⟨hR.now.2, bif_t hO (w_X11_allow ⟨Or.inr rfl, fun _ => ⟨Or.inr rfl, Or.inr ⟨⟨ile.mp c1, c2⟩, rfl, rfl⟩⟩⟩)⟩, fun c2 => no 5 (fun z => c2 z.2)⟩⟩
theorem mx_rule9 {d : Nat} (hR : RI R) (h : W9 I R) (H1 : HRu9 (R 1 7) v I x I1) : AM (d + 2) 270 112 [.ref 97, .int v] I1 J1 R (fun x2 _ I2 _ _ => x2 = x ∧ W9 I2 R) := by
  have n7 := now_9 hR
  have t1 : Int32.toNatClampNeg 1 = 1 := rfl
  refine w_X12_rule (px_isInI (lo := 0) (hi := 16) (fun l1 l2 _ => ⟨fun _ => ⟨vp_of (a := 1) rfl (by decide) (by decide), Or.inr rfl, ?_⟩, fun z => absurd z (by decide)⟩) (fun m1 _ => ⟨fun z => absurd rfl z, fun _ => ?_⟩))
  · rcases H1 with ⟨n1, -, -⟩ | ⟨-, x1, eI⟩
    · exact absurd ⟨l1, l2⟩ n1
    · rw [t1]
      refine ⟨x1.symm, h.od (I1 := I1) (z := v) hR (fun c a1 a2 => ?_) (fun k hk => ?_) ?_ (fun c a1 a2 => ?_) ?_ (fun j hj => ?_) rd_eq⟩
      · rw [eI, uI_ne a1, uI_ne a2]
      · rw [eI, rd_ne (by first | decide | omega), rd_k hk]
      · rw [eI, rd_ne (by first | decide | omega), rd_eq]
      · rw [uI_ne a2, uI_ne a1, uI_ne a1]
      · rw [rd_ne (by decide), rd_k (by decide), rd_k (by decide)]
      · rw [rd_k hj, rd_ne (by decide), rd_ne (by decide)]
  · rcases H1 with ⟨-, x1, eI⟩ | ⟨y, -, -⟩
    · exact no9 (w := 0) hR h x1 eI
    · exact m1.elim (fun z => absurd z (ile.mpr y.1)) (fun z => absurd y.2 z)
end W9D
end PT15x5
section PT15x6
/-! ===== learn(), bakery(), days() for the relation of stores ===== -/
section W9E
variable {I I1 I2 : Im} {J J1 J2 : Jm} {R R1 R2 : Rm} {v w x : Int32}
/-- nothing of it is written -/
theorem W9.old (hR : RI R) (h : W9 I R) (e7 : R2 1 7 = R 1 7) (e9 : R2 1 9 = R 1 9) (ec : ∀ c, (R 1 7 ≤ c ∧ c ≤ R 1 7 + 5) ∨ (R 1 9 ≤ c ∧ c ≤ R 1 9 + 5) ∨ (61 ≤ c ∧ c ≤ 96) → I2 c = I c) (ek : ∀ j, j < 1296 → I2 102 j = I 102 j) (e23 : I2 97 23 = I 97 23) : W9 I2 R2 := by
  refine h.nw (R2 := R2) ?_ e23 (fun j _ a => ek j a) (fun c a b => ec c (Or.inr (Or.inr ⟨a, b⟩)))
  rw [e7, e9]
  exact (h.1.cg (fun i hi => ek i (by omega))).cp (fun c a b => ec c (Or.inl ⟨a, b⟩)) (fun c a b => ec c (Or.inr (Or.inl ⟨a, b⟩)))
noncomputable abbrev FrLc9 (o : Nat) (I : Im) (J : Jm) (I2 : Im) (J2 : Jm) : Prop := FrW (fun c k => (c = o ∧ k = 2) ∨ (c = 1 ∧ k = 0)) nV I J I2 J2
noncomputable abbrev FrLm9 (I : Im) (J : Jm) (I2 : Im) (J2 : Jm) : Prop := FrW (fun c k => (c = 102 ∧ k = 3) ∨ (c = 97 ∧ (k = 0 ∨ k = 1))) nV I J I2 J2
theorem cx_learn9 {d : Nat} (hR : RI R) : AM (d + 3) 125 112 [.ref 1, .int v, .int w] I J R (fun _ _ I2 J2 _ => FrLc9 (R 1 7) I J I2 J2) := by
  have hO := hR.now.1
  have f1 : ∀ z k : Int32, FrLc9 (R 1 7) I J (uI (uI I (R 1 7) 2 k) 1 0 z) J := fun z k => (FrW.rf.u (Or.inl ⟨rfl, rfl⟩)).u (Or.inr ⟨rfl, rfl⟩)
  have f2 : ∀ z : Int32, FrLc9 (R 1 7) I J (uI I 1 0 z) J := fun z => FrW.rf.u (Or.inr ⟨rfl, rfl⟩)
  refine w_X11_learn (px_isSlice (fun l1 l2 _ => ⟨fun _ => ⟨hR.now.2, bif_t hO (px_isIn (fun hi _ => ⟨fun c => ⟨hR.now.2, bif_t hO (w_X11_bit (bif_t hO (w_X11_allow ⟨Or.inr rfl, fun _ => ⟨Or.inr rfl, f1 _ _⟩⟩)))⟩, fun c => w_X11_deny ⟨Or.inl rfl, fun _ => ⟨Or.inl rfl, f2 _⟩⟩⟩) (fun hi _ => ⟨fun c => ⟨hR.now.2, bif_t hO (w_X11_bit (bif_t hO (w_X11_allow ⟨Or.inr rfl, fun _ => ⟨Or.inr rfl, f1 _ _⟩⟩)))⟩, fun c => w_X11_deny ⟨Or.inl rfl, fun _ => ⟨Or.inl rfl, f2 _⟩⟩⟩))⟩, fun c => absurd c (by decide)⟩) (fun hn _ => ⟨fun c => absurd rfl c, fun _ => w_X11_deny ⟨Or.inl rfl, fun _ => ⟨Or.inl rfl, f2 _⟩⟩⟩))
end W9E
end PT15x6
