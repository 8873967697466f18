section PT16x7
section TRU
variable {I : Im} {J : Jm} {R : Rm} {Q : Qt}
theorem cx_pour9 {d : Nat} {a p b q n : Int32} (hB : Bd I) (hR : RI R) : AM (d + 2) 106 112 [.ref 1, .int a, .int p, .int b, .int q, .int n] I J R (fun _ _ _ J1 _ => HPo9 (trL9 I) (trS9 I) J a p b q n J1) := by
  have z0 : (0 : Int32).toInt = 0 := rfl
  have no : ¬ okU9 (trL9 I) (trS9 I) a p b q n → ∀ s : Int32, AM (d + 1) 150 112 [.ref 1, .int s] I J R (fun x _ _ J1 _ => (x = 0 ∨ x = 1) → (((x : Int32) = 0 ∨ (x : Int32) = 1) ∧ HPo9 (trL9 I) (trS9 I) J a p b q n J1)) := fun hn s => w_X11_deny ⟨Or.inl rfl, fun _ => ⟨Or.inl rfl, fun z => absurd z hn, fun _ => rfl⟩⟩
  refine w_X11_pour (px_tr9 (fun ha _ => ⟨fun z => absurd z (by decide), fun _ => px_tr9 (fun hb _ => ⟨fun _ => ?_, fun z => absurd z (by decide)⟩) (fun hb _ => ⟨fun z => absurd rfl z, fun _ => no (fun z => hb z.1.2) 1⟩)⟩) (fun ha _ => ⟨fun _ => no (fun z => ha z.1.1) 1, fun z => absurd rfl z⟩))
  obtain ⟨va, ⟨ra0, raO⟩, rta⟩ := tr9_o hR ha
  obtain ⟨vb, ⟨rb0, rbO⟩, rtb⟩ := tr9_o hR hb
  obtain ⟨aa, la, -⟩ := fa_10_2 raO
  obtain ⟨ab, lb, -⟩ := fa_10_2 rbO
  have bda := Bd.o hB raO bd9_10_1
  have bdb := Bd.o hB rbO bd9_10_1
  have ea : (I (R 2 (Int32.toNatClampNeg a)) 1).toInt = (trL9 I (nn9 a)).toInt := by rw [rta]; rfl
  have eb : (I (R 2 (Int32.toNatClampNeg b)) 1).toInt = (trL9 I (nn9 b)).toInt := by rw [rtb]; rfl
  have sa : I (R 2 (Int32.toNatClampNeg a)) 0 = trS9 I (nn9 a) := by rw [rta]; rfl
  have sb : I (R 2 (Int32.toNatClampNeg b)) 0 = trS9 I (nn9 b) := by rw [rtb]; rfl
  refine ⟨va, ra0, vb, rb0, bif_t raO (w_X10_isMissing (bif_t raO ⟨fun ca => ⟨Or.inl rfl, fun _ => ⟨fun z => absurd rfl z, fun _ => bif_t rbO (w_X10_isMissing (bif_t rbO ⟨fun cb => ⟨Or.inl rfl, fun _ => ⟨fun _ => bif_t raO (bif_t rbO ?_), fun z => absurd rfl z⟩⟩, fun cb => ⟨Or.inr rfl, fun _ => ⟨fun z => absurd z (by decide), fun _ => no (fun z => cb ?_) 3⟩⟩⟩))⟩⟩, fun ca => ⟨Or.inr rfl, fun _ => ⟨fun _ => no (fun z => ca ?_) 3, fun z => absurd z (by decide)⟩⟩⟩))⟩
  · refine ⟨fun cs => ⟨fun cn => bif_t raO (px_hp9 raO (fun h1 _ => ⟨fun z => absurd z (by decide), fun _ => bif_t rbO (px_hp9 rbO (fun h2 _ => ⟨fun _ => bif_t raO (bif_t rbO ?_), fun z => absurd z (by decide)⟩) (fun h2 _ => ⟨fun z => absurd rfl z, fun _ => no (fun z => h2 ?_) 4⟩))⟩) (fun h1 _ => ⟨fun _ => no (fun z => h1 ?_) 4, fun z => absurd rfl z⟩)), fun cn => no (fun z => cn ?_) 6⟩, fun cs => no (fun z => cs ?_) 11⟩
    · have hk : okU9 (trL9 I) (trS9 I) a p b q n := ⟨⟨ha, hb⟩, by rw [← sa, ← sb]; exact cs, ⟨h1.1, h2.1, h1.2.1⟩, by rw [← ea]; exact h1.2.2, by rw [← eb]; exact h2.2.2⟩
      have ep : (Int32.toNatClampNeg p : Int) = p.toInt := by show (p.toInt.toNat : Int) = _; have := h1.1; omega
      have eq : (Int32.toNatClampNeg q : Int) = q.toInt := by show (q.toInt.toNat : Int) = _; have := h2.1; omega
      have en : (Int32.toNatClampNeg n : Int) = n.toInt := by show (n.toInt.toNat : Int) = _; have := h1.2.1; omega
      have l1 := h1.2.2
      have l2 := h2.2.2
      have c : (isA 112 (R 2 (Int32.toNatClampNeg a) + 1) 1 && isA 112 (R 2 (Int32.toNatClampNeg b) + 1) 1) = true := by rw [aa, ab]; rfl
      have ng : ∀ x : Int32, 0 ≤ x.toInt → ¬ x < 0 := fun x hx z => by rw [Int32.lt_iff_toInt_lt, z0] at z; omega
      refine bif_t c ⟨⟨ng p h1.1, ng q h2.1, ng n h1.2.1, by rw [la]; omega, by rw [lb]; omega⟩, w_X11_allow ⟨Or.inr rfl, fun _ => ⟨Or.inr rfl, fun _ => ⟨fun k => ?_, fun o ho => ?_⟩, fun z => absurd hk z⟩⟩⟩
      · rw [rta, rtb]
        exact cJ_v9
      · rw [rta, rtb]
        exact cJ_ne ho
    · exact ⟨z.2.2.1.2.1, z.2.2.1.2.2, by rw [eb]; exact z.2.2.2.2⟩
    · exact ⟨z.2.2.1.1, z.2.2.1.2.2, by rw [ea]; exact z.2.2.2.1⟩
    · rw [le_i, z0]; exact z.2.2.1.2.2
    · rw [sa, sb]; exact z.2.1
  · rw [le_i, z0, eb]
    have := z.2.2.1.2.1
    have := z.2.2.1.2.2
    have := z.2.2.2.2
    omega
  · rw [le_i, z0, ea]
    have := z.2.2.1.1
    have := z.2.2.1.2.2
    have := z.2.2.2.1
    omega
end TRU
end PT16x7
section PT16x8
/-! ===== the trays' numbers: the reference's ===== -/
theorem ix60 {a b : Int32} (h : tr9 a) (h1 : 0 ≤ b.toInt) (h2 : b.toInt < 60) : Int32.toNatClampNeg (60 * a + b) = 60 * nn9 a + nn9 b ∧ vp_in (60 * a + b) 240 := by
  obtain ⟨a1, a2⟩ := h
  have e60 : (60 : Int32).toInt = 60 := rfl
  have em : (60 * a : Int32).toInt = 60 * a.toInt := ti_mul e60 rfl (by omega)
  have es : (60 * a + b : Int32).toInt = 60 * a.toInt + b.toInt := ti_add em rfl (by omega)
  have ea : nn9 a = a.toInt.toNat := rfl
  have eb : nn9 b = b.toInt.toNat := rfl
  have e3 : Int32.toNatClampNeg (60 * a + b) = (60 * a + b : Int32).toInt.toNat := rfl
  exact ⟨by rw [e3, es, ea, eb]; omega, vp_of es (by omega) (by omega)⟩
section TRR
variable {I : Im} {J : Jm} {R : Rm} {Q : Qt}
theorem px_trd9 {d : Nat} {v : Int32} (hY : tr9 v → 0 ≤ (I 99 (nn9 v)).toInt → Q 0 0 I J R) (hN : ¬ (tr9 v ∧ 0 ≤ (I 99 (nn9 v)).toInt) → ∀ x : Int32, ¬ x ≤ 0 → Q x 0 I J R) : AM (d + 1) 182 112 [.ref 97, .int v] I J R Q := by
  have z0 : (0 : Int32).toInt = 0 := rfl
  have z4 : (4 : Int32).toInt = 4 := rfl
  refine w_X12_trayed ⟨fun c => hN (fun z => ?_) 1 (by decide), fun c1 => ⟨fun c2 => ?_, fun c2 => hN (fun z => ?_) 1 (by decide)⟩⟩
  · rw [Int32.lt_iff_toInt_lt, z0] at c; have := z.1.1; omega
  · rw [Int32.lt_iff_toInt_lt, z0] at c1
    rw [Int32.lt_iff_toInt_lt, z4] at c2
    have h : tr9 v := ⟨by omega, by omega⟩
    refine ⟨(tr9_n h).2, fun c => hY h ?_, fun c => hN (fun z => c ?_) 3 (by decide)⟩
    · rw [le_i, z0] at c; exact c
    · rw [le_i, z0]; exact z.2
  · rw [Int32.lt_iff_toInt_lt, z4] at c2; have := z.1.2; omega
theorem px_plR9 {d : Nat} {a b : Int32} (hY : okP9 (I 99) a b → Q 0 0 I J R) (hN : ¬ okP9 (I 99) a b → ∀ x : Int32, ¬ x ≤ 0 → Q x 0 I J R) : AM (d + 2) 183 112 [.ref 97, .int a, .int b] I J R Q := by
  have z0 : (0 : Int32).toInt = 0 := rfl
  refine w_X12_placed (px_trd9 (fun h hl => ⟨fun _ => ?_, fun z => absurd (show (0 : Int32) ≤ 0 by decide) z⟩) (fun h x hx => ⟨fun z => absurd z hx, fun _ => hN (fun y => h ⟨y.1, by have := y.2.1; have := y.2.2; omega⟩) x hx⟩))
  refine ⟨fun c => hN (fun z => ?_) 4 (by decide), fun c1 => ⟨(tr9_n h).2, fun c => hY ⟨h, ?_, ?_⟩, fun c => hN (fun z => c ?_) 4 (by decide)⟩⟩
  · rw [Int32.lt_iff_toInt_lt, z0] at c; have := z.2.1; omega
  · rw [Int32.lt_iff_toInt_lt, z0] at c1; omega
  · rw [Int32.lt_iff_toInt_lt] at c; exact c
  · rw [Int32.lt_iff_toInt_lt]; exact z.2.2
theorem px_trim9 {d : Nat} {s : Int32} {v : Int64} (hQ : Q 0 (trm9 s v) I J R) : AM (d + 1) 180 112 [.int s, .long v] I J R Q := by
  unfold trm9 at hQ
  refine w_X12_trims ⟨fun s0 => ⟨fun s1 => ⟨fun s2 => ?_, fun s2 => ?_⟩, fun s1 => ?_⟩, fun s0 => ?_⟩
  · rw [if_neg s0, if_neg s1, if_neg s2] at hQ; exact hQ
  · rw [if_neg s0, if_neg s1, if_pos s2] at hQ; exact hQ
  · rw [if_neg s0, if_pos s1] at hQ; exact hQ
  · rw [if_pos s0] at hQ; exact hQ
theorem px_wrR9 {d : Nat} {a b : Int32} {v : Int64} (h60 : ∀ t, t < 4 → (I 99 t).toInt ≤ 60) (hY : okP9 (I 99) a b → Q 1 0 (uI (uI I 97 1 0) 97 0 0) (uJ J 100 (60 * nn9 a + nn9 b) (trm9 (I 98 (nn9 a)) v)) R) (hN : ¬ okP9 (I 99) a b → ∀ I2, Q 0 0 I2 J R) : AM (d + 3) 184 112 [.ref 97, .int a, .int b, .long v] I J R Q := by
  have e99 : uI I 97 1 0 99 = I 99 := uI_ne (by decide)
  refine w_X12_write (px_plR9 (fun hk => ?_) (fun hk x hx => ?_))
  · rw [e99] at hk
    obtain ⟨n4, v4⟩ := tr9_n hk.1
    have l := h60 _ n4
    have h1 := hk.2.1
    have h2 := hk.2.2
    obtain ⟨ix, vx⟩ := ix60 hk.1 h1 (by omega)
    refine ⟨fun _ => ⟨v4, ?_⟩, fun z => absurd (show uI (uI I 97 1 0) 97 0 0 97 0 ≤ (0 : Int32) from by rw [rd_eq]; decide) z⟩
    refine px_trim9 ⟨vx, Or.inr rfl, ?_⟩
    rw [ix, rd_ne (by decide), rd_ne (by decide)]
    exact hY hk
  · rw [e99] at hk
    exact ⟨fun z => absurd (show x ≤ 0 by rw [rd_eq] at z; exact z) hx, fun _ => ⟨Or.inl rfl, hN hk _⟩⟩
noncomputable def HWq9 (I : Im) (J : Jm) (a b : Int32) (v : Int64) (J1 : Jm) : Prop := (okP9 (I 99) a b → J1 = uJ J 100 (60 * nn9 a + nn9 b) (trm9 (I 98 (nn9 a)) v)) ∧ (¬ okP9 (I 99) a b → J1 = J)
theorem mx_write9 {d : Nat} {a b : Int32} {v : Int64} (h60 : ∀ t, t < 4 → (I 99 t).toInt ≤ 60) : AM (d + 3) 184 112 [.ref 97, .int a, .int b, .long v] I J R (fun _ _ _ J1 _ => HWq9 I J a b v J1) :=
  px_wrR9 h60 (fun hk => ⟨fun _ => rfl, fun z => absurd hk z⟩) (fun hk _ => ⟨fun z => absurd z hk, fun _ => rfl⟩)
/-- tray() -/
noncomputable def HTq9 (J : Jm) (a b c : Int32) (J1 : Jm) : Prop := (okT9 a b c → (∀ k : Nat, (k : Int) < c.toInt → J1 100 (60 * nn9 a + k) = 0) ∧ (∀ i, ¬ (60 * nn9 a ≤ i ∧ i < 60 * nn9 a + 60) → J1 100 i = J 100 i) ∧ ∀ o, ¬ o = 100 → J1 o = J o) ∧ (¬ okT9 a b c → J1 = J)
theorem mx_tray9 {d : Nat} {a b c : Int32} : AM (d + 2) 181 112 [.ref 97, .int a, .int b, .int c] I J R (fun _ _ _ J1 _ => HTq9 J a b c J1) := by
  have z0 : (0 : Int32).toInt = 0 := rfl
  have z3 : (3 : Int32).toInt = 3 := rfl
  have z4 : (4 : Int32).toInt = 4 := rfl
  have z60 : (60 : Int32).toInt = 60 := rfl
  refine am_X12_tray (fun P hc => ?_)
  have no : ¬ okT9 a b c → ∀ (s : Int32) (A : Im), AM (d + 1) 177 112 [.ref 97, .int s] A J R (fun x _ _ J1 _ => (x = 0 ∨ x = 1) → (((x : Int32) = 0 ∨ (x : Int32) = 1) ∧ HTq9 J a b c J1)) := fun hn s A => w_X12_no ⟨Or.inl rfl, fun _ => ⟨Or.inl rfl, fun z => absurd z hn, fun _ => rfl⟩⟩
  refine sg_X12_tray_0 hc _ _ _ _ _ _ ⟨fun q => no (fun z => ?_) 1 _, fun q1 => ⟨fun q => no (fun z => ?_) 1 _, fun q2 => ⟨fun q => no (fun z => ?_) 1 _, fun q3 => ⟨fun q4 => ⟨fun q5 => ⟨fun q6 => ?_, fun q => no (fun z => ?_) 6 _⟩, fun q => no (fun z => ?_) 5 _⟩, fun q => no (fun z => ?_) 1 _⟩⟩⟩⟩
  · rw [Int32.lt_iff_toInt_lt, z0] at q; have := z.1.1; omega
  · rw [le_i, z4] at q; have := z.1.2; omega
  · rw [Int32.lt_iff_toInt_lt, z0] at q; have := z.2.1.1; omega
  · rw [Int32.lt_iff_toInt_lt, z0] at q1 q3
    rw [le_i, z4] at q2
    rw [le_i, z3] at q4
    rw [le_i, z60] at q5
    rw [le_i, z0] at q6
    have ht : tr9 a := ⟨by omega, by omega⟩
    have hk : okT9 a b c := ⟨ht, ⟨by omega, q4⟩, q6, q5⟩
    have v4 := (tr9_n ht).2
    have ec : c = nI (nn9 c) := Int32.toInt_inj.mp (by
      have : (nn9 c : Int) = c.toInt := by show (c.toInt.toNat : Int) = _; omega
      rw [nI_toInt (by omega)]; omega)
    have nc : (nn9 c : Int) = c.toInt := by show (c.toInt.toNat : Int) = _; omega
    refine ⟨v4, v4, ?_⟩
    generalize uI (uI (uI (uI I 97 1 0) 97 0 0) 98 (Int32.toNatClampNeg a) b) 99 (Int32.toNatClampNeg a) c = A
    have L : ∀ (f : Nat) (M : Jm), f ≤ nn9 c → (∀ k, k < nn9 c - f → M 100 (60 * nn9 a + k) = 0) → (∀ i, ¬ (60 * nn9 a ≤ i ∧ i < 60 * nn9 a + 60) → M 100 i = J 100 i) → (∀ o, ¬ o = 100 → M o = J o) → P 74 112 [(0, .ref 97), (1, .int a), (3, .int c), (4, .int (nI (nn9 c - f)))] [] A M R := by
      intro f
      induction f with
      | zero =>
        intro M _ h1 h2 h3
        refine sg_X12_tray_74 hc _ _ _ _ _ _ ⟨fun _ => ⟨Or.inr rfl, fun _ => ⟨fun k hk => h1 k (by omega), h2, h3⟩, fun z => absurd hk z⟩, fun y => ?_⟩
        rw [ec] at y
        exact absurd ((nle_nI (b := nn9 (nI (nn9 c)) - 0) (by omega) (by rw [show nn9 (nI (nn9 c)) = nn9 c from by rw [← ec]]; omega)).mpr (by rw [show nn9 (nI (nn9 c)) = nn9 c from by rw [← ec]]; omega)) y
      | succ f ih =>
        intro M hf h1 h2 h3
        have tn : (nI (nn9 c - (f + 1))).toInt = ((nn9 c - (f + 1) : Nat) : Int) := nI_toInt (by omega)
        have nn : nn9 (nI (nn9 c - (f + 1))) = nn9 c - (f + 1) := tn_nI (by omega)
        obtain ⟨ix, vx⟩ := ix60 (b := nI (nn9 c - (f + 1))) ht (by omega) (by omega)
        refine sg_X12_tray_74 hc _ _ _ _ _ _ ⟨fun y => ?_, fun _ => ⟨vx, ?_⟩⟩
        · rw [le_i, tn] at y
          omega
        · rw [ix, nn, show nI (nn9 c - (f + 1)) + 1 = nI (nn9 c - f) from by rw [nI_k1]; exact congrArg nI (by omega)]
          refine ih _ (by omega) (fun k hk => ?_) (fun i hi => ?_) (fun o ho => (uJ_ne ho).trans (h3 o ho))
          · by_cases q : k = nn9 c - (f + 1)
            · subst q; exact rj_eq
            · rw [rj_k (by omega)]; exact h1 k (by omega)
          · rw [rj_k (by omega)]; exact h2 i hi
    have k := L (nn9 c) J (Nat.le_refl _) (fun k hk => absurd hk (by omega)) (fun _ _ => rfl) (fun _ _ => rfl)
    rw [Nat.sub_self] at k
    exact k
  · rw [le_i, z0] at q; exact q z.2.2.1
  · rw [le_i, z60] at q; exact q z.2.2.2
  · rw [le_i, z3] at q; exact q z.2.1.2
end TRR
end PT16x8
