section PT15x3
section LIV
variable {I I1 I2 : Im} {J J1 J2 : Jm} {R : Rm} {Q : Qt} {v x : Int32} {s : DS}
end LIV
end PT15x3
section PT15x4
/-! ===== the relation by parts; come(), owe(), learn(), rule() ===== -/
section W9C
variable {I I1 I2 : Im} {J J1 J2 : Jm} {R R2 : Rm} {C C2 : Nat → Int32} {o p : Nat} {s : DS}
theorem CW9.cg (h : CW9 C) (e : ∀ i, i < 52 → C2 i = C i) : CW9 C2 := by
  have hm := h.m
  have em : mnN C2 = mnN C := congrArg Int32.toNatClampNeg (e 0 (by omega))
  obtain ⟨⟨m, m6, e0⟩, h2, h3⟩ := h
  refine ⟨⟨m, m6, (e 0 (by omega)).trans e0⟩, fun d a b => ?_, fun k hk => ?_⟩
  · rw [e (3 + d) (by omega)]; exact h2 d a b
  · rw [em] at hk
    rw [e (34 + k) (by omega), e (40 + k) (by omega), e (46 + k) (by omega)]; exact h3 k hk
theorem BA99.cg (hm : mnN C ≤ 6) (h : BA99 o C I) (e : ∀ i, i < 52 → C2 i = C i) : BA99 o C2 I := by
  have em : mnN C2 = mnN C := congrArg Int32.toNatClampNeg (e 0 (by omega))
  obtain ⟨h1, h2, h3, h4⟩ := h
  refine ⟨h1.trans (e 1 (by omega)).symm, h2.trans (e 2 (by omega)).symm, fun d a b => (h3 d a b).trans (e _ (by omega)).symm, fun k hk => ?_⟩
  rw [em] at hk
  rw [e (34 + k) (by omega), e (40 + k) (by omega), e (46 + k) (by omega)]; exact h4 k hk
theorem DG9.cg (h : DG9 p C I s) (e : ∀ i, i < 324 → C2 i = C i) : DG9 p C2 I s := by
  obtain ⟨g1, g2, g3, g4, g5, g6, g7⟩ := h
  have h30 := g1.1
  refine ⟨g1, g2, g3, g4, g5, (e 53 (by omega)).trans g6, fun t ht => ?_⟩
  obtain ⟨k1, k2, k3⟩ := g7 t ht
  exact ⟨(e _ (by omega)).trans k1, k2.cp (fun k a b => e k (by omega)), (e _ (by omega)).trans k3⟩
theorem DH9.cg (h : DH9 p C I) (e : ∀ i, i < 324 → C2 i = C i) : DH9 p C2 I := by
  refine ⟨h.1.trans (e 52 (by omega)).symm, fun h0 => ?_⟩
  rw [e 52 (by omega)] at h0
  obtain ⟨s, hs⟩ := h.2 h0
  exact ⟨s, hs.cg e⟩
theorem KW9.cg (h : KW9 C o p I) (e : ∀ i, i < 324 → C2 i = C i) : KW9 C2 o p I := ⟨h.1.cg (fun i hi => e i (by omega)), h.2.1.cg h.1.m.1 (fun i hi => e i (by omega)), h.2.2.cg e⟩
theorem KW9.cp (h : KW9 C o p I) (ho : ∀ c, o ≤ c → c ≤ o + 5 → I2 c = I c) (hp : ∀ c, p ≤ c → c ≤ p + 5 → I2 c = I c) : KW9 C o p I2 :=
  ⟨h.1, h.2.1.cp (congrFun (ho o (by omega) (by omega)) 1) (congrFun (ho o (by omega) (by omega)) 3) (fun c hc => ho c (by omega) (by omega)), h.2.2.cp hp⟩
/-- what is kept stays -/
theorem W9.nw (h : W9 I R) (hn : KW9 (I2 102) (R2 1 7) (R2 1 9) I2) (e23 : I2 97 23 = I 97 23) (eb : ∀ j, 324 ≤ j → j < 1296 → I2 102 j = I 102 j) (ec : ∀ c, 61 ≤ c → c ≤ 96 → I2 c = I c) : W9 I2 R2 := by
  refine ⟨hn, fun j hj hm => ?_⟩
  rw [e23] at hm
  exact ((h.2 j hj hm).cg (C2 := blk9 (324 * (j + 1)) I2) (fun i hi => eb _ (by omega) (by omega))).cp (fun c a b => ec c (by omega) (by omega)) (fun c a b => ec c (by omega) (by omega))
theorem n9_p {R : Rm} (hR : RI R) : R 1 9 = 21 ∨ R 1 9 = 27 := hR.rp.2.1.elim (fun q => Or.inl q.1) (fun q => Or.inr q.1)
/-- nothing but what is answered -/
theorem W9.no {z : Int32} (hR : RI R) (h : W9 I R) (eI : I1 = uI I 1 0 (I1 1 0)) : W9 (uI (uI (uI I1 97 1 0) 97 0 0) 97 0 z) R := by
  have c : ∀ k, ¬ k = 1 → ¬ k = 97 → uI (uI (uI I1 97 1 0) 97 0 0) 97 0 z k = I k := fun k a b => by rw [uI_ne b, uI_ne b, uI_ne b, eI]; exact uI_ne a
  have n7 := now_9 hR
  have n9 := n9_p hR
  have e23 : uI (uI (uI I1 97 1 0) 97 0 0) 97 0 z 97 23 = I 97 23 := by rw [rd_k (by decide), rd_k (by decide), rd_k (by decide), eI]; exact rd_ne (by decide)
  have e102 := c 102 (by decide) (by decide)
  refine h.nw ?_ e23 (fun j _ _ => congrFun e102 j) (fun k a b => c k (by omega) (by omega))
  rw [e102]
  exact h.1.cp (fun k a b => c k (by omega) (by omega)) (fun k a b => c k (by omega) (by omega))
theorem CW9.n (h : CW9 C) {m : Nat} (hm : m ≤ 5) (e : C 0 = nI m) : mnN C = m := mnN_of (by omega) e
noncomputable def okC9 (a b : Int32) (o : Nat) (I : Im) : Prop := sh a b ∧ I o 4 < 6
noncomputable def HCo9 (o : Nat) (a b : Int32) (I : Im) (J : Jm) (x : Int32) (I1 : Im) : Prop := (¬ okC9 a b o I ∧ x = -1 ∧ I1 = uI I 1 0 (I1 1 0)) ∨ (okC9 a b o I ∧ ∃ m : Nat, m ≤ 5 ∧ I o 4 = nI m ∧ x = nI m ∧ I1 = uI (uI (uI (uI (uI I (o + 3) m a) (o + 4) m b) (o + 5) m 0) o 4 (nI m + 1)) 1 0 0)
theorem cx_come9 {d : Nat} {a b : Int32} (hB : Bd I) (hR : RI R) : AM (d + 3) 124 112 [.ref 1, .int a, .int b] I J R (fun x _ I2 _ _ => HCo9 (R 1 7) a b I J x I2) := by
  have hO := hR.now.1
  have b4 := Bd.o hB hO bd9_0_4
  have no : ∀ z : Int32, ¬ okC9 a b (R 1 7) I → HCo9 (R 1 7) a b I J (-1) (uI I 1 0 z) := fun z hz => Or.inl ⟨hz, rfl, uI_self (k := 0)⟩
  refine w_X11_come (px_isShare (fun hs _ => ⟨fun _ => ⟨hR.now.2, bif_t hO ⟨fun c6 => ⟨hR.now.2, bif_t hO ?_⟩, fun c6 => w_X11_refuse (no _ (fun z => c6 z.2))⟩⟩, fun c => absurd c (by decide)⟩) (fun hs _ => ⟨fun c => absurd rfl c, fun _ => w_X11_refuse (no _ (fun z => hs z.1))⟩))
  have c6' := c6
  rw [Int32.lt_iff_toInt_lt] at c6'
  have e6 : (6 : Int32).toInt = 6 := rfl
  have tm : ((Int32.toNatClampNeg (I (R 1 7) 4) : Nat) : Int) = (I (R 1 7) 4).toInt := by
    have := tn_of (x := I (R 1 7) 4) rfl b4.1; omega
  have em : I (R 1 7) 4 = nI (Int32.toNatClampNeg (I (R 1 7) 4)) := Int32.toInt_inj.mp (by rw [nI_toInt (by omega)]; omega)
  generalize hm : Int32.toNatClampNeg (I (R 1 7) 4) = m at em tm
  exact px_addM2 hO (m := m) (by omega) em (w_X11_answer (Or.inr ⟨⟨hs, c6⟩, m, by omega, em, rfl, rfl⟩))
theorem mx_come9 {d : Nat} {a b x : Int32} (hR : RI R) (e0 : I (R 1 7) 4 = I 102 0) (h : W9 I R) (H1 : HCo9 (R 1 7) a b I J x I1) : AM (d + 3) 268 112 [.ref 97, .int a, .int b] I1 J1 R (fun x2 _ I2 _ _ => x2 = x ∧ W9 I2 R) := by
  have n7 := now_9 hR
  have n9 := n9_p hR
  have t0 : Int32.toNatClampNeg 0 = 0 := rfl
  have c0 := h.1.1
  obtain ⟨m6, -, mt⟩ := c0.m
  rcases H1 with ⟨n1, x1, eI⟩ | ⟨⟨hs, h6⟩, m, hm, em, x1, eI⟩
  · have b102 : uI (uI I1 97 1 0) 97 0 0 102 0 = I 102 0 := by rw [rd_ne (by decide), rd_ne (by decide), eI]; exact rd_ne (by decide)
    refine w_X12_come (px_mShare (fun hs _ => ⟨fun _ => ⟨vp_of (a := 0) rfl (by decide) (by decide), ?_⟩, fun c => absurd c (by decide)⟩) (fun hs _ => ⟨fun c => absurd rfl c, fun _ => w_X12_refuse ⟨x1.symm, h.no hR eI⟩⟩))
    rw [t0, b102]
    refine ⟨fun c6 => absurd ⟨hs, ?_⟩ n1, fun c6 => w_X12_refuse ⟨x1.symm, h.no hR eI⟩⟩
    rw [e0, Int32.lt_iff_toInt_lt, show (6 : Int32).toInt = 6 from rfl]
    have : ¬ (I 102 0).toInt = 6 := fun z => c6 (Int32.toInt_inj.mp z)
    omega
  · have em2 : I 102 0 = nI m := e0.symm.trans em
    have e102 : uI (uI I1 97 1 0) 97 0 0 102 = I 102 := by
      rw [uI_ne (by decide), uI_ne (by decide), eI, uI_ne (by decide), uI_ne (by first | decide | omega), uI_ne (by first | decide | omega), uI_ne (by first | decide | omega), uI_ne (by first | decide | omega)]
    refine w_X12_come (px_mShare (fun _ _ => ⟨fun _ => ⟨vp_of (a := 0) rfl (by decide) (by decide), ?_⟩, fun c => absurd c (by decide)⟩) (fun hn => absurd hs hn))
    have k34 : (34 : Int32) + nI m = nI (34 + m) := by rw [show (34 : Int32) = nI 34 from rfl]; exact nI_add 34 m
    have k40 : (40 : Int32) + nI m = nI (40 + m) := by rw [show (40 : Int32) = nI 40 from rfl]; exact nI_add 40 m
    have k46 : (46 : Int32) + nI m = nI (46 + m) := by rw [show (46 : Int32) = nI 46 from rfl]; exact nI_add 46 m
    rw [t0, e102, em2, k34, k40, k46, tn_nI (by omega), tn_nI (by omega), tn_nI (by omega)]
    have hv : uI (uI (uI (uI (uI I1 97 1 0) 97 0 0) 102 (34 + m) a) 102 (40 + m) b) 102 (46 + m) 0 102 0 = nI m := (rd_k (by omega)).trans ((rd_k (by omega)).trans ((rd_k (by omega)).trans ((congrFun e102 0).trans em2)))
    rw [hv]
    refine ⟨fun _ => ⟨vp_nI (by omega) (by omega), vp_nI (by omega) (by omega), vp_nI (by omega) (by omega), vp_nI (by omega) (by omega), vp_of (a := 0) rfl (by decide) (by decide), vp_of (a := 0) rfl (by decide) (by decide), x1.symm, ?_⟩, fun z => ?_⟩
    · have fk : ∀ k, ¬ k = 0 → ¬ k = 34 + m → ¬ k = 40 + m → ¬ k = 46 + m → uI (uI (uI (uI (uI (uI I1 97 1 0) 97 0 0) 102 (34 + m) a) 102 (40 + m) b) 102 (46 + m) 0) 102 0 (nI m + 1) 102 k = I 102 k := fun k h1 h2 h3 h4 => (rd_k h1).trans ((rd_k h4).trans ((rd_k h3).trans ((rd_k h2).trans (congrFun e102 k))))
      have f0 : uI (uI (uI (uI (uI (uI I1 97 1 0) 97 0 0) 102 (34 + m) a) 102 (40 + m) b) 102 (46 + m) 0) 102 0 (nI m + 1) 102 0 = nI (m + 1) := rd_eq.trans (nI_k1 m)
      have f34 : uI (uI (uI (uI (uI (uI I1 97 1 0) 97 0 0) 102 (34 + m) a) 102 (40 + m) b) 102 (46 + m) 0) 102 0 (nI m + 1) 102 (34 + m) = a := (rd_k (by omega)).trans ((rd_k (by omega)).trans ((rd_k (by omega)).trans rd_eq))
      have f40 : uI (uI (uI (uI (uI (uI I1 97 1 0) 97 0 0) 102 (34 + m) a) 102 (40 + m) b) 102 (46 + m) 0) 102 0 (nI m + 1) 102 (40 + m) = b := (rd_k (by omega)).trans ((rd_k (by omega)).trans rd_eq)
      have f46 : uI (uI (uI (uI (uI (uI I1 97 1 0) 97 0 0) 102 (34 + m) a) 102 (40 + m) b) 102 (46 + m) 0) 102 0 (nI m + 1) 102 (46 + m) = 0 := (rd_k (by omega)).trans rd_eq
      have g : ∀ c, ¬ c = 97 → ¬ c = 102 → uI (uI (uI (uI (uI (uI I1 97 1 0) 97 0 0) 102 (34 + m) a) 102 (40 + m) b) 102 (46 + m) 0) 102 0 (nI m + 1) c = I1 c := fun c h1 h2 => (uI_ne h2).trans ((uI_ne h2).trans ((uI_ne h2).trans ((uI_ne h2).trans ((uI_ne h1).trans (uI_ne h1)))))
      have g23 : uI (uI (uI (uI (uI (uI I1 97 1 0) 97 0 0) 102 (34 + m) a) 102 (40 + m) b) 102 (46 + m) 0) 102 0 (nI m + 1) 97 23 = I1 97 23 := by rw [rd_ne (by decide), rd_ne (by decide), rd_ne (by decide), rd_ne (by decide), rd_k (by decide), rd_k (by decide)]
      generalize uI (uI (uI (uI (uI (uI I1 97 1 0) 97 0 0) 102 (34 + m) a) 102 (40 + m) b) 102 (46 + m) 0) 102 0 (nI m + 1) = A at fk f0 f34 f40 f46 g g23
      have i : ∀ c, ¬ c = 1 → ¬ c = R 1 7 → ¬ (R 1 7 + 3 ≤ c ∧ c ≤ R 1 7 + 5) → I1 c = I c := fun c a1 a2 a3 => by
        rw [eI, uI_ne a1, uI_ne a2, uI_ne (by first | decide | omega), uI_ne (by first | decide | omega), uI_ne (by first | decide | omega)]
      have mm : mnN (A 102) = m + 1 := mnN_of (by omega) f0
      have mo : mnN (I 102) = m := mnN_of (by omega) em2
      obtain ⟨q1, q2, q3⟩ := h.1
      obtain ⟨b1, b2, b3, b4⟩ := q2
      refine h.nw ⟨⟨⟨m + 1, by omega, f0⟩, fun d a1 a2 => ?_, fun k hk => ?_⟩, ⟨?_, ?_, fun d a1 a2 => ?_, fun k hk => ?_⟩, ?_⟩ ?_ (fun j a1 a2 => fk j (by omega) (by omega) (by omega) (by omega)) (fun c a1 a2 => (g c (by omega) (by omega)).trans (i c (by omega) (by omega) (by omega)))
      · rw [fk (3 + d) (by omega) (by omega) (by omega) (by omega)]; exact q1.2.1 d a1 a2
      · rw [mm] at hk
        by_cases z : k = m
        · subst z
          rw [f34, f40, f46]
          exact ⟨hs, by decide, by decide⟩
        · rw [fk (34 + k) (by omega) (by omega) (by omega) (by omega), fk (40 + k) (by omega) (by omega) (by omega) (by omega), fk (46 + k) (by omega) (by omega) (by omega) (by omega)]
          exact q1.2.2 k (by omega)
      · rw [g _ (by omega) (by omega), fk 1 (by omega) (by omega) (by omega) (by omega), eI, rd_ne (by first | decide | omega), rd_k (by decide), rd_ne (by first | decide | omega), rd_ne (by first | decide | omega), rd_ne (by first | decide | omega)]; exact b1
      · rw [g _ (by omega) (by omega), fk 2 (by omega) (by omega) (by omega) (by omega), eI, rd_ne (by first | decide | omega), rd_k (by decide), rd_ne (by first | decide | omega), rd_ne (by first | decide | omega), rd_ne (by first | decide | omega)]; exact b2
      · rw [g _ (by omega) (by omega), i _ (by omega) (by omega) (by omega), fk (3 + d) (by omega) (by omega) (by omega) (by omega)]; exact b3 d a1 a2
      · rw [mm] at hk
        rw [g (R 1 7 + 3) (by omega) (by omega), g (R 1 7 + 4) (by omega) (by omega), g (R 1 7 + 5) (by omega) (by omega)]
        by_cases z : k = m
        · subst z
          rw [f34, f40, f46, eI]
          refine ⟨?_, ?_, ?_⟩
          · rw [rd_ne (by first | decide | omega), rd_ne (by first | decide | omega), rd_ne (by first | decide | omega), rd_ne (by first | decide | omega), rd_eq]
          · rw [rd_ne (by first | decide | omega), rd_ne (by first | decide | omega), rd_ne (by first | decide | omega), rd_eq]
          · rw [rd_ne (by first | decide | omega), rd_ne (by first | decide | omega), rd_eq]
        · obtain ⟨y1, y2, y3⟩ := b4 k (by omega)
          rw [fk (34 + k) (by omega) (by omega) (by omega) (by omega), fk (40 + k) (by omega) (by omega) (by omega) (by omega), fk (46 + k) (by omega) (by omega) (by omega) (by omega), eI]
          refine ⟨?_, ?_, ?_⟩
          · rw [rd_ne (by first | decide | omega), rd_ne (by first | decide | omega), rd_ne (by first | decide | omega), rd_ne (by first | decide | omega), rd_k z]; exact y1
          · rw [rd_ne (by first | decide | omega), rd_ne (by first | decide | omega), rd_ne (by first | decide | omega), rd_k z, rd_ne (by first | decide | omega)]; exact y2
          · rw [rd_ne (by first | decide | omega), rd_ne (by first | decide | omega), rd_k z, rd_ne (by first | decide | omega), rd_ne (by first | decide | omega)]; exact y3
      · have e52 : ∀ j, 52 ≤ j → A 102 j = I 102 j := fun j hj => fk j (by omega) (by omega) (by omega) (by omega)
        refine ⟨?_, fun h0 => ?_⟩
        · rw [g _ (by omega) (by omega), i _ (by omega) (by omega) (by omega), e52 52 (by omega)]; exact q3.1
        · rw [e52 52 (by omega)] at h0
          obtain ⟨s, y1, y2, y3, y4, y5, y6, y7⟩ := q3.2 h0
          refine ⟨s, y1, y2, y3, y4, y5.cp (fun c a1 a2 => (g c (by omega) (by omega)).trans (i c (by omega) (by omega) (by omega))), (e52 53 (by omega)).trans y6, fun t ht => ?_⟩
          obtain ⟨w1, w2, w3⟩ := y7 t ht
          exact ⟨(e52 _ (by omega)).trans w1, w2.cp (fun k a1 a2 => e52 k (by omega)), (e52 _ (by omega)).trans w3⟩
      · rw [g23, eI, rd_ne (by decide), rd_ne (by first | decide | omega), rd_ne (by first | decide | omega), rd_ne (by first | decide | omega), rd_ne (by first | decide | omega)]
    · rw [em, Int32.lt_iff_toInt_lt, nI_toInt (by omega), show (6 : Int32).toInt = 6 from rfl] at h6
      have q := congrArg Int32.toInt z
      rw [nI_toInt (by omega), show (6 : Int32).toInt = 6 from rfl] at q
      omega
end W9C
end PT15x4
section PT15x5
/-! ===== owe(), rule(), learn(), store(): both sides ===== -/
section W9D
variable {I I1 I2 : Im} {J J1 J2 : Jm} {R R2 : Rm} {v a b x : Int32}
/-- the reference refuses, with no -/
theorem no9 {d : Nat} {z w : Int32} (hR : RI R) (h : W9 I R) (x1 : x = 0) (eI : I1 = uI I 1 0 (I1 1 0)) : AM (d + 1) 177 112 [.ref 97, .int z] (uI (uI I1 97 1 0) 97 0 0) J R (fun x2 _ I2 J2 R2 => (x2 = 0 ∨ x2 = 1) → (((x2 : Int32) = 0 ∨ (x2 : Int32) = 1) ∧ (x2 = x ∧ W9 I2 R))) :=
  w_X12_no ⟨Or.inl rfl, fun _ => ⟨Or.inl rfl, x1.symm, h.no hR eI⟩⟩
end W9D
end PT15x5
