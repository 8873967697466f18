section PT15x6
section W9E
variable {I I1 I2 : Im} {J J1 J2 : Jm} {R R1 R2 : Rm} {v w x : Int32}
/-! days() -/
theorem RcO.sh {c : CD} {f f2 : Nat → Int32} {w w2 : Nat} (h : RcO c f w) (e : ∀ k, k < 9 → f2 (w2 + k) = f (w + k)) : RcO c f2 w2 := by
  obtain ⟨h1, h2, h3, h4, h5⟩ := h
  refine ⟨fun q => ?_, fun q => ?_, fun q => ?_, fun q => ?_, fun q => ?_⟩
  · rw [e 1 (by omega), e 2 (by omega), e 3 (by omega)]; exact h1 q
  · rw [e 1 (by omega), e 2 (by omega)]; exact h2 q
  · rw [e 1 (by omega)]; exact h3 q
  · rw [e 5 (by omega), e 1 (by omega)]; exact h4 q
  · rw [e 7 (by omega), e 6 (by omega)]; exact h5 q
noncomputable def dyF9 (f : Nat) (T : Nat → Int32) (N : Nat → Int64) (m : Nat) (v : Int32) : Prop := (v < 0 ∨ nI f < v ∨ 300 < v) ∨ ∃ n q, n ≤ f ∧ n ≤ 300 ∧ v = nI n ∧ dyB T n N m (n + 1) ds0 0 = .error q
noncomputable def HDa9 (f : Nat) (T : Nat → Int32) (N : Nat → Int64) (m : Nat) (v : Int32) (I : Im) (J : Jm) (R : Rm) (I1 : Im) (J1 : Jm) (R1 : Rm) : Prop :=
  (FrW (WD (R 1 10)) VR I J I1 J1 ∧ R1 1 7 = R 1 7) ∧ ((dyF9 f T N m v ∧ R1 1 9 = R 1 9) ∨ ∃ n s b, n ≤ f ∧ n ≤ 300 ∧ v = nI n ∧ dyB T n N m (n + 1) ds0 0 = .ok (s, b) ∧ SDs s (R 1 10) I1 ∧ I1 (R 1 10) 0 = 1 ∧ R1 1 9 = R 1 10)
theorem cx_day9 {d m : Nat} {N : Nat → Int64} (hB : Bd I) (hR : RI R) (h3 : R3 I J) (hm : MnA N m (R 1 7) I J) : AM (d + 9) 109 112 [.ref 1, .int v] I J R (fun _ _ I2 J2 R2 => HDa9 (fl I) (I 4) N m v I J R I2 J2 R2) := by
  obtain ⟨h1, h2⟩ := fl_bd hB
  rcases dy_v (v := v) h2 with q | ⟨n, hn, h300, rfl⟩
  · exact px_cdN h2 h1 q ⟨⟨FrW.rf.u (Or.inl ⟨rfl, rfl⟩), rfl⟩, Or.inl ⟨Or.inl q, rfl⟩⟩
  · exact px_cdY h2 hn h300 h1 h3.2.2 hR hm (fun q I2 J2 he hF _ _ _ => ⟨⟨hF, rfl⟩, Or.inl ⟨Or.inr ⟨n, q, hn, h300, rfl, he⟩, rfl⟩⟩) (fun s b I2 J2 he _ hF _ _ _ _ hs h0 => ⟨⟨hF, by rw [uR_k (by decide), uR_k (by decide)]⟩, Or.inr ⟨n, s, b, hn, h300, rfl, he, hs, h0, by rw [uR_k (by decide), uR_s]⟩⟩)
theorem mx_day9 {d f m : Nat} {T : Nat → Int32} {N : Nat → Int64} (hR : RI R) (h : W9 I R) (h1 : I1 97 8 = nI f) (h2 : f ≤ 900) (hT : Byt T) (hI : ∀ i, i < f → I1 101 i = T i) (hm : MnR N m I1 J1) (H1 : HDa9 f T N m v I J R I1 J1 R1) : AM (d + 12) 237 112 [.ref 97, .int v] I1 J1 R1 (fun _ _ I2 _ R2 => R2 = R1 → W9 I2 R1) := by
  have n7 := now_9 hR
  have n9 := hR.rp.2.1
  obtain ⟨⟨hF1, e7⟩, H1⟩ := H1
  have c1 : ∀ c, ¬ c = 1 → 9 ≤ c → ¬ (R 1 10 ≤ c ∧ c ≤ R 1 10 + 5) → I1 c = I c := fun c a a2 a3 => hF1.c (fun k q => by rcases q with q | q | q | q | q <;> omega)
  have c102 : I1 102 = I 102 := c1 102 (by decide) (by omega) (by omega)
  have c23 : I1 97 23 = I 97 23 := congrFun (c1 97 (by decide) (by omega) (by omega)) 23
  have bad : ∀ n : Nat, n ≤ f → n ≤ 300 → ¬ (nI n < 0 ∨ nI f < nI n ∨ 300 < nI n) := fun n hn h3 z => by
    rcases z with q | q | q
    · exact absurd q (nI_pos (by omega))
    · have := (nlt_nI (by omega) (by omega)).mp q; omega
    · have := (nlt_nI (a := 300) (by omega) (by omega)).mp q; omega
  have fail : R1 1 9 = R 1 9 → ∀ I2 : Im, (∀ c, c ≤ 96 → I2 c = I1 c) → (∀ k, k < 1296 → I2 102 k = I1 102 k) → I2 97 23 = I1 97 23 → W9 I2 R1 := fun e9 I2 r1 ek r3 => by
    clear H1
    exact h.old hR e7 e9 (fun c hc => (r1 c (by omega)).trans (c1 c (by omega) (by omega) (by omega))) (fun j hj => (ek j hj).trans (congrFun c102 j)) (r3.trans c23)
  rcases dy_v (v := v) h2 with q | ⟨n, hn, h300, rfl⟩
  · refine px_mdN h2 h1 q (fun I2 hF _ => ?_)
    rcases H1 with ⟨-, e9⟩ | ⟨n, s, b, hn, h3, rfl, -⟩
    · exact fail e9 I2 (fun c hc => hF.c (fun k z => by have := z.1; omega)) (fun k _ => hF.i (fun z => absurd z.1 (by decide))) (hF.i (fun z => absurd z.2 (by decide)))
    · exact absurd q (bad n hn h3)
  · refine px_mdY h2 hn h300 h1 hT hI hm (fun q I2 J2 he hF _ _ l1 _ => ?_) (fun s b I2 J2 he hO hS hF _ _ _ hM c52 c53 hcp _ => ?_)
    · rcases H1 with ⟨-, e9⟩ | ⟨n2, s, b, hn2, h3, en, hp2, -⟩
      · exact fail e9 I2 (fun c hc => hF.c (fun k z => by rcases z with z | z <;> omega)) (fun k hk => l1 k (by omega)) (hF.i (fun z => by rcases z with ⟨-, z | z⟩ | z; exact absurd z (by decide); omega; omega))
      · have := (nK (a := n) (b := n2) (by omega) (by omega)).mp en
        subst this
        rw [he] at hp2; cases hp2
    · rcases H1 with ⟨z, e9⟩ | ⟨n2, s2, b2, hn2, h3, en, hp2, hs, h0, e9⟩
      · exfalso
        rcases z with z | ⟨n2, p, hn2, h3, en, hp2⟩
        · exact bad n hn h300 z
        · have := (nK (a := n) (b := n2) (by omega) (by omega)).mp en
          subst this
          rw [he] at hp2; cases hp2
      · have := (nK (a := n) (b := n2) (by omega) (by omega)).mp en
        subst this
        rw [he] at hp2
        injection hp2 with hp2
        injection hp2 with eB eb
        subst eB
        obtain ⟨-, hW, hd0⟩ := dyB_wf (n + 1) ds0 s 0 b (by omega) (by omega) DOk.z Wf9.z he
        have r1 : ∀ c, c ≤ 96 → I2 c = I1 c := fun c hc => hF.c (fun k z => by rcases z with z | z <;> omega)
        have rk : ∀ k, (k < 52 ∨ (324 ≤ k ∧ k < 1350)) → I2 102 k = I 102 k := fun k hk => (hF.i (fun z => by rcases z with z | z <;> omega)).trans (congrFun c102 k)
        have h30 := hO.1
        refine h.nw (R2 := R1) ?_ ((hF.i (fun z => by rcases z with ⟨-, z | z⟩ | z; exact absurd z (by decide); omega; omega)).trans c23) (fun j a a2 => rk j (by omega)) (fun c a a2 => (r1 c (by omega)).trans (c1 c (by omega) (by omega) (by omega)))
        rw [e7, e9]
        obtain ⟨q1, q2, -⟩ := h.1
        refine ⟨q1.cg (fun i hi => rk i (by omega)), ?_, ?_, fun _ => ⟨s, hO, hW, hd0, hS, ?_, c53, fun t ht => ?_⟩⟩
        · exact (q2.cp (I2 := I2) (congrFun ((r1 _ (by omega)).trans (c1 _ (by omega) (by omega) (by omega))) 1) (congrFun ((r1 _ (by omega)).trans (c1 _ (by omega) (by omega) (by omega))) 3) (fun c hc => (r1 c (by omega)).trans (c1 c (by omega) (by omega) (by omega)))).cg q1.m.1 (fun i hi => rk i (by omega))
        · rw [r1 _ (by omega), h0, c52]
        · have hs2 : SDc s (R 1 10) I1 := ⟨hs.2.1, hs.2.2.2.2⟩
          exact hs2.cp (fun c a a2 => r1 c (by omega))
        · obtain ⟨k1, k2, k3⟩ := hM.2 t ht
          have no : ¬ opn s t := fun ⟨k, z, _⟩ => by omega
          refine ⟨?_, k2.sh (fun k hk => ?_), ?_⟩
          · rw [hcp (9 * t) (by omega)]; exact k1
          · have q := hcp (9 * t + k) (by omega)
            rw [show 54 + 9 * t + k = 54 + (9 * t + k) by omega, q, show 1350 + (9 * t + k) = 1350 + 9 * t + k by omega]
          · have q := hcp (9 * t + 8) (by omega)
            rw [show 54 + 9 * t + 8 = 54 + (9 * t + 8) by omega, q, show 1350 + (9 * t + 8) = 1350 + 9 * t + 8 by omega]
            exact k3 no
end W9E
end PT15x6
section PT15x7
/-! ===== mark(), back() for the relation of stores ===== -/
section W9M
variable {I I1 I2 : Im} {J J1 J2 : Jm} {R : Rm} {C : Nat → Int32} {a b : Nat}
noncomputable def CpB9 (a b : Nat) (I I1 : Im) : Prop := I1 a 1 = I b 1 ∧ I1 a 3 = I b 3 ∧ (∀ k, k < 31 → I1 (a + 1) k = I (b + 1) k) ∧ ∀ k, k < 6 → I1 (a + 3) k = I (b + 3) k ∧ I1 (a + 4) k = I (b + 4) k ∧ I1 (a + 5) k = I (b + 5) k
noncomputable def CpD9 (a b : Nat) (I I1 : Im) : Prop := I1 a 0 = I b 0 ∧ I1 a 2 = I b 2 ∧ ∀ k, k < 60 → I1 (a + 1) k = I (b + 1) k ∧ I1 (a + 2) k = I (b + 2) k ∧ I1 (a + 3) k = I (b + 3) k ∧ I1 (a + 4) k = I (b + 4) k ∧ I1 (a + 5) k = I (b + 5) k
theorem BA99.cy (hm : mnN C ≤ 6) (h : BA99 b C I) (k : CpB9 a b I I1) : BA99 a C I1 := by
  obtain ⟨h1, h2, h3, h4⟩ := h
  obtain ⟨k1, k2, k3, k4⟩ := k
  refine ⟨k1.trans h1, k2.trans h2, fun d x y => (k3 d (by omega)).trans (h3 d x y), fun j hj => ?_⟩
  obtain ⟨q1, q2, q3⟩ := k4 j (by omega)
  obtain ⟨p1, p2, p3⟩ := h4 j hj
  exact ⟨q1.trans p1, q2.trans p2, q3.trans p3⟩
theorem DH9.cy (h : DH9 b C I) (k : CpD9 a b I I1) : DH9 a C I1 := by
  obtain ⟨k1, k2, k3⟩ := k
  refine ⟨k1.trans h.1, fun h0 => ?_⟩
  obtain ⟨s, g1, g2, g3, g4, ⟨e2, e5⟩, g6, g7⟩ := h.2 h0
  have hL : dL s ≤ 60 := by have := g1.1; have := g1.2.2.1; omega
  refine ⟨s, g1, g2, g3, g4, ⟨k2.trans e2, fun j hj => ?_⟩, g6, g7⟩
  obtain ⟨q1, q2, q3, q4, q5⟩ := k3 j (by omega)
  obtain ⟨p1, p2, p3, p4, p5⟩ := e5 j hj
  exact ⟨q1.trans p1, q2.trans p2, q3.trans p3, q4.trans p4, q5.trans p5⟩
noncomputable def HMa9 (R : Rm) (I I1 : Im) : Prop := (¬ I 1 13 < 3 ∧ I1 = uI I 1 0 (I1 1 0)) ∨ ∃ m : Nat, m < 3 ∧ I 1 13 = nI m ∧ (∀ c, ¬ c = 1 → ¬ (61 + 12 * m ≤ c ∧ c ≤ 72 + 12 * m) → I1 c = I c) ∧ CpB9 (61 + 12 * m) (R 1 7) I I1 ∧ CpD9 (67 + 12 * m) (R 1 9) I I1
theorem cx_mark9 {d : Nat} (hB : Bd I) (hR : RI R) : AM (d + 3) 147 112 [.ref 1] I J R (fun _ _ I2 _ _ => HMa9 R I I2) := by
  have hO := hR.now.1
  have n7 := now_9 hR
  have n9 := n9_p hR
  obtain ⟨b0, b3⟩ := bd13 hB
  obtain ⟨m, em, tm, tn⟩ := nI_o8 (a := 0) b0
  refine w_X11_mark ⟨fun c3 => ?_, fun c3 => w_X11_refuse (Or.inl ⟨c3, uI_self (k := 0)⟩)⟩
  have m3 : m < 3 := by
    rw [Int32.lt_iff_toInt_lt, show (3 : Int32).toInt = 3 from rfl] at c3; omega
  have hk := hR.kb m (by omega)
  have hkd := hR.kd m (by omega)
  have ek := hR.kb_e m3
  have ed := hR.kd_e m3
  rw [tn]
  refine ⟨vp_of (a := (I 1 13).toInt) rfl b0 (by omega), hk.1, hR.now.2, bif_t hk.2 (px_cpB hk.2 hO (by omega) (fun I1 J1 f1 g1 _ _ e1 e3 est en => ?_))⟩
  have i13 : I1 1 13 = I 1 13 := by rw [f1 1 (by omega)]
  rw [i13, tn]
  refine ⟨vp_of (a := (I 1 13).toInt) rfl b0 (by omega), hkd.1, hR.plan.2, bif_t hkd.2 (px_cpD hkd.2 hR.plan.1 (by omega) ?_ (fun I2 f2 q0 _ q2 qk => w_X11_answer (Or.inr ⟨m, m3, em, fun c z1 z2 => ?_, ⟨?_, ?_, fun k hk => ?_, fun k hk => ?_⟩, ⟨?_, ?_, fun k hk => ?_⟩⟩)))⟩
  · rw [f1 (R 1 9) (by omega)]; exact plan_b hB hR.plan.1
  · rw [uI_ne z1, uI_ne z1, f2 c (by omega), f1 c (by omega)]
  · rw [rd_ne (by first | decide | omega), rd_ne (by first | decide | omega), f2 _ (by omega), ← ek]; exact e1
  · rw [rd_ne (by first | decide | omega), rd_ne (by first | decide | omega), f2 _ (by omega), ← ek]; exact e3
  · rw [rd_ne (by first | decide | omega), rd_ne (by first | decide | omega), f2 _ (by omega), ← ek]; exact est k hk
  · rw [rd_ne (by first | decide | omega), rd_ne (by first | decide | omega), rd_ne (by first | decide | omega), rd_ne (by first | decide | omega), rd_ne (by first | decide | omega), rd_ne (by first | decide | omega), f2 _ (by omega), f2 _ (by omega), f2 _ (by omega), ← ek]; exact (en k hk).2
  · rw [rd_ne (by first | decide | omega), rd_ne (by first | decide | omega), ← ed, q0, f1 _ (by omega)]
  · rw [rd_ne (by first | decide | omega), rd_ne (by first | decide | omega), ← ed, q2, f1 _ (by omega)]
  · obtain ⟨w1, w2, w3, w4, w5⟩ := qk k hk
    rw [rd_ne (by first | decide | omega), rd_ne (by first | decide | omega), rd_ne (by first | decide | omega), rd_ne (by first | decide | omega), rd_ne (by first | decide | omega), rd_ne (by first | decide | omega), rd_ne (by first | decide | omega), rd_ne (by first | decide | omega), rd_ne (by first | decide | omega), rd_ne (by first | decide | omega), ← ed, w1, w2, w3, w4, w5, f1 _ (by omega), f1 _ (by omega), f1 _ (by omega), f1 _ (by omega), f1 _ (by omega)]
    exact ⟨rfl, rfl, rfl, rfl, rfl⟩
noncomputable def MMa9 (I I2 : Im) : Prop := (I 97 23 = 3 ∧ (∀ c, ¬ c = 97 → I2 c = I c) ∧ I2 97 23 = I 97 23) ∨ ∃ m : Nat, m < 3 ∧ I 97 23 = nI m ∧ I2 97 23 = nI (m + 1) ∧ (∀ k, k < 324 → I2 102 (324 * (m + 1) + k) = I 102 k) ∧ (∀ k, (k < 324 * (m + 1) ∨ 324 * (m + 1) + 324 ≤ k) → I2 102 k = I 102 k) ∧ ∀ c, c ≤ 96 → I2 c = I c
theorem mx_mark9 {d : Nat} (hB : Bd I) : AM (d + 2) 317 112 [.ref 97] I J R (fun _ _ I2 _ _ => MMa9 I I2) := by
  obtain ⟨b0, b3⟩ := bd23 hB
  obtain ⟨m, em, tm, tn⟩ := nI_o8 (a := 0) b0
  have f1 : ∀ c, ¬ c = 97 → uI (uI I 97 1 0) 97 0 0 c = I c := fun c h => (uI_ne h).trans (uI_ne h)
  have g1 : uI (uI I 97 1 0) 97 0 0 97 23 = I 97 23 := (rd_k (by decide)).trans (rd_k (by decide))
  refine w_X12_mark ?_
  rw [g1]
  refine ⟨fun c3 => ?_, fun c3 => w_X12_refuse (Or.inl ⟨c3, fun c hc => (uI_ne hc).trans (f1 c hc), (rd_k (by decide)).trans g1⟩)⟩
  have m3 : m < 3 := by
    rcases Nat.lt_or_ge m 3 with h | h
    · exact h
    · exact absurd (em.trans (by rw [show m = 3 by omega]; rfl)) c3
  rw [em, nI_k1, rd_eq]
  have k1 : (324 : Int32) * 0 = nI (324 * 0) := rfl
  have k2 : (324 : Int32) * nI (m + 1) = nI (324 * (m + 1)) := by rw [show (324 : Int32) = nI 324 from rfl]; exact nI_mul (by omega) (by omega) (by omega)
  have k3 : (6 : Int32) * 0 = nI (6 * 0) := rfl
  have k4 : (6 : Int32) * nI (m + 1) = nI (6 * (m + 1)) := by rw [show (6 : Int32) = nI 6 from rfl]; exact nI_mul (by omega) (by omega) (by omega)
  refine px_copy (f := 0) (t := m + 1) k1 k2 k3 k4 (by omega) (by omega) (by omega) (fun I2 J2 h1 h2 h3 h4 h5 h6 => ?_)
  have e23 : I2 97 23 = nI (m + 1) := by rw [h1 97 (by decide), rd_eq]
  have e102 : uI (uI (uI I 97 1 0) 97 0 0) 97 23 (nI (m + 1)) 102 = I 102 := (uI_ne (by decide)).trans (f1 102 (by decide))
  rw [e102] at h2 h3
  exact Or.inr ⟨m, m3, em, e23, fun k hk => (h3 k hk).trans (by rw [Nat.mul_zero, Nat.zero_add]), h2, fun c hc => by rw [h1 c (by omega), uI_ne (by first | decide | omega)]; exact f1 c (by omega)⟩
theorem W9.mark (hB : Bd I) (hR : RI R) (hL : (I 1 13).toInt = (I 97 23).toInt) (h : W9 I R) (h1 : HMa9 R I I1) (h2 : MMa9 I1 I2) : W9 I2 R := by
  have b := bd13 hB
  have n7 := now_9 hR
  have n9 := n9_p hR
  rcases h1 with ⟨n1, eI⟩ | ⟨m, m3, em, kc, cb, cd⟩
  · have c : ∀ k, ¬ k = 1 → I1 k = I k := fun k hk => by rw [eI]; exact uI_ne hk
    have c23 : I1 97 23 = I 97 23 := congrFun (c 97 (by decide)) 23
    rcases h2 with ⟨n2, r1, r2⟩ | ⟨m, m3, em, _⟩
    · exact h.old hR rfl rfl (fun k hk => (r1 k (by omega)).trans (c k (by omega))) (fun j _ => congrFun ((r1 102 (by decide)).trans (c 102 (by decide))) j) (r2.trans c23)
    · rw [c23] at em
      rw [em, nI_toInt (by omega)] at hL
      exact absurd (show I 1 13 < 3 by rw [Int32.lt_iff_toInt_lt, show (3 : Int32).toInt = 3 from rfl]; omega) n1
  · have c23 : I1 97 23 = I 97 23 := congrFun (kc 97 (by decide) (by omega)) 23
    have c102 : I1 102 = I 102 := kc 102 (by decide) (by omega)
    rcases h2 with ⟨n2, -, -⟩ | ⟨m2, m32, em2, e23, d1, d2, r1⟩
    · rw [c23] at n2
      rw [n2, em, nI_toInt (by omega), show (3 : Int32).toInt = 3 from rfl] at hL
      omega
    · rw [c23] at em2
      have em' : m2 = m := by
        rw [em, em2, nI_toInt (by omega), nI_toInt (by omega)] at hL
        omega
      subst em'
      rw [c102] at d1 d2
      obtain ⟨q1, q2, q3⟩ := h.1
      refine ⟨?_, fun j hj hm => ?_⟩
      · exact (h.1.cg (fun i hi => d2 i (by omega))).cp (fun c x y => (r1 c (by omega)).trans (kc c (by omega) (by omega))) (fun c x y => (r1 c (by omega)).trans (kc c (by omega) (by omega)))
      · rw [e23, nI_toInt (by omega)] at hm
        by_cases z : j = m2
        · subst z
          have w : KW9 (I 102) (61 + 12 * j) (67 + 12 * j) I1 := ⟨q1, q2.cy q1.m.1 cb, q3.cy cd⟩
          exact (w.cg (C2 := blk9 (324 * (j + 1)) I2) (fun i hi => d1 i hi)).cp (fun c x y => r1 c (by omega)) (fun c x y => r1 c (by omega))
        · have hm3 : (j : Int) < (I 97 23).toInt := by rw [← hL, em, nI_toInt (by omega)]; omega
          exact ((h.2 j hj hm3).cg (C2 := blk9 (324 * (j + 1)) I2) (fun i hi => d2 _ (by omega))).cp (fun c x y => (r1 c (by omega)).trans (kc c (by omega) (by omega))) (fun c x y => (r1 c (by omega)).trans (kc c (by omega) (by omega)))
end W9M
end PT15x7
