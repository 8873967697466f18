section PT8x0
/-! ===== the mean leaves the bakery that is now ===== -/
noncomputable def HW (e : Nat) (I : Im) (J : Jm) (I2 : Im) (J2 : Jm) : Prop := (∀ c, c ∈ BKL → ¬ c = e → I2 c 4 = I c 4 ∧ I2 c 2 = I c 2) ∧ (∀ c, c ∈ BKL → ¬ c = e → J2 (c + 2) = J (c + 2)) ∧ J2 104 = J 104 ∧ I2 102 = I 102 ∧ I2 97 23 = I 97 23
theorem HW.rf {e : Nat} {I : Im} {J : Jm} : HW e I J I J := ⟨fun _ _ _ => ⟨rfl, rfl⟩, fun _ _ _ => rfl, rfl, rfl, rfl⟩
theorem HW.kp {e : Nat} {I I1 I2 : Im} {J J1 J2 : Jm} (h : HW e I J I1 J1) (k1 : KA I1 I2) (k2 : Knm I1 J1 I2 J2) (k3 : I2 102 = I1 102) : HW e I J I2 J2 := by
  obtain ⟨a1, a2, a3, a4, a5⟩ := h
  refine ⟨fun c hc he => ?_, fun c hc he => (bk_nm k2 c hc).trans (a2 c hc he), k2.2.2.2.2.2.trans a3, k3.trans a4, k1.2.trans a5⟩
  exact ⟨(k1.1 c hc).1.trans (a1 c hc he).1, (k1.1 c hc).2.trans (a1 c hc he).2⟩
theorem HW.u {e z : Nat} {v : Int32} {I I1 : Im} {J J1 : Jm} (h : HW e I J I1 J1) : HW e I J (uI I1 1 z v) J1 := by
  obtain ⟨a1, a2, a3, a4, a5⟩ := h
  refine ⟨fun c hc he => ?_, a2, a3, (uI_ne (by decide)).trans a4, (rd_ne (by decide)).trans a5⟩
  rw [uI_ne (fun q => by subst q; exact absurd hc (by decide))]
  exact a1 c hc he
theorem HW.hn {o e : Nat} {I I2 : Im} {J J2 : Jm} (h : HW e I J I2 J2) (ho : o ∈ BKL) (hne : ¬ o = e) : HN o e (I o 4) (I o 2) (J (o + 2)) I J I2 J2 :=
  ⟨(h.1 o ho hne).1, (h.1 o ho hne).2, h.2.1 o ho hne, fun c hc _ he => h.1 c hc he, fun c hc _ he => h.2.1 c hc he, h.2.2.1, h.2.2.2.1, h.2.2.2.2⟩
theorem k3w {d mi n : Nat} {as : List Value} {I : Im} {J : Jm} {R : Rm} {Q : Qt} (h1 : dtyA.elem mi = false) (h2 : dtynm.elem mi = false) (h3 : dty102.elem mi = false) (hR : RI R) (o1 : okasnm as = true) (o2 : okas102 as = true) (h : AM d mi n as I J R (fun x y I' J' R' => K102 I J I' J' → Knm I J I' J' → KA I I' → Q x y I' J' R')) : AM d mi n as I J R Q :=
  kpA h1 (kpnm h2 hR o1 (kp102 h3 hR o2 h))
set_option maxHeartbeats 1000000 in
theorem cx_mean {d : Nat} {v1 v2 : Int32} {I : Im} {J : Jm} {R : Rm} (hB0 : Bd I) (hR0 : RI R) : AM (d + 7) 146 112 [.ref 1, .int v1, .int v2] I J R (fun x _ I2 J2 _ => HN (R 1 7) (R 1 8) (I (R 1 7) 4) (I (R 1 7) 2) (J (R 1 7 + 2)) I J I2 J2) := by
  have hO := hR0.now.1
  have hS := hR0.spare.1
  have n7 := now_bk hR0
  have n8 := bk_in hS
  have hp := hR0.rp.1
  have hpd := hR0.rp.2.1
  have hne : ¬ R 1 7 = R 1 8 := by omega
  have okn : ∀ x : Int32, okasnm [.ref 51, .ref (R 1 8), .ref (R 1 9), .int x] = true ∧ okas102 [.ref 51, .ref (R 1 8), .ref (R 1 9), .int x] = true := fun x => by
    rcases hp with ⟨_, q⟩ | ⟨_, q⟩ <;> rcases hpd with ⟨q2, _⟩ | ⟨q2, _⟩ <;> rw [q, q2] <;> exact ⟨rfl, rfl⟩
  have okh : okasnm [.ref (R 1 8)] = true ∧ okas102 [.ref (R 1 8)] = true := by
    rcases hp with ⟨_, q⟩ | ⟨_, q⟩ <;> rw [q] <;> exact ⟨rfl, rfl⟩
  refine am_X11_mean (fun P hc => ?_)
  have L : ∀ n : Nat, (∀ (v3 : Int64) (v5 : Int32) (M : Im) (JM : Jm), Bd M → HW (R 1 8) I J M JM → (0 ≤ v2.toInt ∧ v2.toInt ≤ 20 ∧ 0 ≤ v5.toInt ∧ v5.toInt ≤ 20) → 30 - v5.toInt < (n : Int) → P 61 112 [(0, .ref 1), (1, .int v1), (2, .int v2), (3, .long v3), (5, .int v5)] [] M JM R) := by
    intro n
    induction n with
    | zero => exact fun v3 v5 M J _ _ hi hm => absurd hm (by omega)
    | succ n ih =>
      intro v3 v5 M JM hB hW hi hm
      refine sg_X11_mean_61 hc _ _ _ _ _ _ _ ⟨fun c1 => ?_, fun c1 => ?_⟩
      · refine k3w rfl rfl rfl hR0 rfl rfl (sp_X11_tell hB hR0 (fun x3 y8 I4 J5 hB6 p7 kc kn ka o9 => ⟨o9, ?_⟩))
        exact (hW.kp ka kn kc.1).hn n7 hne
      · have d11 : (v5.toInt : Int) < v2.toInt := ci_nle rfl rfl c1
        refine ⟨hR0.spare.2, hR0.now.2, bif_t hS (kx (px_cpB (Q := fun _ _ I2 J2 _ => (∀ c, ¬ (R 1 8 ≤ c ∧ c ≤ R 1 8 + 5) → I2 c = M c) ∧ ∀ c, ¬ c = R 1 8 + 2 → J2 c = JM c) hS hO (by omega) (fun I2 J2 f1 g1 _ _ _ _ _ _ => ⟨f1, g1⟩)) (sp_X0_copyFrom hB hR0 hS hO (fun x12 y17 I13 J14 hB15 p16 fg => ?_)))⟩
        obtain ⟨f1, g1⟩ := fg
        have hW1 : HW (R 1 8) I J I13 J14 := by
          obtain ⟨a1, a2, a3, a4, a5⟩ := hW
          refine ⟨fun c hcc he => ?_, fun c hcc he => ?_, (g1 _ (by omega)).trans a3, (f1 102 (by omega)).trans a4, (congrFun (f1 97 (by omega)) 23).trans a5⟩
          · have h6 := bk_six hcc
            rw [f1 c (by omega)]; exact a1 c hcc he
          · have h6 := bk_six hcc
            rw [g1 _ (by omega)]; exact a2 c hcc he
        refine ⟨hR0.spare.2, hR0.plan.2, ?_⟩
        refine k3w rfl rfl rfl hR0 (okn _).1 (okn _).2 (sp_X4_run hB15 hR0 (show isO 112 51 4 = true from rfl) hS hR0.plan.1 (fun x18 y23 I19 J20 hB21 p22 kc kn ka => ?_))
        refine ⟨hR0.spare.2, bif_t hS ?_⟩
        refine k3w rfl rfl rfl hR0 okh.1 okh.2 (sp_X0_allHoldings hB21 hR0 hS (fun x24 y29 I25 J26 hB27 p28 kc2 kn2 ka2 => ?_))
        have e30 : (v5 + 1 : Int32).toInt = v5.toInt + 1 := ti_add rfl rfl (by omega)
        exact ih _ _ _ _ hB27 ((hW1.kp ka kn kc.1).kp ka2 kn2 kc2.1) (by omega) (by omega)
  have no : ∀ z : Int32, HN (R 1 7) (R 1 8) (I (R 1 7) 4) (I (R 1 7) 2) (J (R 1 7 + 2)) I J (uI I 1 0 z) J := fun z => HW.hn (HW.rf.u) n7 hne
  refine sg_X11_mean_0 hc _ _ _ _ _ ⟨fun c => w_X11_deny ⟨Or.inl rfl, fun _ => ⟨Or.inl rfl, no _⟩⟩, fun _ => ⟨fun c => w_X11_deny ⟨Or.inl rfl, fun _ => ⟨Or.inl rfl, no _⟩⟩, fun _ => ⟨fun c => w_X11_deny ⟨Or.inl rfl, fun _ => ⟨Or.inl rfl, no _⟩⟩, fun c1 => ⟨fun c => w_X11_deny ⟨Or.inl rfl, fun _ => ⟨Or.inl rfl, no _⟩⟩, fun c2 => ⟨fun _ => ⟨hR0.plan.2, bif_t hR0.plan.1 ⟨fun _ => L 40 0 0 I J hB0 HW.rf ⟨?_, ?_, by decide, by decide⟩ (by decide), fun c => w_X11_deny ⟨Or.inl rfl, fun _ => ⟨Or.inl rfl, no _⟩⟩⟩⟩, fun c => w_X11_deny ⟨Or.inl rfl, fun _ => ⟨Or.inl rfl, no _⟩⟩⟩⟩⟩⟩⟩
  · have := ci_nlt rfl (show (1 : Int32).toInt = 1 from rfl) c1; omega
  · have := ci_nlt (show (20 : Int32).toInt = 20 from rfl) rfl c2; omega
theorem RM.mean {I I1 I2 : Im} {J J1 J2 : Jm} {R : Rm} (hR : RI R) (h : RM I J R) (a : HN (R 1 7) (R 1 8) (I (R 1 7) 4) (I (R 1 7) 2) (J (R 1 7 + 2)) I J I1 J1) (k : K8 I1 J1 I2 J2) : RM I2 J2 R := by
  have b2 := k.mn
  have f0 : I1 102 0 = I (R 1 7) 4 := by rw [a.2.2.2.2.2.2.1]; exact h.1.1.symm
  have f3 : I1 102 3 = I (R 1 7) 2 := by rw [a.2.2.2.2.2.2.1]; have := h.1.2.1; rw [Nat.zero_add] at this; exact this.symm
  rw [f0, f3] at b2
  exact RM.now (now_9 hR) (by have := hR.rp.1; omega) rfl h a b2 (h.eqN a.2.2.2.2.2.1)
end PT8x0
section PT8x1
/-! ===== bakery(): men, names, what is known ===== -/
noncomputable def HBM (f : Nat) (T : Nat → Int32) (v : Int32) (I : Im) (J : Jm) (R : Rm) (I2 : Im) (J2 : Jm) (R2 : Rm) : Prop :=
  ((v < 0 ∨ nI f < v) ∧ HN (R 1 7) (R 1 8) (I (R 1 7) 4) (I (R 1 7) 2) (J (R 1 7 + 2)) I J I2 J2 ∧ R2 1 7 = R 1 7) ∨ ∃ n, n ≤ f ∧ v = nI n ∧ ((∃ p, prB T n (n + 1) em0 0 = .error p ∧ HN (R 1 7) (R 1 8) (I (R 1 7) 4) (I (R 1 7) 2) (J (R 1 7 + 2)) I J I2 J2 ∧ R2 1 7 = R 1 7) ∨ ∃ B b, prB T n (n + 1) em0 0 = .ok (B, b) ∧ BOk B ∧ HN (R 1 8) 0 (B.1 0) (B.1 3) (J2 (R 1 8 + 2)) I J I2 J2 ∧ (∀ i, i < mnN B.1 → J2 (R 1 8 + 2) i = B.2.1 i) ∧ R2 1 7 = R 1 8)
noncomputable def MBM (f : Nat) (T : Nat → Int32) (v : Int32) (I : Im) (J : Jm) (I2 : Im) (J2 : Jm) : Prop :=
  ((v < 0 ∨ nI f < v) ∧ MN (I 102 0) (I 102 3) (J 104) I J I2 J2) ∨ ∃ n, n ≤ f ∧ v = nI n ∧ ((∃ p, prB T n (n + 1) em0 0 = .error p ∧ MN (I 102 0) (I 102 3) (J 104) I J I2 J2) ∨ ∃ B b, prB T n (n + 1) em0 0 = .ok (B, b) ∧ BOk B ∧ MN (B.1 0) (B.1 3) (J2 104) I J I2 J2 ∧ (∀ i, i < mnN B.1 → J2 104 i = B.2.1 i))
theorem cx_bakM {d : Nat} {v : Int32} {I : Im} {J : Jm} {R : Rm} (hB : Bd I) (hR : RI R) (h3 : R3 I J) : AM (d + 8) 108 112 [.ref 1, .int v] I J R (fun _ _ I2 J2 R2 => HBM (fl I) (I 4) v I J R I2 J2 R2) := by
  obtain ⟨h1, h2⟩ := fl_bd hB
  have hp := hR.rp.1
  have hpd := hR.rp.2.1
  have n7 := now_bk hR
  have n8 := bk_in hR.spare.1
  have key : ∀ I2 J2, FrW (WC (R 1 8) (R 1 9)) (VB (R 1 8)) I J I2 J2 → (∀ c, c ∈ BKL → ¬ c = R 1 8 → I2 c 4 = I c 4 ∧ I2 c 2 = I c 2) ∧ (∀ c, c ∈ BKL → ¬ c = R 1 8 → J2 (c + 2) = J (c + 2)) ∧ J2 104 = J 104 ∧ I2 102 = I 102 ∧ I2 97 23 = I 97 23 := fun I2 J2 hF => by
    refine ⟨fun c hc he => ?_, fun c hc he => ?_, hF.cj (by intro k z; omega), hF.c (by intro k z; omega), congrFun (hF.c (by intro k z; omega)) 23⟩
    · have h6 := bk_six hc
      rw [hF.c (o := c) (by intro k z; omega)]; exact ⟨rfl, rfl⟩
    · have h6 := bk_six hc
      exact hF.cj (by intro k z; omega)
  have old : ∀ I2 J2, FrW (WC (R 1 8) (R 1 9)) (VB (R 1 8)) I J I2 J2 → HN (R 1 7) (R 1 8) (I (R 1 7) 4) (I (R 1 7) 2) (J (R 1 7 + 2)) I J I2 J2 := fun I2 J2 hF => by
    obtain ⟨a1, a2, a3, a4, a5⟩ := key I2 J2 hF
    have hne : ¬ R 1 7 = R 1 8 := by omega
    exact ⟨(a1 _ n7 hne).1, (a1 _ n7 hne).2, a2 _ n7 hne, fun c hc _ he => a1 c hc he, fun c hc _ he => a2 c hc he, a3, a4, a5⟩
  rcases sp_v (v := v) h2 with q | ⟨n, hn, rfl⟩
  · exact px_cbN h2 h1 q (Or.inl ⟨q, HW.hn (HW.rf.u) n7 (by omega), rfl⟩)
  · exact px_cbY h2 hn h1 h3.2.2 hR (fun p I2 J2 he hF e1 _ _ => Or.inr ⟨n, hn, rfl, Or.inl ⟨p, he, old I2 J2 hF, rfl⟩⟩) (fun B2 b I2 J2 he hO hF e1 _ _ _ hC _ _ _ => by
      obtain ⟨a1, a2, a3, a4, a5⟩ := key I2 J2 hF
      exact Or.inr ⟨n, hn, rfl, Or.inr ⟨B2, b, he, hO, ⟨hC.1, hC.2.2.2.1, rfl, fun c hc hne _ => a1 c hc hne, fun c hc hne _ => a2 c hc hne, a3, a4, a5⟩, fun i hi => (hC.2.2.2.2.2 i hi).1, rfl⟩⟩)
theorem mx_bakM {d f : Nat} {T : Nat → Int32} {v : Int32} {I : Im} {J : Jm} {R : Rm} (h1 : I 97 8 = nI f) (h2 : f ≤ 900) (hT : Byt T) (hI : ∀ i, i < f → I 101 i = T i) : AM (d + 8) 233 112 [.ref 97, .int v] I J R (fun _ _ I2 J2 _ => MBM f T v I J I2 J2) := by
  have kk : ∀ I2 J2, FrQ I J I2 J2 → (∀ j, pK j → 6 ≤ j → I2 102 j = I 102 j) ∧ (∀ i, 6 ≤ i → i < 24 → J2 104 i = J 104 i) ∧ (∀ c, c ∈ BKL → I2 c 4 = I c 4 ∧ I2 c 2 = I c 2) ∧ (∀ c, c ∈ BKL → J2 (c + 2) = J (c + 2)) ∧ (I2 97 23).toInt ≤ (I 97 23).toInt := fun I2 J2 hF => by
    refine ⟨fun j hj h6 => hF.i (by unfold pK at hj; omega), fun i h6 h24 => hF.j (by omega), fun c hc => ?_, fun c hc => ?_, ?_⟩
    · have h6 := bk_six hc
      rw [hF.c (o := c) (by intro k z; omega)]; exact ⟨rfl, rfl⟩
    · have h6 := bk_six hc
      exact hF.cj (by intro k z; omega)
    · rw [hF.i (by intro q; rcases q with q | q; exact absurd q.2 (by decide); omega)]; exact Int.le_refl _
  rcases sp_v (v := v) h2 with q | ⟨n, hn, rfl⟩
  · exact px_mbN h2 h1 q (fun I2 hF e8 _ _ e102 => by
      obtain ⟨a1, a2, a3, a4, a5⟩ := kk I2 J hF
      exact Or.inl ⟨q, by rw [e102], by rw [e102], fun _ _ => rfl, a1, a2, a3, a4, a5⟩)
  · exact px_mbY h2 hn h1 hT hI (fun p I2 J2 he hF e1 _ l1 l2 => by
      obtain ⟨a1, a2, a3, a4, a5⟩ := kk I2 J2 hF
      exact Or.inr ⟨n, hn, rfl, Or.inl ⟨p, he, l1 0 (by decide), l1 3 (by decide), fun i hi => l2 i (by omega), a1, a2, a3, a4, a5⟩⟩) (fun B2 b I2 J2 he hO hF e1 _ _ g1 g2 => by
      obtain ⟨a1, a2, a3, a4, a5⟩ := kk I2 J2 hF
      exact Or.inr ⟨n, hn, rfl, Or.inr ⟨B2, b, he, hO, ⟨g1 0 (by decide), g1 3 (by decide), fun _ _ => rfl, a1, a2, a3, a4, a5⟩, g2⟩⟩)
theorem RM.bak {f : Nat} {T : Nat → Int32} {v : Int32} {I I1 I2 : Im} {J J1 J2 : Jm} {R R2 : Rm} (hf : f ≤ 900) (hR : RI R) (h : RM I J R) (h1 : HBM f T v I J R I1 J1 R2) (h2 : MBM f T v I1 J1 I2 J2) : RM I2 J2 R2 := by
  have hp := hR.rp.1
  have old : HN (R 1 7) (R 1 8) (I (R 1 7) 4) (I (R 1 7) 2) (J (R 1 7 + 2)) I J I1 J1 → MN (I1 102 0) (I1 102 3) (J1 104) I1 J1 I2 J2 → R2 1 7 = R 1 7 → RM I2 J2 R2 := fun a b2 e => by
    have f0 : I1 102 0 = I (R 1 7) 4 := by rw [a.2.2.2.2.2.2.1]; exact h.1.1.symm
    have f3 : I1 102 3 = I (R 1 7) 2 := by rw [a.2.2.2.2.2.2.1]; have := h.1.2.1; rw [Nat.zero_add] at this; exact this.symm
    rw [f0, f3] at b2
    exact RM.now (now_9 hR) (by omega) e h a b2 (h.eqN a.2.2.2.2.2.1)
  have nn : ∀ n m : Nat, n ≤ f → m ≤ f → nI n = nI m → n = m := fun n m a b c => (nK (a := n) (b := m) (by omega) (by omega)).mp c
  have bad : ∀ n : Nat, n ≤ f → ¬ (nI n < 0 ∨ nI f < nI n) := fun n hn z => by
    rcases z with q | q
    · exact absurd q (nI_pos (by omega))
    · have := (nlt_nI (by omega) (by omega)).mp q; omega
  rcases h1 with ⟨q, a, e⟩ | ⟨n, hn, rfl, h1⟩
  · rcases h2 with ⟨q2, b2⟩ | ⟨m, hm, rfl, _⟩
    · exact old a b2 e
    · exact absurd q (bad m hm)
  · rcases h2 with ⟨q2, b2⟩ | ⟨m, hm, em, h2⟩
    · exact absurd q2 (bad n hn)
    · have := nn n m hn hm em
      subst this
      rcases h1 with ⟨p, hp1, a, e⟩ | ⟨B, b, hp1, hO, a, aN, e⟩
      · rcases h2 with ⟨p2, hp2, b2⟩ | ⟨B2, b2, hp2, _⟩
        · exact old a b2 e
        · rw [hp1] at hp2; cases hp2
      · rcases h2 with ⟨p2, hp2, b2⟩ | ⟨B2, b2, hp2, hO2, b3, bN⟩
        · rw [hp1] at hp2; cases hp2
        · rw [hp1] at hp2
          injection hp2 with hp2
          injection hp2 with e1 e2
          subst e1
          refine RM.now (hp.elim (fun q => Or.inr q.2) (fun q => Or.inl q.2)) (by decide) e h a b3 (fun i h6 hi => ?_)
          have hm : i < mnN B.1 := by
            have := tn_of (x := B.1 0) rfl (by omega)
            unfold mnN
            omega
          exact (aN i hm).trans (bN i hm).symm
end PT8x1
section PT8x2
/-! ===== owe(): what it answers ===== -/
theorem RM.men8 {I I1 : Im} {J J1 : Jm} {R : Rm} (h : RM I J R) (k : K8 I J I1 J1) : I1 102 0 = I (R 1 7) 4 := (k.2.2 0 pK0).trans h.1.1.symm
end PT8x2
section PT8x3
/-! ===== the scribe reads days: a step's words ===== -/
/-- a code more -/
noncomputable def adI (M : Im) (p L : Nat) (c : CD) : Im := uI (uI (uI (uI (uI (uI M (p + 1) L c.1) (p + 2) L c.2.1) (p + 3) L c.2.2.1) (p + 4) L c.2.2.2) (p + 5) L (nI L)) p 2 (nI (L + 1))
theorem adI_o {M : Im} {p L c : Nat} {x : CD} (h : ¬ (p ≤ c ∧ c ≤ p + 5)) : adI M p L x c = M c := by
  unfold adI
  rw [uI_ne (by first | decide | omega), uI_ne (by first | decide | omega), uI_ne (by first | decide | omega), uI_ne (by first | decide | omega), uI_ne (by first | decide | omega), uI_ne (by first | decide | omega)]
section DYD
variable {T : Nat → Int32} {e a d : Nat} {N : Nat → Int64} {I : Im} {J : Jm} {R : Rm} {Q : Qt} {p L M : Nat}
theorem Rd.ad {x : CD} (h : Rd T e a I J) (hp : 9 ≤ p) : Rd T e a (adI I p L x) J :=
  h.o (adI_o (by omega)) (adI_o (by omega)) rfl rfl
end DYD
end PT8x3
section PT8x4
/-! ===== the scribe reads days: the whole ===== -/
noncomputable abbrev WY (p : Nat) : Nat → Nat → Prop := fun c k => WR wsB c k ∨ c = 7 ∨ c = 8 ∨ (p ≤ c ∧ c ≤ p + 5)
noncomputable abbrev FrY (p : Nat) (I : Im) (J : Jm) (I2 : Im) (J2 : Jm) : Prop := FrW (WY p) VR I J I2 J2
theorem FrW.y {p : Nat} {I I2 : Im} {J J2 : Jm} (h : FrR I J I2 J2) : FrY p I J I2 J2 := h.up (fun _ _ q => Or.inl q) (fun _ _ q => q)
theorem FrY.ad {p L : Nat} {c : CD} {I I2 : Im} {J J2 : Jm} (h : FrY p I J I2 J2) : FrY p I J (adI I2 p L c) J2 :=
  ⟨fun o k q => (congrFun (adI_o (fun z => q (Or.inr (Or.inr (Or.inr z))))) k).trans (h.1 o k q), h.2⟩
section ADI
variable {M : Im} {p L k : Nat} {c : CD}
end ADI
section DYW
variable {T : Nat → Int32} {e a d : Nat} {N : Nat → Int64} {I : Im} {J : Jm} {R : Rm} {Q : Qt} {p M : Nat}
end DYW
end PT8x4
section PT8x5
/-! ===== the reference reads days: a step's words ===== -/
noncomputable abbrev WK (w : Nat) : Nat → Nat → Prop := fun c k => WM msB c k ∨ (c = 102 ∧ w < k ∧ k < w + 8)
noncomputable abbrev FrK (w : Nat) (I : Im) (J : Jm) (I2 : Im) (J2 : Jm) : Prop := FrW (WK w) VM I J I2 J2
theorem FrW.k8 {w : Nat} {I I2 : Im} {J J2 : Jm} (h : FrM I J I2 J2) : FrK w I J I2 J2 := h.up (fun _ _ q => Or.inl q) (fun _ _ q => q)
section RDB
variable {T : Nat → Int32} {e a d m w : Nat} {N : Nat → Int64} {I : Im} {J : Jm} {R : Rm} {Q : Qt}
end RDB
end PT8x5
section PT8x6
/-! ===== the reference reads days: readStep ===== -/
noncomputable abbrev WE : Nat → Nat → Prop := fun c k => (c = 97 ∧ (k ∈ msB ∨ k = 27)) ∨ (c = 102 ∧ 1350 ≤ k)
noncomputable abbrev FrE (I : Im) (J : Jm) (I2 : Im) (J2 : Jm) : Prop := FrW WE VM I J I2 J2
theorem FrW.ke {w : Nat} {I I2 : Im} {J J2 : Jm} (hw : 1350 ≤ w) (h : FrK w I J I2 J2) : FrE I J I2 J2 := h.up (fun _ _ q => q.elim (fun z => Or.inl ⟨z.1, Or.inl z.2⟩) (fun z => Or.inr ⟨z.1, by omega⟩)) (fun _ _ q => q)
section RDF
variable {T : Nat → Int32} {e m : Nat} {N : Nat → Int64} {R : Rm}
end RDF
end PT8x6
