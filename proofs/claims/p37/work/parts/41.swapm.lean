section PT7x7
theorem mx_back {d : Nat} {I : Im} {J : Jm} {R : Rm} (hB : Bd I) : AM (d + 2) 318 112 [.ref 97] I J R (fun x _ I2 J2 _ => MBk I J x I2 J2) := by
  obtain ⟨b0, b3⟩ := bd23 hB
  have f1 : ∀ c, ¬ c = 97 → uI (uI I 97 1 0) 97 0 0 c = I c := fun c h => (uI_ne h).trans (uI_ne h)
  have g1 : uI (uI I 97 1 0) 97 0 0 97 23 = I 97 23 := (rd_k (by decide)).trans (rd_k (by decide))
  refine w_X12_back ?_
  rw [g1]
  refine ⟨fun c3 => ?_, fun c3 => w_X12_refuse (Or.inl ⟨c3, rfl, MN.same (fun c hc => (uI_ne hc).trans (f1 c hc)) ((rd_k (by decide)).trans g1)⟩)⟩
  obtain ⟨m, m3, em⟩ : ∃ m : Nat, m < 3 ∧ I 97 23 = nI (m + 1) := by
    have n0 : ¬ (I 97 23).toInt = 0 := fun q => c3 (Int32.toInt_inj.mp q)
    refine ⟨(I 97 23).toInt.toNat - 1, by omega, Int32.toInt_inj.mp ?_⟩
    rw [nI_toInt (by omega)]; omega
  rw [em]
  have k1 : (324 : Int32) * 0 = nI (324 * 0) := rfl
  have k2 : (324 : Int32) * nI (m + 1) = nI (324 * (m + 1)) := by rw [show (324 : Int32) = nI 324 from rfl]; exact nI_mul (by omega) (by omega) (by omega)
  have k3 : (6 : Int32) * 0 = nI (6 * 0) := rfl
  have k4 : (6 : Int32) * nI (m + 1) = nI (6 * (m + 1)) := by rw [show (6 : Int32) = nI 6 from rfl]; exact nI_mul (by omega) (by omega) (by omega)
  refine px_copy (f := m + 1) (t := 0) k2 k1 k4 k3 (by omega) (by omega) (by omega) (fun I2 J2 h1 h2 h3 h4 h5 h6 => ?_)
  have e23 : I2 97 23 = nI (m + 1) := by rw [h1 97 (by decide), g1, em]
  have e102 : uI (uI I 97 1 0) 97 0 0 102 = I 102 := f1 102 (by decide)
  rw [e102] at h2 h3
  rw [rd_eq, e23, nI_pred]
  refine Or.inr ⟨m, m3, em, rfl, ?_, ?_, fun i hi => ?_, fun j hj h6j => ?_, fun i hi _ => ?_, fun c hc => ?_, fun c hc => ?_, ?_⟩
  · rw [rd_ne (by decide)]; exact (show I2 102 0 = I2 102 (324 * 0 + 0) from rfl).trans (h3 0 (by omega))
  · rw [rd_ne (by decide)]; exact (show I2 102 3 = I2 102 (324 * 0 + 3) from rfl).trans (h3 3 (by omega))
  · exact (show J2 104 i = J2 104 (6 * 0 + i) by rw [Nat.mul_zero, Nat.zero_add]).trans (h6 i hi)
  · unfold pK at hj
    rw [rd_ne (by decide)]; exact h2 j (by omega)
  · exact h5 i (by omega)
  · have q6 := bk_six hc
    rw [uI_ne (by first | decide | omega), h1 c (by omega), f1 c (by omega)]; exact ⟨rfl, rfl⟩
  · have q6 := bk_six hc
    exact h4 _ (by omega)
  · rw [rd_eq, em, nI_toInt (by omega), nI_toInt (by omega)]; omega
theorem RM.back {x x2 : Int32} {I I1 I2 : Im} {J J1 J2 : Jm} {R : Rm} (hB : Bd I) (hR : RI R) (hL : (I 1 13).toInt = (I 97 23).toInt) (h : RM I J R) (h1 : HBk (R 1 7) I J x I1 J1) (h2 : MBk I1 J1 x2 I2 J2) : RM I2 J2 R := by
  have n9 := now_9 hR
  rcases h1 with ⟨n1, x1, a⟩ | ⟨m, m3, em, x1, N, a, eN⟩
  · rcases h2 with ⟨n2, y1, b2⟩ | ⟨m, m3, em, _⟩
    · have f0 : I1 102 0 = I (R 1 7) 4 := by rw [a.2.2.2.2.2.2.1]; exact h.1.1.symm
      have f3 : I1 102 3 = I (R 1 7) 2 := by rw [a.2.2.2.2.2.2.1]; have := h.1.2.1; rw [Nat.zero_add] at this; exact this.symm
      rw [f0, f3] at b2
      exact RM.now n9 (by decide) rfl h a b2 (h.eqN a.2.2.2.2.2.1)
    · rw [a.2.2.2.2.2.2.2] at em
      rw [em, nI_toInt (by omega)] at hL
      exact absurd (show (1 : Int32) ≤ I 1 13 by rw [Int32.le_iff_toInt_le, show (1 : Int32).toInt = 1 from rfl]; omega) n1
  · rcases h2 with ⟨n2, y1, b2⟩ | ⟨m2, m32, em2, y1, b2⟩
    · rw [a.2.2.2.2.2.2.2] at n2
      rw [n2, em, nI_toInt (by omega), show (0 : Int32).toInt = 0 from rfl] at hL
      omega
    · have em' : m2 = m := by
        rw [a.2.2.2.2.2.2.2] at em2
        rw [em, em2, nI_toInt (by omega), nI_toInt (by omega)] at hL
        omega
      subst em'
      obtain ⟨d1, d2, d3⟩ := h.2 m2 m3 (by rw [← hL, em, nI_toInt (by omega)]; omega)
      rw [a.2.2.2.2.2.2.1, ← d1, ← d2] at b2
      refine RM.now n9 (by decide) rfl h a b2 (fun i h6 hi => ?_)
      rw [eN i h6, a.2.2.2.2.2.1]
      rw [d1] at hi
      exact d3 i h6 hi
end PT7x7
section PT7x8
/-! ===== the mean leaves the bakery that is now ===== -/
noncomputable def HW (e : Nat) (I : Im) (J : Jm) (I2 : Im) (J2 : Jm) : Prop := (∀ c, c ∈ BKL → ¬ c = e → I2 c 4 = I c 4 ∧ I2 c 2 = I c 2) ∧ (∀ c, c ∈ BKL → ¬ c = e → J2 (c + 2) = J (c + 2)) ∧ J2 104 = J 104 ∧ I2 102 = I 102 ∧ I2 97 23 = I 97 23
theorem HW.rf {e : Nat} {I : Im} {J : Jm} : HW e I J I J := ⟨fun _ _ _ => ⟨rfl, rfl⟩, fun _ _ _ => rfl, rfl, rfl, rfl⟩
theorem HW.kp {e : Nat} {I I1 I2 : Im} {J J1 J2 : Jm} (h : HW e I J I1 J1) (k1 : KA I1 I2) (k2 : Knm I1 J1 I2 J2) (k3 : I2 102 = I1 102) : HW e I J I2 J2 := by
  obtain ⟨a1, a2, a3, a4, a5⟩ := h
  refine ⟨fun c hc he => ?_, fun c hc he => (bk_nm k2 c hc).trans (a2 c hc he), k2.2.2.2.2.2.trans a3, k3.trans a4, k1.2.trans a5⟩
  exact ⟨(k1.1 c hc).1.trans (a1 c hc he).1, (k1.1 c hc).2.trans (a1 c hc he).2⟩
theorem HW.u {e z : Nat} {v : Int32} {I I1 : Im} {J J1 : Jm} (h : HW e I J I1 J1) : HW e I J (uI I1 1 z v) J1 := by
  obtain ⟨a1, a2, a3, a4, a5⟩ := h
  refine ⟨fun c hc he => ?_, a2, a3, (uI_ne (by decide)).trans a4, (rd_ne (by decide)).trans a5⟩
  rw [uI_ne (fun q => by subst q; exact absurd hc (by decide))]
  exact a1 c hc he
theorem HW.hn {o e : Nat} {I I2 : Im} {J J2 : Jm} (h : HW e I J I2 J2) (ho : o ∈ BKL) (hne : ¬ o = e) : HN o e (I o 4) (I o 2) (J (o + 2)) I J I2 J2 :=
  ⟨(h.1 o ho hne).1, (h.1 o ho hne).2, h.2.1 o ho hne, fun c hc _ he => h.1 c hc he, fun c hc _ he => h.2.1 c hc he, h.2.2.1, h.2.2.2.1, h.2.2.2.2⟩
theorem k3w {d mi n : Nat} {as : List Value} {I : Im} {J : Jm} {R : Rm} {Q : Qt} (h1 : dtyA.elem mi = false) (h2 : dtynm.elem mi = false) (h3 : dty102.elem mi = false) (hR : RI R) (o1 : okasnm as = true) (o2 : okas102 as = true) (h : AM d mi n as I J R (fun x y I' J' R' => K102 I J I' J' → Knm I J I' J' → KA I I' → Q x y I' J' R')) : AM d mi n as I J R Q :=
  kpA h1 (kpnm h2 hR o1 (kp102 h3 hR o2 h))
set_option maxHeartbeats 1000000 in
theorem cx_mean {d : Nat} {v1 v2 : Int32} {I : Im} {J : Jm} {R : Rm} (hB0 : Bd I) (hR0 : RI R) : AM (d + 7) 146 112 [.ref 1, .int v1, .int v2] I J R (fun x _ I2 J2 _ => HN (R 1 7) (R 1 8) (I (R 1 7) 4) (I (R 1 7) 2) (J (R 1 7 + 2)) I J I2 J2) := by
  have hO := hR0.now.1
  have hS := hR0.spare.1
  have n7 := now_bk hR0
  have n8 := bk_in hS
  have hp := hR0.rp.1
  have hpd := hR0.rp.2.1
  have hne : ¬ R 1 7 = R 1 8 := by omega
  have okn : ∀ x : Int32, okasnm [.ref 51, .ref (R 1 8), .ref (R 1 9), .int x] = true ∧ okas102 [.ref 51, .ref (R 1 8), .ref (R 1 9), .int x] = true := fun x => by
    rcases hp with ⟨_, q⟩ | ⟨_, q⟩ <;> rcases hpd with ⟨q2, _⟩ | ⟨q2, _⟩ <;> rw [q, q2] <;> exact ⟨rfl, rfl⟩
  have okh : okasnm [.ref (R 1 8)] = true ∧ okas102 [.ref (R 1 8)] = true := by
    rcases hp with ⟨_, q⟩ | ⟨_, q⟩ <;> rw [q] <;> exact ⟨rfl, rfl⟩
  refine am_X11_mean (fun P hc => ?_)
  have L : ∀ n : Nat, (∀ (v3 : Int64) (v5 : Int32) (M : Im) (JM : Jm), Bd M → HW (R 1 8) I J M JM → (0 ≤ v2.toInt ∧ v2.toInt ≤ 20 ∧ 0 ≤ v5.toInt ∧ v5.toInt ≤ 20) → 30 - v5.toInt < (n : Int) → P 61 112 [(0, .ref 1), (1, .int v1), (2, .int v2), (3, .long v3), (5, .int v5)] [] M JM R) := by
    intro n
    induction n with
    | zero => exact fun v3 v5 M J _ _ hi hm => absurd hm (by omega)
    | succ n ih =>
      intro v3 v5 M JM hB hW hi hm
      refine sg_X11_mean_61 hc _ _ _ _ _ _ _ ⟨fun c1 => ?_, fun c1 => ?_⟩
      · refine k3w rfl rfl rfl hR0 rfl rfl (sp_X11_tell hB hR0 (fun x3 y8 I4 J5 hB6 p7 kc kn ka o9 => ⟨o9, ?_⟩))
        exact (hW.kp ka kn kc.1).hn n7 hne
      · have d11 : (v5.toInt : Int) < v2.toInt := ci_nle rfl rfl c1
        refine ⟨hR0.spare.2, hR0.now.2, bif_t hS (kx (px_cpB (Q := fun _ _ I2 J2 _ => (∀ c, ¬ (R 1 8 ≤ c ∧ c ≤ R 1 8 + 5) → I2 c = M c) ∧ ∀ c, ¬ c = R 1 8 + 2 → J2 c = JM c) hS hO (by omega) (fun I2 J2 f1 g1 _ _ _ _ _ _ => ⟨f1, g1⟩)) (sp_X0_copyFrom hB hR0 hS hO (fun x12 y17 I13 J14 hB15 p16 fg => ?_)))⟩
        obtain ⟨f1, g1⟩ := fg
        have hW1 : HW (R 1 8) I J I13 J14 := by
          obtain ⟨a1, a2, a3, a4, a5⟩ := hW
          refine ⟨fun c hcc he => ?_, fun c hcc he => ?_, (g1 _ (by omega)).trans a3, (f1 102 (by omega)).trans a4, (congrFun (f1 97 (by omega)) 23).trans a5⟩
          · have h6 := bk_six hcc
            rw [f1 c (by omega)]; exact a1 c hcc he
          · have h6 := bk_six hcc
            rw [g1 _ (by omega)]; exact a2 c hcc he
        refine ⟨hR0.spare.2, hR0.plan.2, ?_⟩
        refine k3w rfl rfl rfl hR0 (okn _).1 (okn _).2 (sp_X4_run hB15 hR0 io9_112_51_4 hS hR0.plan.1 (fun x18 y23 I19 J20 hB21 p22 kc kn ka => ?_))
        refine ⟨hR0.spare.2, bif_t hS ?_⟩
        refine k3w rfl rfl rfl hR0 okh.1 okh.2 (sp_X0_allHoldings hB21 hR0 hS (fun x24 y29 I25 J26 hB27 p28 kc2 kn2 ka2 => ?_))
        have e30 : (v5 + 1 : Int32).toInt = v5.toInt + 1 := ti_add rfl rfl (by omega)
        exact ih _ _ _ _ hB27 ((hW1.kp ka kn kc.1).kp ka2 kn2 kc2.1) (by omega) (by omega)
  have no : ∀ z : Int32, HN (R 1 7) (R 1 8) (I (R 1 7) 4) (I (R 1 7) 2) (J (R 1 7 + 2)) I J (uI I 1 0 z) J := fun z => HW.hn (HW.rf.u) n7 hne
  refine sg_X11_mean_0 hc _ _ _ _ _ ⟨fun c => w_X11_deny ⟨Or.inl rfl, fun _ => ⟨Or.inl rfl, no _⟩⟩, fun _ => ⟨fun c => w_X11_deny ⟨Or.inl rfl, fun _ => ⟨Or.inl rfl, no _⟩⟩, fun _ => ⟨fun c => w_X11_deny ⟨Or.inl rfl, fun _ => ⟨Or.inl rfl, no _⟩⟩, fun c1 => ⟨fun c => w_X11_deny ⟨Or.inl rfl, fun _ => ⟨Or.inl rfl, no _⟩⟩, fun c2 => ⟨fun _ => ⟨hR0.plan.2, bif_t hR0.plan.1 ⟨fun _ => L 40 0 0 I J hB0 HW.rf ⟨?_, ?_, by decide, by decide⟩ (by decide), fun c => w_X11_deny ⟨Or.inl rfl, fun _ => ⟨Or.inl rfl, no _⟩⟩⟩⟩, fun c => w_X11_deny ⟨Or.inl rfl, fun _ => ⟨Or.inl rfl, no _⟩⟩⟩⟩⟩⟩⟩
  · have := ci_nlt rfl (show (1 : Int32).toInt = 1 from rfl) c1; omega
  · have := ci_nlt (show (20 : Int32).toInt = 20 from rfl) rfl c2; omega
end PT7x8
