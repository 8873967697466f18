section PT8x0
/-! ===== bakery(): men, names, what is known ===== -/
noncomputable def HBM (f : Nat) (T : Nat → Int32) (v : Int32) (I : Im) (J : Jm) (R : Rm) (I2 : Im) (J2 : Jm) (R2 : Rm) : Prop :=
  ((v < 0 ∨ nI f < v) ∧ HN (R 1 7) (R 1 8) (I (R 1 7) 4) (I (R 1 7) 2) (J (R 1 7 + 2)) I J I2 J2 ∧ R2 1 7 = R 1 7) ∨ ∃ n, n ≤ f ∧ v = nI n ∧ ((∃ p, prB T n (n + 1) em0 0 = .error p ∧ HN (R 1 7) (R 1 8) (I (R 1 7) 4) (I (R 1 7) 2) (J (R 1 7 + 2)) I J I2 J2 ∧ R2 1 7 = R 1 7) ∨ ∃ B b, prB T n (n + 1) em0 0 = .ok (B, b) ∧ BOk B ∧ HN (R 1 8) 0 (B.1 0) (B.1 3) (J2 (R 1 8 + 2)) I J I2 J2 ∧ (∀ i, i < mnN B.1 → J2 (R 1 8 + 2) i = B.2.1 i) ∧ R2 1 7 = R 1 8)
noncomputable def MBM (f : Nat) (T : Nat → Int32) (v : Int32) (I : Im) (J : Jm) (I2 : Im) (J2 : Jm) : Prop :=
  ((v < 0 ∨ nI f < v) ∧ MN (I 102 0) (I 102 3) (J 104) I J I2 J2) ∨ ∃ n, n ≤ f ∧ v = nI n ∧ ((∃ p, prB T n (n + 1) em0 0 = .error p ∧ MN (I 102 0) (I 102 3) (J 104) I J I2 J2) ∨ ∃ B b, prB T n (n + 1) em0 0 = .ok (B, b) ∧ BOk B ∧ MN (B.1 0) (B.1 3) (J2 104) I J I2 J2 ∧ (∀ i, i < mnN B.1 → J2 104 i = B.2.1 i))
theorem cx_bakM {d : Nat} {v : Int32} {I : Im} {J : Jm} {R : Rm} (hB : Bd I) (hR : RI R) (h3 : R3 I J) : AM (d + 8) 108 112 [.ref 1, .int v] I J R (fun _ _ I2 J2 R2 => HBM (fl I) (I 4) v I J R I2 J2 R2) := by
  obtain ⟨h1, h2⟩ := fl_bd hB
  have hp := hR.rp.1
  have hpd := hR.rp.2.1
  have n7 := now_bk hR
  have n8 := bk_in hR.spare.1
  have key : ∀ I2 J2, FrW (WC (R 1 8) (R 1 9)) (VB (R 1 8)) I J I2 J2 → (∀ c, c ∈ BKL → ¬ c = R 1 8 → I2 c 4 = I c 4 ∧ I2 c 2 = I c 2) ∧ (∀ c, c ∈ BKL → ¬ c = R 1 8 → J2 (c + 2) = J (c + 2)) ∧ J2 104 = J 104 ∧ I2 102 = I 102 ∧ I2 97 23 = I 97 23 := fun I2 J2 hF => by
    refine ⟨fun c hc he => ?_, fun c hc he => ?_, hF.cj (by intro k z; omega), hF.c (by intro k z; omega), congrFun (hF.c (by intro k z; omega)) 23⟩
    · have h6 := bk_six hc
      rw [hF.c (o := c) (by intro k z; omega)]; exact ⟨rfl, rfl⟩
    · have h6 := bk_six hc
      exact hF.cj (by intro k z; omega)
  have old : ∀ I2 J2, FrW (WC (R 1 8) (R 1 9)) (VB (R 1 8)) I J I2 J2 → HN (R 1 7) (R 1 8) (I (R 1 7) 4) (I (R 1 7) 2) (J (R 1 7 + 2)) I J I2 J2 := fun I2 J2 hF => by
    obtain ⟨a1, a2, a3, a4, a5⟩ := key I2 J2 hF
    have hne : ¬ R 1 7 = R 1 8 := by omega
    exact ⟨(a1 _ n7 hne).1, (a1 _ n7 hne).2, a2 _ n7 hne, fun c hc _ he => a1 c hc he, fun c hc _ he => a2 c hc he, a3, a4, a5⟩
  rcases sp_v (v := v) h2 with q | ⟨n, hn, rfl⟩
  · exact px_cbN h2 h1 q (Or.inl ⟨q, HW.hn (HW.rf.u) n7 (by omega), rfl⟩)
  · exact px_cbY h2 hn h1 h3.2.2 hR (fun p I2 J2 he hF e1 _ _ => Or.inr ⟨n, hn, rfl, Or.inl ⟨p, he, old I2 J2 hF, rfl⟩⟩) (fun B2 b I2 J2 he hO hF e1 _ _ _ hC _ _ _ => by
      obtain ⟨a1, a2, a3, a4, a5⟩ := key I2 J2 hF
      exact Or.inr ⟨n, hn, rfl, Or.inr ⟨B2, b, he, hO, ⟨hC.1, hC.2.2.2.1, rfl, fun c hc hne _ => a1 c hc hne, fun c hc hne _ => a2 c hc hne, a3, a4, a5⟩, fun i hi => (hC.2.2.2.2.2 i hi).1, rfl⟩⟩)
theorem mx_bakM {d f : Nat} {T : Nat → Int32} {v : Int32} {I : Im} {J : Jm} {R : Rm} (h1 : I 97 8 = nI f) (h2 : f ≤ 900) (hT : Byt T) (hI : ∀ i, i < f → I 101 i = T i) : AM (d + 8) 233 112 [.ref 97, .int v] I J R (fun _ _ I2 J2 _ => MBM f T v I J I2 J2) := by
  have kk : ∀ I2 J2, FrQ I J I2 J2 → (∀ j, pK j → 6 ≤ j → I2 102 j = I 102 j) ∧ (∀ i, 6 ≤ i → i < 24 → J2 104 i = J 104 i) ∧ (∀ c, c ∈ BKL → I2 c 4 = I c 4 ∧ I2 c 2 = I c 2) ∧ (∀ c, c ∈ BKL → J2 (c + 2) = J (c + 2)) ∧ (I2 97 23).toInt ≤ (I 97 23).toInt := fun I2 J2 hF => by
    refine ⟨fun j hj h6 => hF.i (by unfold pK at hj; omega), fun i h6 h24 => hF.j (by omega), fun c hc => ?_, fun c hc => ?_, ?_⟩
    · have h6 := bk_six hc
      rw [hF.c (o := c) (by intro k z; omega)]; exact ⟨rfl, rfl⟩
    · have h6 := bk_six hc
      exact hF.cj (by intro k z; omega)
    · rw [hF.i (by intro q; rcases q with q | q; exact absurd q.2 (by decide); omega)]; exact Int.le_refl _
  rcases sp_v (v := v) h2 with q | ⟨n, hn, rfl⟩
  · exact px_mbN h2 h1 q (fun I2 hF e8 _ _ e102 => by
      obtain ⟨a1, a2, a3, a4, a5⟩ := kk I2 J hF
      exact Or.inl ⟨q, by rw [e102], by rw [e102], fun _ _ => rfl, a1, a2, a3, a4, a5⟩)
  · exact px_mbY h2 hn h1 hT hI (fun p I2 J2 he hF e1 _ l1 l2 => by
      obtain ⟨a1, a2, a3, a4, a5⟩ := kk I2 J2 hF
      exact Or.inr ⟨n, hn, rfl, Or.inl ⟨p, he, l1 0 (by decide), l1 3 (by decide), fun i hi => l2 i (by omega), a1, a2, a3, a4, a5⟩⟩) (fun B2 b I2 J2 he hO hF e1 _ _ g1 g2 => by
      obtain ⟨a1, a2, a3, a4, a5⟩ := kk I2 J2 hF
      exact Or.inr ⟨n, hn, rfl, Or.inr ⟨B2, b, he, hO, ⟨g1 0 (by decide), g1 3 (by decide), fun _ _ => rfl, a1, a2, a3, a4, a5⟩, g2⟩⟩)
theorem RM.bak {f : Nat} {T : Nat → Int32} {v : Int32} {I I1 I2 : Im} {J J1 J2 : Jm} {R R2 : Rm} (hf : f ≤ 900) (hR : RI R) (h : RM I J R) (h1 : HBM f T v I J R I1 J1 R2) (h2 : MBM f T v I1 J1 I2 J2) : RM I2 J2 R2 := by
  have hp := hR.rp.1
  have old : HN (R 1 7) (R 1 8) (I (R 1 7) 4) (I (R 1 7) 2) (J (R 1 7 + 2)) I J I1 J1 → MN (I1 102 0) (I1 102 3) (J1 104) I1 J1 I2 J2 → R2 1 7 = R 1 7 → RM I2 J2 R2 := fun a b2 e => by
    have f0 : I1 102 0 = I (R 1 7) 4 := by rw [a.2.2.2.2.2.2.1]; exact h.1.1.symm
    have f3 : I1 102 3 = I (R 1 7) 2 := by rw [a.2.2.2.2.2.2.1]; have := h.1.2.1; rw [Nat.zero_add] at this; exact this.symm
    rw [f0, f3] at b2
    exact RM.now (now_9 hR) (by omega) e h a b2 (h.eqN a.2.2.2.2.2.1)
  have nn : ∀ n m : Nat, n ≤ f → m ≤ f → nI n = nI m → n = m := fun n m a b c => (nK (a := n) (b := m) (by omega) (by omega)).mp c
  have bad : ∀ n : Nat, n ≤ f → ¬ (nI n < 0 ∨ nI f < nI n) := fun n hn z => by
    rcases z with q | q
    · exact absurd q (nI_pos (by omega))
    · have := (nlt_nI (by omega) (by omega)).mp q; omega
  rcases h1 with ⟨q, a, e⟩ | ⟨n, hn, rfl, h1⟩
  · rcases h2 with ⟨q2, b2⟩ | ⟨m, hm, rfl, _⟩
    · exact old a b2 e
    · exact absurd q (bad m hm)
  · rcases h2 with ⟨q2, b2⟩ | ⟨m, hm, em, h2⟩
    · exact absurd q2 (bad n hn)
    · have := nn n m hn hm em
      subst this
      rcases h1 with ⟨p, hp1, a, e⟩ | ⟨B, b, hp1, hO, a, aN, e⟩
      · rcases h2 with ⟨p2, hp2, b2⟩ | ⟨B2, b2, hp2, _⟩
        · exact old a b2 e
        · rw [hp1] at hp2; cases hp2
      · rcases h2 with ⟨p2, hp2, b2⟩ | ⟨B2, b2, hp2, hO2, b3, bN⟩
        · rw [hp1] at hp2; cases hp2
        · rw [hp1] at hp2
          injection hp2 with hp2
          injection hp2 with e1 e2
          subst e1
          refine RM.now (hp.elim (fun q => Or.inr q.2) (fun q => Or.inl q.2)) (by decide) e h a b3 (fun i h6 hi => ?_)
          have hm : i < mnN B.1 := by
            have := tn_of (x := B.1 0) rfl (by omega)
            unfold mnN
            omega
          exact (aN i hm).trans (bN i hm).symm
end PT8x0
section PT8x1
/-! ===== the scribe reads days: a step's words ===== -/
/-- a code more -/
noncomputable def adI (M : Im) (p L : Nat) (c : CD) : Im := uI (uI (uI (uI (uI (uI M (p + 1) L c.1) (p + 2) L c.2.1) (p + 3) L c.2.2.1) (p + 4) L c.2.2.2) (p + 5) L (nI L)) p 2 (nI (L + 1))
theorem adI_o {M : Im} {p L c : Nat} {x : CD} (h : ¬ (p ≤ c ∧ c ≤ p + 5)) : adI M p L x c = M c := by
  unfold adI
  rw [uI_ne (by first | decide | omega), uI_ne (by first | decide | omega), uI_ne (by first | decide | omega), uI_ne (by first | decide | omega), uI_ne (by first | decide | omega), uI_ne (by first | decide | omega)]
section DYD
variable {T : Nat → Int32} {e a d : Nat} {N : Nat → Int64} {I : Im} {J : Jm} {R : Rm} {Q : Qt} {p L M : Nat}
theorem Rd.ad {x : CD} (h : Rd T e a I J) (hp : 9 ≤ p) : Rd T e a (adI I p L x) J :=
  h.o (adI_o (by omega)) (adI_o (by omega)) rfl rfl
end DYD
end PT8x1
section PT8x2
/-! ===== the scribe reads days: the whole ===== -/
noncomputable abbrev WY (p : Nat) : Nat → Nat → Prop := fun c k => WR wsB c k ∨ c = 7 ∨ c = 8 ∨ (p ≤ c ∧ c ≤ p + 5)
noncomputable abbrev FrY (p : Nat) (I : Im) (J : Jm) (I2 : Im) (J2 : Jm) : Prop := FrW (WY p) VR I J I2 J2
theorem FrW.y {p : Nat} {I I2 : Im} {J J2 : Jm} (h : FrR I J I2 J2) : FrY p I J I2 J2 := h.up (fun _ _ q => Or.inl q) (fun _ _ q => q)
theorem FrY.ad {p L : Nat} {c : CD} {I I2 : Im} {J J2 : Jm} (h : FrY p I J I2 J2) : FrY p I J (adI I2 p L c) J2 :=
  ⟨fun o k q => (congrFun (adI_o (fun z => q (Or.inr (Or.inr (Or.inr z))))) k).trans (h.1 o k q), h.2⟩
section ADI
variable {M : Im} {p L k : Nat} {c : CD}
end ADI
section DYW
variable {T : Nat → Int32} {e a d : Nat} {N : Nat → Int64} {I : Im} {J : Jm} {R : Rm} {Q : Qt} {p M : Nat}
end DYW
end PT8x2
section PT8x3
/-! ===== the reference reads days: a step's words ===== -/
noncomputable abbrev WK (w : Nat) : Nat → Nat → Prop := fun c k => WM msB c k ∨ (c = 102 ∧ w < k ∧ k < w + 8)
noncomputable abbrev FrK (w : Nat) (I : Im) (J : Jm) (I2 : Im) (J2 : Jm) : Prop := FrW (WK w) VM I J I2 J2
theorem FrW.k8 {w : Nat} {I I2 : Im} {J J2 : Jm} (h : FrM I J I2 J2) : FrK w I J I2 J2 := h.up (fun _ _ q => Or.inl q) (fun _ _ q => q)
section RDB
variable {T : Nat → Int32} {e a d m w : Nat} {N : Nat → Int64} {I : Im} {J : Jm} {R : Rm} {Q : Qt}
end RDB
end PT8x3
section PT8x4
/-! ===== the reference reads days: readStep ===== -/
noncomputable abbrev WE : Nat → Nat → Prop := fun c k => (c = 97 ∧ (k ∈ msB ∨ k = 27)) ∨ (c = 102 ∧ 1350 ≤ k)
noncomputable abbrev FrE (I : Im) (J : Jm) (I2 : Im) (J2 : Jm) : Prop := FrW WE VM I J I2 J2
theorem FrW.ke {w : Nat} {I I2 : Im} {J J2 : Jm} (hw : 1350 ≤ w) (h : FrK w I J I2 J2) : FrE I J I2 J2 := h.up (fun _ _ q => q.elim (fun z => Or.inl ⟨z.1, Or.inl z.2⟩) (fun z => Or.inr ⟨z.1, by omega⟩)) (fun _ _ q => q)
section RDF
variable {T : Nat → Int32} {e m : Nat} {N : Nat → Int64} {R : Rm}
end RDF
end PT8x4
