section PT8x0
/-! ===== bakery(): men, names, what is known ===== -/
noncomputable def HBM (f : Nat) (T : Nat → Int32) (v : Int32) (I : Im) (J : Jm) (R : Rm) (I2 : Im) (J2 : Jm) (R2 : Rm) : Prop :=
  ((v < 0 ∨ nI f < v) ∧ HN (R 1 7) (R 1 8) (I (R 1 7) 4) (I (R 1 7) 2) (J (R 1 7 + 2)) I J I2 J2 ∧ R2 1 7 = R 1 7) ∨ ∃ n, n ≤ f ∧ v = nI n ∧ ((∃ p, prB T n (n + 1) em0 0 = .error p ∧ HN (R 1 7) (R 1 8) (I (R 1 7) 4) (I (R 1 7) 2) (J (R 1 7 + 2)) I J I2 J2 ∧ R2 1 7 = R 1 7) ∨ ∃ B b, prB T n (n + 1) em0 0 = .ok (B, b) ∧ BOk B ∧ HN (R 1 8) 0 (B.1 0) (B.1 3) (J2 (R 1 8 + 2)) I J I2 J2 ∧ (∀ i, i < mnN B.1 → J2 (R 1 8 + 2) i = B.2.1 i) ∧ R2 1 7 = R 1 8)
noncomputable def MBM (f : Nat) (T : Nat → Int32) (v : Int32) (I : Im) (J : Jm) (I2 : Im) (J2 : Jm) : Prop :=
  ((v < 0 ∨ nI f < v) ∧ MN (I 102 0) (I 102 3) (J 104) I J I2 J2) ∨ ∃ n, n ≤ f ∧ v = nI n ∧ ((∃ p, prB T n (n + 1) em0 0 = .error p ∧ MN (I 102 0) (I 102 3) (J 104) I J I2 J2) ∨ ∃ B b, prB T n (n + 1) em0 0 = .ok (B, b) ∧ BOk B ∧ MN (B.1 0) (B.1 3) (J2 104) I J I2 J2 ∧ (∀ i, i < mnN B.1 → J2 104 i = B.2.1 i))
theorem cx_bakM {d : Nat} {v : Int32} {I : Im} {J : Jm} {R : Rm} (hB : Bd I) (hR : RI R) (h3 : R3 I J) : AM (d + 8) 108 112 [.ref 1, .int v] I J R (fun _ _ I2 J2 R2 => HBM (fl I) (I 4) v I J R I2 J2 R2) := by
  obtain ⟨h1, h2⟩ := fl_bd hB
  have hp := hR.rp.1
  have hpd := hR.rp.2.1
  have n7 := now_bk hR
  have n8 := bk_in hR.spare.1
  have key : ∀ I2 J2, FrW (WC (R 1 8) (R 1 9)) (VB (R 1 8)) I J I2 J2 → (∀ c, c ∈ BKL → ¬ c = R 1 8 → I2 c 4 = I c 4 ∧ I2 c 2 = I c 2) ∧ (∀ c, c ∈ BKL → ¬ c = R 1 8 → J2 (c + 2) = J (c + 2)) ∧ J2 104 = J 104 ∧ I2 102 = I 102 ∧ I2 97 23 = I 97 23 := fun I2 J2 hF => by
    refine ⟨fun c hc he => ?_, fun c hc he => ?_, hF.cj (by intro k z; omega), hF.c (by intro k z; omega), congrFun (hF.c (by intro k z; omega)) 23⟩
    · have h6 := bk_six hc
      rw [hF.c (o := c) (by intro k z; omega)]; exact ⟨rfl, rfl⟩
    · have h6 := bk_six hc
      exact hF.cj (by intro k z; omega)
  have old : ∀ I2 J2, FrW (WC (R 1 8) (R 1 9)) (VB (R 1 8)) I J I2 J2 → HN (R 1 7) (R 1 8) (I (R 1 7) 4) (I (R 1 7) 2) (J (R 1 7 + 2)) I J I2 J2 := fun I2 J2 hF => by
    obtain ⟨a1, a2, a3, a4, a5⟩ := key I2 J2 hF
    have hne : ¬ R 1 7 = R 1 8 := by omega
    exact ⟨(a1 _ n7 hne).1, (a1 _ n7 hne).2, a2 _ n7 hne, fun c hc _ he => a1 c hc he, fun c hc _ he => a2 c hc he, a3, a4, a5⟩
  rcases sp_v (v := v) h2 with q | ⟨n, hn, rfl⟩
  · exact px_cbN h2 h1 q (Or.inl ⟨q, HW.hn (HW.rf.u) n7 (by omega), rfl⟩)
  · exact px_cbY h2 hn h1 h3.2.2 hR (fun p I2 J2 he hF e1 _ _ => Or.inr ⟨n, hn, rfl, Or.inl ⟨p, he, old I2 J2 hF, rfl⟩⟩) (fun B2 b I2 J2 he hO hF e1 _ _ _ hC _ _ _ => by
      obtain ⟨a1, a2, a3, a4, a5⟩ := key I2 J2 hF
      exact Or.inr ⟨n, hn, rfl, Or.inr ⟨B2, b, he, hO, ⟨hC.1, hC.2.2.2.1, rfl, fun c hc hne _ => a1 c hc hne, fun c hc hne _ => a2 c hc hne, a3, a4, a5⟩, fun i hi => (hC.2.2.2.2.2 i hi).1, rfl⟩⟩)
theorem mx_bakM {d f : Nat} {T : Nat → Int32} {v : Int32} {I : Im} {J : Jm} {R : Rm} (h1 : I 97 8 = nI f) (h2 : f ≤ 900) (hT : Byt T) (hI : ∀ i, i < f → I 101 i = T i) : AM (d + 8) 233 112 [.ref 97, .int v] I J R (fun _ _ I2 J2 _ => MBM f T v I J I2 J2) := by
  have kk : ∀ I2 J2, FrQ I J I2 J2 → (∀ j, pK j → 6 ≤ j → I2 102 j = I 102 j) ∧ (∀ i, 6 ≤ i → i < 24 → J2 104 i = J 104 i) ∧ (∀ c, c ∈ BKL → I2 c 4 = I c 4 ∧ I2 c 2 = I c 2) ∧ (∀ c, c ∈ BKL → J2 (c + 2) = J (c + 2)) ∧ (I2 97 23).toInt ≤ (I 97 23).toInt := fun I2 J2 hF => by
    refine ⟨fun j hj h6 => hF.i (by unfold pK at hj; omega), fun i h6 h24 => hF.j (by omega), fun c hc => ?_, fun c hc => ?_, ?_⟩
    · have h6 := bk_six hc
      rw [hF.c (o := c) (by intro k z; omega)]; exact ⟨rfl, rfl⟩
    · have h6 := bk_six hc
      exact hF.cj (by intro k z; omega)
    · rw [hF.i (by intro q; rcases q with q | q; exact absurd q.2 (by decide); omega)]; exact Int.le_refl _
  rcases sp_v (v := v) h2 with q | ⟨n, hn, rfl⟩
  · exact px_mbN h2 h1 q (fun I2 hF e8 _ _ e102 => by
      obtain ⟨a1, a2, a3, a4, a5⟩ := kk I2 J hF
      exact Or.inl ⟨q, by rw [e102], by rw [e102], fun _ _ => rfl, a1, a2, a3, a4, a5⟩)
  · exact px_mbY h2 hn h1 hT hI (fun p I2 J2 he hF e1 _ l1 l2 => by
      obtain ⟨a1, a2, a3, a4, a5⟩ := kk I2 J2 hF
      exact Or.inr ⟨n, hn, rfl, Or.inl ⟨p, he, l1 0 (by decide), l1 3 (by decide), fun i hi => l2 i (by omega), a1, a2, a3, a4, a5⟩⟩) (fun B2 b I2 J2 he hO hF e1 _ _ g1 g2 => by
      obtain ⟨a1, a2, a3, a4, a5⟩ := kk I2 J2 hF
      exact Or.inr ⟨n, hn, rfl, Or.inr ⟨B2, b, he, hO, ⟨g1 0 (by decide), g1 3 (by decide), fun _ _ => rfl, a1, a2, a3, a4, a5⟩, g2⟩⟩)
theorem RM.bak {f : Nat} {T : Nat → Int32} {v : Int32} {I I1 I2 : Im} {J J1 J2 : Jm} {R R2 : Rm} (hf : f ≤ 900) (hR : RI R) (h : RM I J R) (h1 : HBM f T v I J R I1 J1 R2) (h2 : MBM f T v I1 J1 I2 J2) : RM I2 J2 R2 := by
  have hp := hR.rp.1
  have old : HN (R 1 7) (R 1 8) (I (R 1 7) 4) (I (R 1 7) 2) (J (R 1 7 + 2)) I J I1 J1 → MN (I1 102 0) (I1 102 3) (J1 104) I1 J1 I2 J2 → R2 1 7 = R 1 7 → RM I2 J2 R2 := fun a b2 e => by
    have f0 : I1 102 0 = I (R 1 7) 4 := by rw [a.2.2.2.2.2.2.1]; exact h.1.1.symm
    have f3 : I1 102 3 = I (R 1 7) 2 := by rw [a.2.2.2.2.2.2.1]; have := h.1.2.1; rw [Nat.zero_add] at this; exact this.symm
    rw [f0, f3] at b2
    exact RM.now (now_9 hR) (by omega) e h a b2 (h.eqN a.2.2.2.2.2.1)
  have nn : ∀ n m : Nat, n ≤ f → m ≤ f → nI n = nI m → n = m := fun n m a b c => (nK (a := n) (b := m) (by omega) (by omega)).mp c
  have bad : ∀ n : Nat, n ≤ f → ¬ (nI n < 0 ∨ nI f < nI n) := fun n hn z => by
    rcases z with q | q
    · exact absurd q (nI_pos (by omega))
    · have := (nlt_nI (by omega) (by omega)).mp q; omega
  rcases h1 with ⟨q, a, e⟩ | ⟨n, hn, rfl, h1⟩
  · rcases h2 with ⟨q2, b2⟩ | ⟨m, hm, rfl, _⟩
    · exact old a b2 e
    · exact absurd q (bad m hm)
  · rcases h2 with ⟨q2, b2⟩ | ⟨m, hm, em, h2⟩
    · exact absurd q2 (bad n hn)
    · have := nn n m hn hm em
      subst this
      rcases h1 with ⟨p, hp1, a, e⟩ | ⟨B, b, hp1, hO, a, aN, e⟩
      · rcases h2 with ⟨p2, hp2, b2⟩ | ⟨B2, b2, hp2, _⟩
        · exact old a b2 e
        · rw [hp1] at hp2; cases hp2
      · rcases h2 with ⟨p2, hp2, b2⟩ | ⟨B2, b2, hp2, hO2, b3, bN⟩
        · rw [hp1] at hp2; cases hp2
        · rw [hp1] at hp2
          injection hp2 with hp2
          injection hp2 with e1 e2
          subst e1
          refine RM.now (hp.elim (fun q => Or.inr q.2) (fun q => Or.inl q.2)) (by decide) e h a b3 (fun i h6 hi => ?_)
          have hm : i < mnN B.1 := by
            have := tn_of (x := B.1 0) rfl (by omega)
            unfold mnN
            omega
          exact (aN i hm).trans (bN i hm).symm
end PT8x0
section PT8x1
/-! ===== owe(): what it answers ===== -/
noncomputable def owP (m v p q : Int32) : Prop := ((0 : Int32) ≤ v ∧ v < m) ∧ sh p q
end PT8x1
section PT8x2
/-! ===== the scribe reads days: small pieces ===== -/
section DYC
variable {T : Nat → Int32} {e a d : Nat} {N : Nat → Int64} {I : Im} {J : Jm} {R : Rm} {Q : Qt}
theorem px_nam2 {o m : Nat} {w : Int64} (hO : isO 112 o 0 = true) (hm : m ≤ 6) (e0 : I o 4 = nI m) (hN : ∀ k, k < m → J (o + 2) k = N k) (hQ : Q (nmG N w m 0) 0 I J R) : AM (d + 1) 5 112 [.ref o, .long w] I J R Q := by
  refine am_X0_manNamed (fun P hc => sg_X0_manNamed_0 hc _ _ _ _ _ ?_)
  obtain ⟨hA, hL, -⟩ := fa_0_5 hO
  have L : ∀ f k : Nat, k + f = m → nmG N w m 0 = nmG N w f k → P 2 112 [(0, .ref o), (1, .long w), (3, .int (nI k))] [] I J R := by
    intro f
    induction f with
    | zero =>
      intro k hk hv
      refine sg_X0_manNamed_2 hc _ _ _ _ _ _ (bif_t hO ?_)
      rw [e0]
      refine ⟨fun _ => ?_, fun c => absurd ?_ c⟩
      · rw [hv] at hQ; exact hQ
      · rw [show k = m by omega]; exact (nle_nI (by omega) (by omega)).mpr (Nat.le_refl _)
    | succ f ih =>
      intro k hk hv
      refine sg_X0_manNamed_2 hc _ _ _ _ _ _ (bif_t hO ?_)
      rw [e0]
      refine ⟨fun c => absurd ((nle_nI (by omega) (by omega)).mp c) (by omega), fun _ => bif_t hO (bif_t hA ⟨vp_nI (by omega) (by omega), ?_⟩)⟩
      rw [tn_nI (by omega), hN k (by omega), nI_k1, lg_cmp_eq]
      have e1 : nmG N w (f + 1) k = if N k = w then nI k else nmG N w f (k + 1) := rfl
      rw [e1] at hv
      refine ⟨fun c => ?_, fun c => ?_⟩
      · rw [if_neg c] at hv
        exact ih (k + 1) (by omega) hv
      · rw [if_pos c] at hv
        rw [hv] at hQ; exact hQ
  exact L m 0 (by omega) rfl
/-- the men who are there, by their names -/
noncomputable def MnA (N : Nat → Int64) (m o : Nat) (I : Im) (J : Jm) : Prop := m ≤ 6 ∧ I o 4 = nI m ∧ ∀ k, k < m → J (o + 2) k = N k
theorem MnA.fr {m o : Nat} {I2 : Im} {J2 : Jm} (h : MnA N m o I J) (ho : 9 ≤ o) (hF : FrR I J I2 J2) : MnA N m o I2 J2 :=
  ⟨h.1, (hF.i (by intro q; have := q.1; omega)).trans h.2.1, fun k hk => (hF.j (by intro q; have := q.1; omega)).trans (h.2.2 k hk)⟩
theorem px_man {o m : Nat} (hO : isO 112 o 0 = true) (hm : MnA N m o I J) (h : Rd T e a I J) (hE : ∀ p I2 J2, tkH T e N m a = .error p → FrR I J I2 J2 → Ft p I2 → Q (-1) 0 I2 J2 R) (hK : ∀ v b I2 J2, tkH T e N m a = .ok (v, b) → ¬ v = -1 → FrR I J I2 J2 → Rd T e b I2 J2 → Q v 0 I2 J2 R) : AM (d + 4) 39 112 [.ref o, .ref 3] I J R Q := by
  have ho := o_ge hO
  refine w_X3_takeMan (px_name h (fun p I2 J2 hp hF hf => ⟨fun c => absurd ?_ c, fun _ => hE p I2 J2 ?_ hF hf⟩) (fun w b I2 J2 hp hw hF h2 h7 => ⟨fun _ => bif_t hO ?_, fun c => absurd ((lg_cmp_eq _ _).mp c) hw⟩))
  · exact (lg_cmp_eq _ _).mpr rfl
  · unfold tkH; exact rb_e hp
  · have hm2 := hm.fr ho hF
    refine px_nam2 hO hm2.1 hm2.2.1 hm2.2.2 ⟨fun c => hK _ b I2 J2 ?_ c hF h2, fun c => ?_⟩
    · unfold tkH; rw [rb_k hp, if_neg c]
    · rw [c]
      refine px_wt (k := 3) (by decide) h7 (fun I3 hF3 hf3 _ => hE _ I3 J2 ?_ (hF.tr hF3) hf3)
      unfold tkH; rw [rb_k hp, if_pos c]
theorem px_cmp (h : Rd T e a I J) (hE : ∀ p I2 J2, tkC T e a = .error p → FrR I J I2 J2 → Ft p I2 → Q (-1) 0 I2 J2 R) (hK : ∀ v b I2 J2, tkC T e a = .ok (v, b) → ¬ v = -1 → FrR I J I2 J2 → Rd T e b I2 J2 → Q v 0 I2 J2 R) : AM (d + 3) 71 112 [.ref 3] I J R Q := by
  refine w_X6_takeCompares ⟨fun c => px_mis h (fun I2 J2 hF hf _ => hE _ I2 J2 ?_ hF hf), fun c => ?_⟩
  · unfold tkC
    rw [if_neg (fun z => c ((h.k_is (n := 3) (by omega)).mpr z))]
  have hk := (h.k_is (n := 3) (by omega)).mp c
  have hv := h.v (by omega)
  rw [hv]
  refine ⟨fun c2 => px_adv h (fun I2 J2 hF h2 h7 => hK _ _ I2 J2 ?_ ?_ hF.ab h2), fun c2 => px_mis h (fun I2 J2 hF hf _ => hE _ I2 J2 ?_ hF hf)⟩
  · unfold tkC
    rw [if_pos hk, if_neg c2]
  · rcases tok_sg hk with z | z | z | z <;> rw [z] <;> decide
  · unfold tkC
    rw [if_pos hk, if_pos c2]
theorem px_addD {p L : Nat} {k x y z : Int32} (hO : isO 112 p 2 = true) (hL : L < 60) (e0 : I p 2 = nI L) (hQ : Q 1 0 (uI (uI (uI (uI (uI (uI I (p + 1) L k) (p + 2) L x) (p + 3) L y) (p + 4) L z) (p + 5) L (nI L)) p 2 (nI (L + 1))) J R) : AM (d + 1) 30 112 [.ref p, .int k, .int x, .int y, .int z] I J R Q := by
  obtain ⟨a1, l1, -⟩ := fa_2_3 hO
  obtain ⟨a2, l2, -⟩ := fa_2_4 hO
  obtain ⟨a3, l3, -⟩ := fa_2_5 hO
  obtain ⟨a4, l4, -⟩ := fa_2_6 hO
  obtain ⟨a5, l5, -⟩ := fa_2_7 hO
  have tn : Int32.toNatClampNeg (nI L) = L := tn_nI (by omega)
  have e1 : uI I (p + 1) L k p 2 = nI L := (rd_ne (by first | decide | omega)).trans e0
  have e2 : uI (uI I (p + 1) L k) (p + 2) L x p 2 = nI L := (rd_ne (by first | decide | omega)).trans e1
  have e3 : uI (uI (uI I (p + 1) L k) (p + 2) L x) (p + 3) L y p 2 = nI L := (rd_ne (by first | decide | omega)).trans e2
  have e4 : uI (uI (uI (uI I (p + 1) L k) (p + 2) L x) (p + 3) L y) (p + 4) L z p 2 = nI L := (rd_ne (by first | decide | omega)).trans e3
  have e5 : uI (uI (uI (uI (uI I (p + 1) L k) (p + 2) L x) (p + 3) L y) (p + 4) L z) (p + 5) L (nI L) p 2 = nI L := (rd_ne (by first | decide | omega)).trans e4
  have v60 : vp_in (nI L) 60 := vp_nI (by omega) (by omega)
  have c60 : nI L < 60 := (nlt_nI (b := 60) (by omega) (by omega)).mpr hL
  refine w_X2_add ?_
  simp only [hO, a1, a2, a3, a4, a5, l1, l2, l3, l4, l5, e0, tn, e1, e2, e3, e4, e5, cond_true, nI_k1]
  exact ⟨fun _ => ⟨v60, v60, v60, v60, v60, Or.inr trivial, hQ⟩, fun c => absurd c60 c⟩
theorem px_pairD {p L b f : Nat} (hO : isO 112 p 2 = true) (hL : L ≤ 60) (hb : b < L) (hf : f < L) (e0 : I p 2 = nI L) (hQ : Q 0 0 (uI (uI I (p + 5) b (nI f)) (p + 5) f (nI b)) J R) : AM (d + 1) 31 112 [.ref p, .int (nI b), .int (nI f)] I J R Q := by
  obtain ⟨a5, l5, -⟩ := fa_2_7 hO
  refine w_X2_pair ⟨fun c => absurd c (nI_pos (by omega)), fun _ => bif_t hO ?_⟩
  rw [e0, l5]
  refine ⟨fun c => absurd ((nle_nI (by omega) (by omega)).mp c) (by omega), fun _ => ⟨fun c => absurd c (nI_pos (by omega)), fun _ => bif_t hO ?_⟩⟩
  refine ⟨fun c => absurd ((nle_nI (by omega) (by omega)).mp c) (by omega), fun _ => bif_t hO (bif_t a5 ⟨vp_nI (by omega) (by omega), bif_t hO (bif_t a5 ⟨vp_nI (by omega) (by omega), ?_⟩)⟩)⟩
  rw [tn_nI (by omega), tn_nI (by omega)]
  exact hQ
end DYC
end PT8x2
section PT8x3
/-! ===== the scribe reads days: a step's words ===== -/
/-- a code more -/
noncomputable def adI (M : Im) (p L : Nat) (c : CD) : Im := uI (uI (uI (uI (uI (uI M (p + 1) L c.1) (p + 2) L c.2.1) (p + 3) L c.2.2.1) (p + 4) L c.2.2.2) (p + 5) L (nI L)) p 2 (nI (L + 1))
theorem adI_o {M : Im} {p L c : Nat} {x : CD} (h : ¬ (p ≤ c ∧ c ≤ p + 5)) : adI M p L x c = M c := by
  unfold adI
  rw [uI_ne (by first | decide | omega), uI_ne (by first | decide | omega), uI_ne (by first | decide | omega), uI_ne (by first | decide | omega), uI_ne (by first | decide | omega), uI_ne (by first | decide | omega)]
section DYD
variable {T : Nat → Int32} {e a d : Nat} {N : Nat → Int64} {I : Im} {J : Jm} {R : Rm} {Q : Qt} {p L M : Nat}
theorem Rd.ad {x : CD} (h : Rd T e a I J) (hp : 9 ≤ p) : Rd T e a (adI I p L x) J :=
  h.o (adI_o (by omega)) (adI_o (by omega)) rfl rfl
theorem px_ad {k x y z : Int32} (hO : isO 112 p 2 = true) (hL : L < 60) (e0 : I p 2 = nI L) (hQ : Q 1 0 (adI I p L (k, x, y, z)) J R) : AM (d + 1) 30 112 [.ref p, .int k, .int x, .int y, .int z] I J R (fun x4 _ I4 J4 _ => (x4 = 0 ∨ x4 = 1) → ((x4 = (0 : Int32) → (((0 : Int32) = 0 ∨ (0 : Int32) = 1) ∧ Q 0 0 I4 J4 R)) ∧ (¬ x4 = (0 : Int32) → (((1 : Int32) = 0 ∨ (1 : Int32) = 1) ∧ Q 1 0 I4 J4 R)))) :=
  px_addD hO hL e0 (fun _ => ⟨fun c => absurd c (by decide), fun _ => ⟨Or.inr rfl, hQ⟩⟩)
theorem n1_1 {v : Int32} (h : (1 : Int32) ≤ v) : ¬ v = -1 := fun z => by rw [z] at h; exact absurd h (by decide)
theorem n1_2 {v : Int32} (h : (2 : Int32) ≤ v) : ¬ v = -1 := fun z => by rw [z] at h; exact absurd h (by decide)
theorem n1_0 {v : Int32} (h : (0 : Int32) ≤ v) : ¬ v = -1 := fun z => by rw [z] at h; exact absurd h (by decide)
theorem e0_fr {I2 : Im} {J2 : Jm} (hp : 9 ≤ p) (e0 : I p 2 = nI L) (hF : FrR I J I2 J2) : I2 p 2 = nI L := (hF.i (by intro q; have := q.1; omega)).trans e0
theorem px_cut (hO : isO 112 p 2 = true) (hL : L < 60) (e0 : I p 2 = nI L) (h : Rd T e a I J) (hE : ∀ q I2 J2, dyA T e N M 9 a = .error q → FrR I J I2 J2 → Ft q I2 → Q 0 0 I2 J2 R) (hK : ∀ c b I2 J2, dyA T e N M 9 a = .ok (c, b) → FrR I J I2 J2 → Rd T e b I2 J2 → Q 1 0 (adI I2 p L c) J2 R) : AM (d + 4) 37 112 [.ref p, .ref 3] I J R Q := by
  have hp := p_ge hO
  have e9 : dyA T e N M 9 a = rb (tkN T e 1 30 a) fun x b => rb (tkN T e 1 30 b) fun y b => rb (tkN T e 1 30 b) fun z b => .ok ((9, x, y, z), b) := rfl
  refine w_X3_readCut (px_num h (fun q I2 J2 hq hF hf => ⟨fun c => absurd rfl c, fun _ => ⟨fun c => absurd rfl c, fun _ => ⟨fun _ => ⟨Or.inl rfl, hE q I2 J2 (by rw [e9]; exact rb_e hq) hF hf⟩, fun c => absurd rfl c⟩⟩⟩) (fun x b I2 J2 hx l1 _ hF h2 _ => ⟨fun _ => px_num h2 (fun q I3 J3 hq hF3 hf => ⟨fun c => absurd rfl c, fun _ => ⟨fun _ => ⟨Or.inl rfl, hE q I3 J3 (by rw [e9, rb_k hx]; exact rb_e hq) (hF.tr hF3) hf⟩, fun c => absurd rfl c⟩⟩) (fun y b3 I3 J3 hy l2 _ hF3 h3 _ => ⟨fun _ => px_num h3 (fun q I4 J4 hq hF4 hf => ⟨fun _ => ⟨Or.inl rfl, hE q I4 J4 (by rw [e9, rb_k hx, rb_k hy]; exact rb_e hq) ((hF.tr hF3).tr hF4) hf⟩, fun c => absurd rfl c⟩) (fun z b4 I4 J4 hz l3 _ hF4 h4 _ => ⟨fun c => absurd c (n1_1 l3), fun _ => bif_t hO (px_ad hO hL (e0_fr (by omega) e0 ((hF.tr hF3).tr hF4)) (hK (9, x, y, z) b4 I4 J4 (by rw [e9, rb_k hx, rb_k hy, rb_k hz]) ((hF.tr hF3).tr hF4) h4))⟩), fun c => absurd c (n1_1 l2)⟩), fun c => absurd c (n1_1 l1)⟩))
/-- behind a test's word and what it is of -/
noncomputable def dyT2 (T : Nat → Int32) (e : Nat) (v x : Int32) (b : Nat) : Rs CD := if v = 16 then .ok ((16, x, 0, 0), b) else rb (tkC T e b) fun y b => rb (tkN T e 0 99 b) fun z b => .ok ((v, x, y, z), b)
theorem px_ts {v x2 : Int32} {b : Nat} (hO : isO 112 p 2 = true) (hL : L < 60) (e0 : I p 2 = nI L) (h : Rd T e b I J) (hE : ∀ q I2 J2, dyT2 T e v x2 b = .error q → FrR I J I2 J2 → Ft q I2 → Q 0 0 I2 J2 R) (hK : ∀ c b2 I2 J2, dyT2 T e v x2 b = .ok (c, b2) → FrR I J I2 J2 → Rd T e b2 I2 J2 → Q 1 0 (adI I2 p L c) J2 R) :
    ((¬ v = 16 → (AM (d + 4) 71 112 [.ref 3] I J R (fun x3 y3 I3 J3 R3 => ((¬ x3 = (-1) → (AM (d + 4) 72 112 [.ref 3, .int 0, .int 99] I3 J3 R (fun x4 y4 I4 J4 R4 => ((x4 = (-1) → (((0 : Int32) = 0 ∨ (0 : Int32) = 1) ∧ Q 0 0 I4 J4 R)) ∧ (¬ x4 = (-1) → (bif isO 112 p 2 then AM (d + 4) 30 112 [.ref p, .int v, .int x2, .int x3, .int x4] I4 J4 R (fun x5 y5 I5 J5 R5 => (x5 = 0 ∨ x5 = 1) → ((x5 = (0 : Int32) → (((0 : Int32) = 0 ∨ (0 : Int32) = 1) ∧ Q 0 0 I5 J5 R)) ∧ (¬ x5 = (0 : Int32) → (((1 : Int32) = 0 ∨ (1 : Int32) = 1) ∧ Q 1 0 I5 J5 R)))) else False)))))) ∧ (x3 = (-1) → ((((-1) : Int32) = (-1) → (((0 : Int32) = 0 ∨ (0 : Int32) = 1) ∧ Q 0 0 I3 J3 R)) ∧ (¬ ((-1) : Int32) = (-1) → (bif isO 112 p 2 then AM (d + 4) 30 112 [.ref p, .int v, .int x2, .int x3, .int (-1)] I3 J3 R (fun x6 y6 I6 J6 R6 => (x6 = 0 ∨ x6 = 1) → ((x6 = (0 : Int32) → (((0 : Int32) = 0 ∨ (0 : Int32) = 1) ∧ Q 0 0 I6 J6 R)) ∧ (¬ x6 = (0 : Int32) → (((1 : Int32) = 0 ∨ (1 : Int32) = 1) ∧ Q 1 0 I6 J6 R)))) else False)))))))) ∧ (v = 16 → (bif isO 112 p 2 then AM (d + 4) 30 112 [.ref p, .int 16, .int x2, .int 0, .int 0] I J R (fun x7 y7 I7 J7 R7 => (x7 = 0 ∨ x7 = 1) → (((x7 : Int32) = 0 ∨ (x7 : Int32) = 1) ∧ Q x7 0 I7 J7 R)) else False))) := by
  have hp := p_ge hO
  refine ⟨fun c => px_cmp h (fun q I2 J2 hq hF hf => ⟨fun z => absurd rfl z, fun _ => ⟨fun _ => ⟨Or.inl rfl, hE q I2 J2 ?_ hF hf⟩, fun z => absurd rfl z⟩⟩) (fun y b2 I2 J2 hy n1 hF h2 => ⟨fun _ => px_num h2 (fun q I3 J3 hq hF3 hf => ⟨fun _ => ⟨Or.inl rfl, hE q I3 J3 ?_ (hF.tr hF3) hf⟩, fun z => absurd rfl z⟩) (fun z b3 I3 J3 hz l3 _ hF3 h3 _ => ⟨fun w => absurd w (n1_0 l3), fun _ => bif_t hO (px_ad hO hL (e0_fr (by omega) e0 (hF.tr hF3)) (hK (v, x2, y, z) b3 I3 J3 ?_ (hF.tr hF3) h3))⟩), fun w => absurd w n1⟩), fun c => bif_t hO (px_addD hO hL e0 (fun _ => ⟨Or.inr rfl, hK (16, x2, 0, 0) b I J ?_ FrW.rf h⟩))⟩
  · unfold dyT2; rw [if_neg c]; exact rb_e hq
  · unfold dyT2; rw [if_neg c, rb_k hy]; exact rb_e hq
  · unfold dyT2; rw [if_neg c, rb_k hy, rb_k hz]
  · unfold dyT2; rw [if_pos c]
theorem px_test {o : Nat} (hO : isO 112 p 2 = true) (hN : isO 112 o 0 = true) (hm : MnA N M o I J) (hL : L < 60) (e0 : I p 2 = nI L) (h : Rd T e a I J) (hE : ∀ q I2 J2, dyT T e N M a = .error q → FrR I J I2 J2 → Ft q I2 → Q 0 0 I2 J2 R) (hK : ∀ c b I2 J2, dyT T e N M a = .ok (c, b) → FrR I J I2 J2 → Rd T e b I2 J2 → Q 1 0 (adI I2 p L c) J2 R) : AM (d + 5) 38 112 [.ref p, .ref o, .ref 3] I J R Q := by
  have hp := p_ge hO
  have ho := o_ge hN
  have eT : dyT T e N M a = if isTs (tI (tok T e a)) = true then rb (if tI (tok T e a) = 17 then tkN T e 1 30 (tB (tok T e a)) else tkH T e N M (tB (tok T e a))) (fun x b => dyT2 T e (tI (tok T e a)) x b) else .error (mis T e a) := rfl
  refine am_X3_readTest (fun P hc => sg_X3_readTest_0 hc _ _ _ _ _ ?_)
  rw [h.w]
  generalize tI (tok T e a) = i at eT
  have S : isTs i = true → P 28 112 [(0, .ref p), (1, .ref o), (2, .ref 3), (3, .int i)] [] I J R := fun hi => by
    rw [if_pos hi] at eT
    refine sg_X3_readTest_28 hc _ _ _ _ _ _ (px_any h (fun I1 J1 hF1 h1 _ _ => ⟨fun c17 => ?_, fun c17 => ?_⟩))
    · rw [if_neg c17] at eT
      refine px_man hN (hm.fr ho hF1) h1 (fun q I2 J2 hq hF hf => ⟨fun z => absurd rfl z, fun _ => ⟨Or.inl rfl, hE q I2 J2 (by rw [eT]; exact rb_e hq) (hF1.tr hF) hf⟩⟩) (fun x b I2 J2 hx n1 hF h2 => ⟨fun _ => ?_, fun z => absurd z n1⟩)
      have eX : dyT T e N M a = dyT2 T e i x b := by rw [eT, rb_k hx]
      exact px_ts hO hL (e0_fr (by omega) e0 (hF1.tr hF)) h2 (fun q I3 J3 hq hF3 hf => hE q I3 J3 (by rw [eX]; exact hq) ((hF1.tr hF).tr hF3) hf) (fun c b3 I3 J3 hq hF3 h3 => hK c b3 I3 J3 (by rw [eX]; exact hq) ((hF1.tr hF).tr hF3) h3)
    · rw [if_pos c17] at eT
      refine px_num h1 (fun q I2 J2 hq hF hf => ⟨fun z => absurd rfl z, fun _ => ⟨Or.inl rfl, hE q I2 J2 (by rw [eT]; exact rb_e hq) (hF1.tr hF) hf⟩⟩) (fun x b I2 J2 hx l1 _ hF h2 _ => ⟨fun _ => ?_, fun z => absurd z (n1_1 l1)⟩)
      have eX : dyT T e N M a = dyT2 T e i x b := by rw [eT, rb_k hx]
      exact px_ts hO hL (e0_fr (by omega) e0 (hF1.tr hF)) h2 (fun q I3 J3 hq hF3 hf => hE q I3 J3 (by rw [eX]; exact hq) ((hF1.tr hF).tr hF3) hf) (fun c b3 I3 J3 hq hF3 h3 => hK c b3 I3 J3 (by rw [eX]; exact hq) ((hF1.tr hF).tr hF3) h3)
  refine ⟨fun c => S (by rw [c]; decide), fun c1 => ⟨fun c => S (by rw [c]; decide), fun c2 => ⟨fun c => S (by rw [c]; decide), fun c3 => px_mis h (fun I2 J2 hF hf _ => ⟨Or.inl rfl, hE _ I2 J2 ?_ hF hf⟩)⟩⟩⟩
  rw [eT, if_neg (fun z => ?_)]
  unfold isTs at z
  rw [Bool.or_eq_true, Bool.or_eq_true, beq_iff_eq, beq_iff_eq, beq_iff_eq] at z
  rcases z with z | z | z
  · exact c1 z
  · exact c2 z
  · exact c3 z
theorem px_act {o : Nat} {i : Int32} (hi : isSt i = true) (h15 : ¬ i = 15) (hO : isO 112 p 2 = true) (hN : isO 112 o 0 = true) (hm : MnA N M o I J) (hL : L < 60) (e0 : I p 2 = nI L) (h : Rd T e a I J) (hE : ∀ q I2 J2, dyA T e N M i a = .error q → FrR I J I2 J2 → Ft q I2 → Q 0 0 I2 J2 R) (hK : ∀ c b I2 J2, dyA T e N M i a = .ok (c, b) → FrR I J I2 J2 → Rd T e b I2 J2 → Q 1 0 (adI I2 p L c) J2 R) : AM (d + 5) 36 112 [.ref p, .ref o, .int i, .ref 3] I J R Q := by
  have hp := p_ge hO
  have ho := o_ge hN
  have bad : ∀ k : Int32, isSt k = false → ¬ i = k := fun k hk z => by rw [z, hk] at hi; exact absurd hi (by decide)
  have plain : ∀ k : Int32, dyA T e N M k a = .ok ((k, 0, 0, 0), a) → i = k → (bif isO 112 p 2 then AM (d + 4) 30 112 [.ref p, .int i, .int 0, .int 0, .int 0] I J R (fun x8 y8 I8 J8 R8 => (x8 = 0 ∨ x8 = 1) → (((x8 : Int32) = 0 ∨ (x8 : Int32) = 1) ∧ Q x8 0 I8 J8 R)) else False) := fun k hk z => by
    subst z
    exact bif_t hO (px_addD hO hL e0 (fun _ => ⟨Or.inr rfl, hK (i, 0, 0, 0) a I J hk FrW.rf h⟩))
  refine w_X3_readAct ⟨fun c => ?_, fun _ => ⟨fun c => ?_, fun _ => ⟨fun c => ?_, fun _ => ⟨fun c => ?_, fun _ => ⟨fun c => ?_, fun _ => ⟨fun c => plain 14 rfl c, fun _ => ⟨fun c => absurd c h15, fun _ => ⟨fun c => absurd c (bad 16 (by decide)), fun _ => ⟨fun c => absurd c (bad 17 (by decide)), fun _ => ⟨fun c => absurd c (bad 18 (by decide)), fun _ => ⟨fun c => ?_, fun _ => ?_⟩⟩⟩⟩⟩⟩⟩⟩⟩⟩⟩
  · subst c
    exact px_cut hO hL e0 h (fun q I2 J2 hq hF hf _ => ⟨Or.inl rfl, hE q I2 J2 hq hF hf⟩) (fun c b I2 J2 hq hF h2 _ => ⟨Or.inr rfl, hK c b I2 J2 hq hF h2⟩)
  · subst c
    have eA : dyA T e N M 10 a = rb (tkN T e 1 30 a) fun x b => rb (tkN T e 2 30 b) fun y b => .ok ((10, x, y, 0), b) := rfl
    exact px_num h (fun q I2 J2 hq hF hf => ⟨fun z => absurd rfl z, fun _ => ⟨fun _ => ⟨Or.inl rfl, hE q I2 J2 (by rw [eA]; exact rb_e hq) hF hf⟩, fun z => absurd rfl z⟩⟩) (fun x b I2 J2 hx l1 _ hF h2 _ => ⟨fun _ => px_num h2 (fun q I3 J3 hq hF3 hf => ⟨fun _ => ⟨Or.inl rfl, hE q I3 J3 (by rw [eA, rb_k hx]; exact rb_e hq) (hF.tr hF3) hf⟩, fun z => absurd rfl z⟩) (fun y b3 I3 J3 hy l2 _ hF3 h3 _ => ⟨fun z => absurd z (n1_2 l2), fun _ => bif_t hO (px_ad hO hL (e0_fr (by omega) e0 (hF.tr hF3)) (hK _ b3 I3 J3 (by rw [eA, rb_k hx, rb_k hy]) (hF.tr hF3) h3))⟩), fun z => absurd z (n1_1 l1)⟩)
  · subst c
    have eA : dyA T e N M 11 a = rb (tkH T e N M a) fun x b => rb (tkN T e 1 30 b) fun y b => .ok ((11, x, y, 0), b) := rfl
    exact px_man hN hm h (fun q I2 J2 hq hF hf => ⟨fun z => absurd rfl z, fun _ => ⟨fun _ => ⟨Or.inl rfl, hE q I2 J2 (by rw [eA]; exact rb_e hq) hF hf⟩, fun z => absurd rfl z⟩⟩) (fun x b I2 J2 hx n1 hF h2 => ⟨fun _ => px_num h2 (fun q I3 J3 hq hF3 hf => ⟨fun _ => ⟨Or.inl rfl, hE q I3 J3 (by rw [eA, rb_k hx]; exact rb_e hq) (hF.tr hF3) hf⟩, fun z => absurd rfl z⟩) (fun y b3 I3 J3 hy l2 _ hF3 h3 _ => ⟨fun z => absurd z (n1_1 l2), fun _ => bif_t hO (px_ad hO hL (e0_fr (by omega) e0 (hF.tr hF3)) (hK _ b3 I3 J3 (by rw [eA, rb_k hx, rb_k hy]) (hF.tr hF3) h3))⟩), fun z => absurd z n1⟩)
  · subst c
    have eA : dyA T e N M 12 a = rb (tkH T e N M a) fun x b => rb (tkN T e 1 30 b) fun y b => .ok ((12, x, y, 0), b) := rfl
    exact px_man hN hm h (fun q I2 J2 hq hF hf => ⟨fun z => absurd rfl z, fun _ => ⟨fun _ => ⟨Or.inl rfl, hE q I2 J2 (by rw [eA]; exact rb_e hq) hF hf⟩, fun z => absurd rfl z⟩⟩) (fun x b I2 J2 hx n1 hF h2 => ⟨fun _ => px_num h2 (fun q I3 J3 hq hF3 hf => ⟨fun _ => ⟨Or.inl rfl, hE q I3 J3 (by rw [eA, rb_k hx]; exact rb_e hq) (hF.tr hF3) hf⟩, fun z => absurd rfl z⟩) (fun y b3 I3 J3 hy l2 _ hF3 h3 _ => ⟨fun z => absurd z (n1_1 l2), fun _ => bif_t hO (px_ad hO hL (e0_fr (by omega) e0 (hF.tr hF3)) (hK _ b3 I3 J3 (by rw [eA, rb_k hx, rb_k hy]) (hF.tr hF3) h3))⟩), fun z => absurd z n1⟩)
  · subst c
    have eA : dyA T e N M 13 a = rb (tkN T e 1 9 a) fun x b => .ok ((13, x, 0, 0), b) := rfl
    exact px_num h (fun q I2 J2 hq hF hf => ⟨fun _ => ⟨Or.inl rfl, hE q I2 J2 (by rw [eA]; exact rb_e hq) hF hf⟩, fun z => absurd rfl z⟩) (fun x b I2 J2 hx l1 _ hF h2 _ => ⟨fun z => absurd z (n1_1 l1), fun _ => bif_t hO (px_ad hO hL (e0_fr (by omega) e0 hF) (hK _ b I2 J2 (by rw [eA, rb_k hx]) hF h2))⟩)
  · subst c
    have eA : dyA T e N M 19 a = rb (tkN T e 1 99 a) fun x b => .ok ((19, x, 0, 0), b) := rfl
    exact px_num h (fun q I2 J2 hq hF hf => ⟨fun _ => ⟨Or.inl rfl, hE q I2 J2 (by rw [eA]; exact rb_e hq) hF hf⟩, fun z => absurd rfl z⟩) (fun x b I2 J2 hx l1 _ hF h2 _ => ⟨fun z => absurd z (n1_1 l1), fun _ => bif_t hO (px_ad hO hL (e0_fr (by omega) e0 hF) (hK _ b I2 J2 (by rw [eA, rb_k hx]) hF h2))⟩)
  · refine plain i ?_ rfl
    unfold dyA
    rw [if_neg ?_, if_neg ?_, if_neg ?_, if_neg ?_, if_neg ?_, if_neg h15]
    all_goals first | assumption | (intro z; rcases z with z | z <;> contradiction)
end DYD
end PT8x3
section PT8x4
/-! ===== the scribe reads days: the whole ===== -/
noncomputable abbrev WY (p : Nat) : Nat → Nat → Prop := fun c k => WR wsB c k ∨ c = 7 ∨ c = 8 ∨ (p ≤ c ∧ c ≤ p + 5)
noncomputable abbrev FrY (p : Nat) (I : Im) (J : Jm) (I2 : Im) (J2 : Jm) : Prop := FrW (WY p) VR I J I2 J2
theorem FrW.y {p : Nat} {I I2 : Im} {J J2 : Jm} (h : FrR I J I2 J2) : FrY p I J I2 J2 := h.up (fun _ _ q => Or.inl q) (fun _ _ q => q)
theorem FrY.ad {p L : Nat} {c : CD} {I I2 : Im} {J J2 : Jm} (h : FrY p I J I2 J2) : FrY p I J (adI I2 p L c) J2 :=
  ⟨fun o k q => (congrFun (adI_o (fun z => q (Or.inr (Or.inr (Or.inr z))))) k).trans (h.1 o k q), h.2⟩
noncomputable def SDs (s : DS) (p : Nat) (I : Im) : Prop := I p 1 = nI (dN s) ∧ I p 2 = nI (dL s) ∧ I 7 1 = nI (dD s) ∧ (∀ k, k < dD s → I 8 k = nI (dO s k)) ∧ ∀ k, k < dL s → I (p + 1) k = (dC s k).1 ∧ I (p + 2) k = (dC s k).2.1 ∧ I (p + 3) k = (dC s k).2.2.1 ∧ I (p + 4) k = (dC s k).2.2.2 ∧ I (p + 5) k = nI (dM s k)
theorem SDs.cp {s : DS} {p : Nat} {I I2 : Im} (h : SDs s p I) (e : ∀ c, (c = 7 ∨ c = 8 ∨ (p ≤ c ∧ c ≤ p + 5)) → I2 c = I c) : SDs s p I2 := by
  unfold SDs at h ⊢
  rw [e p (by omega), e 7 (by omega), e 8 (by omega), e (p + 1) (by omega), e (p + 2) (by omega), e (p + 3) (by omega), e (p + 4) (by omega), e (p + 5) (by omega)]
  exact h
theorem SDs.fr {s : DS} {p : Nat} {I I2 : Im} {J J2 : Jm} (h : SDs s p I) (hp : 9 ≤ p) (hF : FrR I J I2 J2) : SDs s p I2 := h.cp (fun c hc => hF.c (by intro k q; have := q.1; omega))
section ADI
variable {M : Im} {p L k : Nat} {c : CD}
theorem ad_p1 : adI M p L c p 1 = M p 1 := by
  unfold adI
  rw [rd_k (by decide), rd_ne (by first | decide | omega), rd_ne (by first | decide | omega), rd_ne (by first | decide | omega), rd_ne (by first | decide | omega), rd_ne (by first | decide | omega)]
theorem ad_p2 : adI M p L c p 2 = nI (L + 1) := rd_eq
theorem ad_1 : adI M p L c (p + 1) k = if k = L then c.1 else M (p + 1) k := by
  unfold adI
  rw [rd_ne (by first | decide | omega), rd_ne (by first | decide | omega), rd_ne (by first | decide | omega), rd_ne (by first | decide | omega), rd_ne (by first | decide | omega)]
  by_cases q : k = L
  · subst q; rw [rd_eq, if_pos rfl]
  · rw [rd_k q, if_neg q]
theorem ad_2 : adI M p L c (p + 2) k = if k = L then c.2.1 else M (p + 2) k := by
  unfold adI
  rw [rd_ne (by first | decide | omega), rd_ne (by first | decide | omega), rd_ne (by first | decide | omega), rd_ne (by first | decide | omega)]
  by_cases q : k = L
  · subst q; rw [rd_eq, if_pos rfl]
  · rw [rd_k q, if_neg q, rd_ne (by first | decide | omega)]
theorem ad_3 : adI M p L c (p + 3) k = if k = L then c.2.2.1 else M (p + 3) k := by
  unfold adI
  rw [rd_ne (by first | decide | omega), rd_ne (by first | decide | omega), rd_ne (by first | decide | omega)]
  by_cases q : k = L
  · subst q; rw [rd_eq, if_pos rfl]
  · rw [rd_k q, if_neg q, rd_ne (by first | decide | omega), rd_ne (by first | decide | omega)]
theorem ad_4 : adI M p L c (p + 4) k = if k = L then c.2.2.2 else M (p + 4) k := by
  unfold adI
  rw [rd_ne (by first | decide | omega), rd_ne (by first | decide | omega)]
  by_cases q : k = L
  · subst q; rw [rd_eq, if_pos rfl]
  · rw [rd_k q, if_neg q, rd_ne (by first | decide | omega), rd_ne (by first | decide | omega), rd_ne (by first | decide | omega)]
theorem ad_5 : adI M p L c (p + 5) k = if k = L then nI L else M (p + 5) k := by
  unfold adI
  rw [rd_ne (by first | decide | omega)]
  by_cases q : k = L
  · subst q; rw [rd_eq, if_pos rfl]
  · rw [rd_k q, if_neg q, rd_ne (by first | decide | omega), rd_ne (by first | decide | omega), rd_ne (by first | decide | omega), rd_ne (by first | decide | omega)]
end ADI
/-- a code put behind the others -/
theorem SDs.code {s s2 : DS} {p : Nat} {c : CD} {M : Im} (hp : 9 ≤ p) (e1 : M p 1 = nI (dN s2)) (e7 : M 7 1 = nI (dD s2)) (e8 : ∀ k, k < dD s2 → M 8 k = nI (dO s2 k)) (eL : dL s2 = dL s + 1) (eC : dC s2 = upC (dC s) (dL s) c) (eM : dM s2 = upN (dM s) (dL s) (dL s))
    (hc : ∀ k, k < dL s → M (p + 1) k = (dC s k).1 ∧ M (p + 2) k = (dC s k).2.1 ∧ M (p + 3) k = (dC s k).2.2.1 ∧ M (p + 4) k = (dC s k).2.2.2 ∧ M (p + 5) k = nI (dM s k)) : SDs s2 p (adI M p (dL s) c) := by
  refine ⟨ad_p1.trans e1, by rw [ad_p2, eL], ?_, fun k hk => ?_, fun k hk => ?_⟩
  · rw [adI_o (by omega)]; exact e7
  · rw [adI_o (by omega)]; exact e8 k hk
  · rw [ad_1, ad_2, ad_3, ad_4, ad_5, eC, eM]
    by_cases q : k = dL s
    · subst q
      rw [upC_s, upN_s, if_pos rfl, if_pos rfl, if_pos rfl, if_pos rfl, if_pos rfl]
      exact ⟨rfl, rfl, rfl, rfl, rfl⟩
    · rw [upC_i q, upN_i q, if_neg q, if_neg q, if_neg q, if_neg q, if_neg q]
      exact hc k (by omega)
section DYW
variable {T : Nat → Int32} {e a d : Nat} {N : Nat → Int64} {I : Im} {J : Jm} {R : Rm} {Q : Qt} {p M : Nat}
theorem MnA.y {m o : Nat} {I2 : Im} {J2 : Jm} (h : MnA N m o I J) (ho : 9 ≤ o) (hop : o + 5 < p ∨ p + 5 < o) (hF : FrY p I J I2 J2) : MnA N m o I2 J2 :=
  ⟨h.1, (hF.i (by rintro (q | q | q | q); have := q.1; all_goals omega)).trans h.2.1, fun k hk => (hF.j (by intro q; have := q.1; omega)).trans (h.2.2 k hk)⟩
set_option maxHeartbeats 1000000 in
theorem px_step {o : Nat} {s : DS} (hO : isO 112 p 2 = true) (hN : isO 112 o 0 = true) (hop : o + 5 < p ∨ p + 5 < o) (hm : MnA N M o I J) (hs : SDs s p I) (hD : DOk s) (h : Rd T e a I J) (hE : ∀ q I2 J2, dyS T e N M s a = .error q → FrY p I J I2 J2 → Ft q I2 → Q 0 0 I2 J2 R) (hK : ∀ s2 b I2 J2, dyS T e N M s a = .ok (s2, b) → FrY p I J I2 J2 → Rd T e b I2 J2 → SDs s2 p I2 → DOk s2 → Q 1 0 I2 J2 R) : AM (d + 6) 35 112 [.ref 7, .ref p, .ref o, .ref 3] I J R Q := by
  have hp := p_ge hO
  have ho := o_ge hN
  obtain ⟨h30, h3, hLL, -, -⟩ := id hD
  refine am_X3_readStep (fun P hc => sg_X3_readStep_0 hc _ _ _ _ _ ?_)
  rw [h.w]
  have eS : dyS T e N M s a = if isSt (tI (tok T e a)) = true then (if dN s = 30 then .error (6, tS (tok T e a)) else if isBk (tI (tok T e a)) = true ∧ dD s = 3 then .error (7, tS (tok T e a)) else rb (dyA T e N M (tI (tok T e a)) (tB (tok T e a))) fun c b => rb (tkS T e b) fun _ b => .ok (if isBk (tI (tok T e a)) = true then dsB s c else dsA s c, b)) else .error (mis T e a) := rfl
  generalize tI (tok T e a) = i at eS
  -- behind the word: what it asks for, the semicolon
  have F : ∀ (M0 : Im) (J0 : Jm), isSt i = true → (dyS T e N M s a = rb (dyA T e N M i (tB (tok T e a))) fun c b => rb (tkS T e b) fun _ b => .ok (if isBk i = true then dsB s c else dsA s c, b)) → FrY p I J M0 J0 → Rd T e (tB (tok T e a)) M0 J0 → M0 p 2 = nI (dL s) → dL s < 60 → (∀ c I2 J2, FrR M0 J0 I2 J2 → SDs (if isBk i = true then dsB s c else dsA s c) p (adI I2 p (dL s) c) ∧ DOk (if isBk i = true then dsB s c else dsA s c)) → P 149 112 [(1, .ref p), (2, .ref o), (3, .ref 3), (4, .int i)] [] M0 J0 R := by
    intro M0 J0 hi e1 hF0 h0 e2 hL hnext
    have hm0 := hm.y ho hop hF0
    have tail : ∀ c b I2 J2, dyA T e N M i (tB (tok T e a)) = .ok (c, b) → FrR M0 J0 I2 J2 → Rd T e b I2 J2 → AM (d + 5) 70 112 [.ref 3] (adI I2 p (dL s) c) J2 R (fun x2 y2 I2 J2 R2 => (x2 = 0 ∨ x2 = 1) → ((x2 = (0 : Int32) → (((0 : Int32) = 0 ∨ (0 : Int32) = 1) ∧ Q 0 0 I2 J2 R)) ∧ (¬ x2 = (0 : Int32) → (((1 : Int32) = 0 ∨ (1 : Int32) = 1) ∧ Q 1 0 I2 J2 R)))) := by
      intro c b I2 J2 hq hF hR
      have hFa : FrY p I J (adI I2 p (dL s) c) J2 := FrY.ad (hF0.tr hF.y)
      obtain ⟨n1, n2⟩ := hnext c I2 J2 hF
      exact px_semi (hR.ad (by omega)) (fun q I3 J3 hq3 hF3 hf _ => ⟨fun _ => ⟨Or.inl rfl, hE q I3 J3 (by rw [e1, rb_k hq]; exact rb_e hq3) (hFa.tr hF3.y) hf⟩, fun z => absurd rfl z⟩) (fun b3 I3 J3 hq3 hF3 h3 _ => ⟨fun z => absurd z (by decide), fun _ => ⟨Or.inr rfl, hK _ b3 I3 J3 (by rw [e1, rb_k hq, rb_k hq3]) (hFa.tr hF3.y) h3 (n1.fr (by omega) hF3) n2⟩⟩)
    refine sg_X3_readStep_149 hc _ _ _ _ _ _ ⟨fun c15 => px_act hi c15 hO hN hm0 hL e2 h0 (fun q I2 J2 hq hF hf _ => ⟨fun _ => ⟨Or.inl rfl, hE q I2 J2 (by rw [e1]; exact rb_e hq) (hF0.tr hF.y) hf⟩, fun z => absurd rfl z⟩) (fun c b I2 J2 hq hF hR _ => ⟨fun z => absurd z (by decide), fun _ => tail c b I2 J2 hq hF hR⟩), fun c15 => ?_⟩
    subst c15
    have e15 : dyA T e N M 15 (tB (tok T e a)) = dyT T e N M (tB (tok T e a)) := rfl
    exact px_test hO hN hm0 hL e2 h0 (fun q I2 J2 hq hF hf _ => ⟨fun _ => ⟨Or.inl rfl, hE q I2 J2 (by rw [e1]; exact rb_e (e15.trans hq)) (hF0.tr hF.y) hf⟩, fun z => absurd rfl z⟩) (fun c b I2 J2 hq hF hR _ => ⟨fun z => absurd z (by decide), fun _ => tail c b I2 J2 (e15.trans hq) hF hR⟩)
  -- a word that is a step's
  have X : ∀ v5 : Int32, isSt i = true → ((v5 = 0 ∧ isBk i = false) ∨ (v5 = 1 ∧ isBk i = true)) → P 53 112 [(0, .ref 7), (1, .ref p), (2, .ref o), (3, .ref 3), (4, .int i), (5, .int v5)] [] I J R := by
    intro v5 hi hv
    rw [if_pos hi] at eS
    refine sg_X3_readStep_53 hc _ _ _ _ _ _ _ ⟨fun _ => px_any h (fun I1 J1 hF1 h1 h7 _ => bif_t hO ?_), fun z => absurd z (by decide)⟩
    have hs1 := hs.fr (by omega) hF1
    rw [hs1.1]
    refine ⟨fun c30 => ?_, fun c30 => ?_⟩
    · have n30 : ¬ dN s = 30 := by have := (nlt_nI (b := 30) (by omega) (by omega)).mp c30; omega
      rw [if_neg n30] at eS
      rcases hv with ⟨rfl, hb⟩ | ⟨rfl, hb⟩
      · refine ⟨fun _ => ?_, fun z => absurd rfl z⟩
        rw [if_neg (fun z => by rw [hb] at z; exact absurd z.1 (by decide))] at eS
        refine sg_X3_readStep_111 hc _ _ _ _ _ _ _ (bif_t hO (bif_t hO ⟨fun _ => ?_, fun z => absurd rfl z⟩))
        rw [hs1.1, nI_k1]
        refine F _ _ hi eS (hF1.y.u (Or.inr (Or.inr (Or.inr (by omega))))) (h1.o (uI_ne (by first | decide | omega)) (uI_ne (by first | decide | omega)) rfl rfl) ((rd_k (by decide)).trans hs1.2.1) (by omega) (fun c I2 J2 hF => ?_)
        rw [if_neg (by rw [hb]; decide)]
        refine ⟨SDs.code (by omega) ?_ ?_ (fun k hk => ?_) rfl rfl rfl (fun k hk => ?_), hD.a n30⟩
        · rw [hF.c (o := p) (by intro k q; have := q.1; omega)]; exact rd_eq
        · rw [hF.c (o := 7) (by intro k q; have := q.1; omega), rd_ne (by first | decide | omega)]; exact hs1.2.2.1
        · rw [hF.c (o := 8) (by intro k q; have := q.1; omega), rd_ne (by first | decide | omega)]; exact hs1.2.2.2.1 k hk
        · rw [hF.c (o := p + 1) (by intro k q; have := q.1; omega), hF.c (o := p + 2) (by intro k q; have := q.1; omega), hF.c (o := p + 3) (by intro k q; have := q.1; omega), hF.c (o := p + 4) (by intro k q; have := q.1; omega), hF.c (o := p + 5) (by intro k q; have := q.1; omega), rd_ne (by first | decide | omega), rd_ne (by first | decide | omega), rd_ne (by first | decide | omega), rd_ne (by first | decide | omega), rd_ne (by first | decide | omega)]
          exact hs1.2.2.2.2 k hk
      · refine ⟨fun z => absurd z (by decide), fun _ => ?_⟩
        rw [hs1.2.2.1]
        refine ⟨fun c3 => ?_, fun c3 => ?_⟩
        · have n3 : ¬ dD s = 3 := by have := (nlt_nI (b := 3) (by omega) (by omega)).mp c3; omega
          rw [if_neg (fun z => n3 z.2)] at eS
          have g7 : uI I1 p 1 (nI (dN s) + 1) 7 1 = nI (dD s) := (rd_ne (by first | decide | omega)).trans hs1.2.2.1
          have g2 : uI I1 p 1 (nI (dN s) + 1) p 2 = nI (dL s) := (rd_k (by decide)).trans hs1.2.1
          have g72 : uI (uI I1 p 1 (nI (dN s) + 1)) 8 (dD s) (nI (dL s)) 7 1 = nI (dD s) := (rd_ne (by decide)).trans g7
          refine sg_X3_readStep_111 hc _ _ _ _ _ _ _ (bif_t hO (bif_t hO ⟨fun z => absurd z (by decide), fun _ => bif_t hO ?_⟩))
          rw [hs1.1, g7, g2, tn_nI (by omega), g72, nI_k1, nI_k1]
          refine ⟨vp_nI (by omega) (by omega), ?_⟩
          refine F _ _ hi eS (((hF1.y.u (Or.inr (Or.inr (Or.inr (by omega))))).u (Or.inr (Or.inr (Or.inl rfl)))).u (Or.inr (Or.inl rfl))) (h1.o ((uI_ne (by decide)).trans ((uI_ne (by decide)).trans (uI_ne (by first | decide | omega)))) ((uI_ne (by decide)).trans ((uI_ne (by decide)).trans (uI_ne (by first | decide | omega)))) rfl rfl) ((rd_ne (by first | decide | omega)).trans ((rd_ne (by first | decide | omega)).trans ((rd_k (by decide)).trans hs1.2.1))) (by omega) (fun c I2 J2 hF => ?_)
          rw [if_pos hb]
          refine ⟨SDs.code (by omega) ?_ ?_ (fun k hk => ?_) rfl rfl rfl (fun k hk => ?_), hD.b n30 n3⟩
          · rw [hF.c (o := p) (by intro k q; have := q.1; omega), rd_ne (by first | decide | omega), rd_ne (by first | decide | omega)]; exact rd_eq
          · rw [hF.c (o := 7) (by intro k q; have := q.1; omega)]; exact rd_eq
          · have hk2 : k < dD s + 1 := hk
            rw [hF.c (o := 8) (by intro k q; have := q.1; omega), rd_ne (by decide)]
            show _ = nI (upN (dO s) (dD s) (dL s) k)
            by_cases q : k = dD s
            · subst q; rw [rd_eq, upN_s]
            · rw [rd_k q, rd_ne (by first | decide | omega), upN_i q]; exact hs1.2.2.2.1 k (by omega)
          · rw [hF.c (o := p + 1) (by intro k q; have := q.1; omega), hF.c (o := p + 2) (by intro k q; have := q.1; omega), hF.c (o := p + 3) (by intro k q; have := q.1; omega), hF.c (o := p + 4) (by intro k q; have := q.1; omega), hF.c (o := p + 5) (by intro k q; have := q.1; omega)]
            rw [uI_ne (show ¬ p + 1 = 7 by omega), uI_ne (show ¬ p + 1 = 8 by omega), uI_ne (show ¬ p + 1 = p by omega), uI_ne (show ¬ p + 2 = 7 by omega), uI_ne (show ¬ p + 2 = 8 by omega), uI_ne (show ¬ p + 2 = p by omega), uI_ne (show ¬ p + 3 = 7 by omega), uI_ne (show ¬ p + 3 = 8 by omega), uI_ne (show ¬ p + 3 = p by omega), uI_ne (show ¬ p + 4 = 7 by omega), uI_ne (show ¬ p + 4 = 8 by omega), uI_ne (show ¬ p + 4 = p by omega), uI_ne (show ¬ p + 5 = 7 by omega), uI_ne (show ¬ p + 5 = 8 by omega), uI_ne (show ¬ p + 5 = p by omega)]
            exact hs1.2.2.2.2 k hk
        · have e3 : dD s = 3 := by
            rcases Nat.lt_or_ge (dD s) 3 with z | z
            · exact absurd ((nlt_nI (b := 3) (by omega) (by omega)).mpr z) c3
            · omega
          rw [if_pos ⟨hb, e3⟩] at eS
          exact px_wt (k := 7) (by decide) h7 (fun I3 hF3 hf _ => ⟨Or.inl rfl, hE _ I3 J1 eS (hF1.y.tr hF3.y) hf⟩)
    · have e30 : dN s = 30 := by
        rcases Nat.lt_or_ge (dN s) 30 with z | z
        · exact absurd ((nlt_nI (b := 30) (by omega) (by omega)).mpr z) c30
        · omega
      rw [if_pos e30] at eS
      exact px_wt (k := 6) (by decide) h7 (fun I3 hF3 hf _ => ⟨Or.inl rfl, hE _ I3 J1 eS (hF1.y.tr hF3.y) hf⟩)
  have Y : ∀ v5 : Int32, isSt i = false → P 57 112 [(0, .ref 7), (1, .ref p), (2, .ref o), (3, .ref 3), (4, .int i), (5, .int v5)] [] I J R := by
    intro v5 hi
    rw [if_neg (by rw [hi]; decide)] at eS
    exact sg_X3_readStep_57 hc _ _ _ _ _ _ _ ⟨fun z => absurd rfl z, fun _ => px_mis h (fun I2 J2 hF hf _ => ⟨Or.inl rfl, hE _ I2 J2 eS hF.y hf⟩)⟩
  have B : isBk i = true → P 20 112 [(0, .ref 7), (1, .ref p), (2, .ref o), (3, .ref 3), (4, .int i)] [] I J R := fun hb => sg_X3_readStep_20 hc _ _ _ _ _ _ ⟨fun _ => X 1 (by unfold isSt; rw [hb]; rfl) (Or.inr ⟨rfl, hb⟩), fun z => absurd z (by decide)⟩
  refine ⟨fun c => B (by rw [c]; decide), fun c15 => ⟨fun c19 => ⟨fun z => absurd rfl z, fun _ => ⟨fun c21 => X 0 (by rw [c21]; decide) (Or.inl ⟨rfl, by rw [c21]; decide⟩), fun c21 => ⟨fun c9 => Y 0 ?_, fun c9 => ⟨fun c14 => Y 0 ?_, fun c14 => X 0 ?_ (Or.inl ⟨rfl, ?_⟩)⟩⟩⟩⟩, fun c => B (by rw [c]; decide)⟩⟩
  · exact isSt_no c15 c19 c21 (Or.inl c9)
  · exact isSt_no c15 c19 c21 (Or.inr c14)
  · exact isSt_yes (ile.mp c9) (ile.mp c14)
  · exact isBk_no c15 c19
end DYW
end PT8x4
section PT8x5
/-! ===== the scribe reads days: a block's end, the loop ===== -/
section DYL
variable {T : Nat → Int32} {e a d : Nat} {N : Nat → Int64} {I : Im} {J : Jm} {R : Rm} {Q : Qt} {p M : Nat}
theorem px_end {s : DS} (hO : isO 112 p 2 = true) (hs : SDs s p I) (hD : DOk s) (h : Rd T e a I J) (hE : ∀ q I2 J2, dyE T e s a = .error q → FrY p I J I2 J2 → Ft q I2 → Q 0 0 I2 J2 R) (hK : ∀ s2 b I2 J2, dyE T e s a = .ok (s2, b) → FrY p I J I2 J2 → Rd T e b I2 J2 → SDs s2 p I2 → DOk s2 → Q 1 0 I2 J2 R) : AM (d + 5) 34 112 [.ref 7, .ref p, .ref 3] I J R Q := by
  have hp := p_ge hO
  obtain ⟨h30, h3, hLL, ho4, -⟩ := id hD
  have eE : dyE T e s a = if dD s = 0 then .error (mis T e a) else rb (tkS T e (tB (tok T e a))) fun _ b => .ok (dsE s, b) := rfl
  refine w_X3_readEnd ?_
  rw [hs.2.2.1]
  refine ⟨fun c1 => ?_, fun c1 => ?_⟩
  · have n0 : ¬ dD s = 0 := by have := (nle_nI (a := 1) (by omega) (by omega)).mp c1; omega
    rw [if_neg n0] at eE
    obtain ⟨k, hk⟩ : ∃ k, dD s = k + 1 := ⟨dD s - 1, by omega⟩
    have hb := ho4 k (by omega)
    refine px_any h (fun I1 J1 hF1 h1 _ _ => bif_t hO ?_)
    have hs1 := hs.fr (by omega) hF1
    rw [hs1.2.2.1, hk, nI_pred]
    have e2 : uI I1 7 1 (nI k) p 2 = nI (dL s) := (rd_ne (by first | decide | omega)).trans hs1.2.1
    refine px_addD hO (by omega) e2 (fun _ => ⟨fun _ => ?_, fun z => absurd z (by decide)⟩)
    have q7 : adI (uI I1 7 1 (nI k)) p (dL s) (20, 0, 0, 0) 7 1 = nI k := by rw [adI_o (by omega)]; exact rd_eq
    have q8 : adI (uI I1 7 1 (nI k)) p (dL s) (20, 0, 0, 0) 8 k = nI (dO s k) := by rw [adI_o (by omega), rd_ne (by first | decide | omega)]; exact hs1.2.2.2.1 k (by omega)
    have q2 : adI (uI I1 7 1 (nI k)) p (dL s) (20, 0, 0, 0) p 2 = nI (dL s + 1) := ad_p2
    show vp_in (adI (uI I1 7 1 (nI k)) p (dL s) (20, 0, 0, 0) 7 1) 3 ∧ (bif isO 112 p 2 then (bif isO 112 p 2 then AM (d + 4) 31 112 [.ref p, .int (adI (uI I1 7 1 (nI k)) p (dL s) (20, 0, 0, 0) 8 (Int32.toNatClampNeg (adI (uI I1 7 1 (nI k)) p (dL s) (20, 0, 0, 0) 7 1))), .int ((adI (uI I1 7 1 (nI k)) p (dL s) (20, 0, 0, 0) p 2) - 1)] (adI (uI I1 7 1 (nI k)) p (dL s) (20, 0, 0, 0)) J1 R _ else False) else False)
    rw [q7, tn_nI (by omega), q8, q2, nI_pred]
    refine ⟨vp_nI (by omega) (by omega), bif_t hO (bif_t hO (px_pairD hO (L := dL s + 1) (by omega) (by omega) (by omega) q2 ?_))⟩
    have hF3 : FrY p I J (uI (uI (adI (uI I1 7 1 (nI k)) p (dL s) (20, 0, 0, 0)) (p + 5) (dO s k) (nI (dL s))) (p + 5) (dL s) (nI (dO s k))) J1 := ((FrY.ad (hF1.y.u (Or.inr (Or.inl rfl)))).u (Or.inr (Or.inr (Or.inr (by omega))))).u (Or.inr (Or.inr (Or.inr (by omega))))
    have hs3 : SDs (dsE s) p (uI (uI (adI (uI I1 7 1 (nI k)) p (dL s) (20, 0, 0, 0)) (p + 5) (dO s k) (nI (dL s))) (p + 5) (dL s) (nI (dO s k))) := by
      have hd : dD (dsE s) = k := by show dD s - 1 = k; omega
      refine ⟨?_, ?_, ?_, fun j hj => ?_, fun j hj => ?_⟩
      · rw [rd_ne (by first | decide | omega), rd_ne (by first | decide | omega), ad_p1, rd_ne (by first | decide | omega)]; exact hs1.1
      · rw [rd_ne (by first | decide | omega), rd_ne (by first | decide | omega)]; exact ad_p2
      · rw [rd_ne (by first | decide | omega), rd_ne (by first | decide | omega), hd]; exact q7
      · rw [hd] at hj
        rw [rd_ne (by first | decide | omega), rd_ne (by first | decide | omega), adI_o (by omega), rd_ne (by first | decide | omega)]; exact hs1.2.2.2.1 j (by omega)
      · have hj2 : j < dL s + 1 := hj
        have o1 : ∀ c, ¬ c = p + 5 → uI (uI (adI (uI I1 7 1 (nI k)) p (dL s) (20, 0, 0, 0)) (p + 5) (dO s k) (nI (dL s))) (p + 5) (dL s) (nI (dO s k)) c = adI (uI I1 7 1 (nI k)) p (dL s) (20, 0, 0, 0) c := fun c hc => (uI_ne hc).trans (uI_ne hc)
        rw [o1 (p + 1) (by omega), o1 (p + 2) (by omega), o1 (p + 3) (by omega), o1 (p + 4) (by omega), ad_1, ad_2, ad_3, ad_4]
        have eC : dC (dsE s) j = if j = dL s then (20, 0, 0, 0) else dC s j := rfl
        have eM : dM (dsE s) j = if j = dL s then dO s (dD s - 1) else if j = dO s (dD s - 1) then dL s else if j = dL s then dL s else dM s j := rfl
        rw [eC, eM, show dD s - 1 = k by omega]
        by_cases q : j = dL s
        · subst q
          rw [if_pos rfl, if_pos rfl, if_pos rfl, if_pos rfl, if_pos rfl, if_pos rfl, rd_eq]
          exact ⟨rfl, rfl, rfl, rfl, rfl⟩
        · have old := hs1.2.2.2.2 j (by omega)
          rw [if_neg q, if_neg q, if_neg q, if_neg q, if_neg q, if_neg q, if_neg q, rd_k q, rd_ne (show ¬ p + 1 = 7 by omega), rd_ne (show ¬ p + 2 = 7 by omega), rd_ne (show ¬ p + 3 = 7 by omega), rd_ne (show ¬ p + 4 = 7 by omega)]
          refine ⟨old.1, old.2.1, old.2.2.1, old.2.2.2.1, ?_⟩
          by_cases q2 : j = dO s k
          · subst q2; rw [if_pos rfl, rd_eq]
          · rw [if_neg q2, rd_k q2, ad_5, if_neg q, rd_ne (by first | decide | omega)]; exact old.2.2.2.2
    have hR3 : Rd T e (tB (tok T e a)) (uI (uI (adI (uI I1 7 1 (nI k)) p (dL s) (20, 0, 0, 0)) (p + 5) (dO s k) (nI (dL s))) (p + 5) (dL s) (nI (dO s k))) J1 :=
      h1.o ((uI_ne (by first | decide | omega)).trans ((uI_ne (by first | decide | omega)).trans ((adI_o (by omega)).trans (uI_ne (by decide))))) ((uI_ne (by first | decide | omega)).trans ((uI_ne (by first | decide | omega)).trans ((adI_o (by omega)).trans (uI_ne (by decide))))) rfl rfl
    exact px_semi hR3 (fun q I4 J4 hq hF4 hf _ => ⟨Or.inl rfl, hE q I4 J4 (by rw [eE]; exact rb_e hq) (hF3.tr hF4.y) hf⟩) (fun b I4 J4 hq hF4 h4 _ => ⟨Or.inr rfl, hK _ b I4 J4 (by rw [eE, rb_k hq]) (hF3.tr hF4.y) h4 (hs3.fr (by omega) hF4) (hD.e n0)⟩)
  · have e0 : dD s = 0 := by
      rcases Nat.eq_zero_or_pos (dD s) with z | z
      · exact z
      · exact absurd ((nle_nI (a := 1) (by omega) (by omega)).mpr z) c1
    rw [if_pos e0] at eE
    exact px_mis h (fun I2 J2 hF hf _ => ⟨Or.inl rfl, hE _ I2 J2 eE hF.y hf⟩)
theorem px_intoD {o : Nat} (hO : isO 112 p 2 = true) (hN : isO 112 o 0 = true) (hop : o + 5 < p ∨ p + 5 < o) (hm : MnA N M o I J) (h : Rd T e 0 I J) (hE : ∀ q I2 J2, dyB T e N M (e + 1) ds0 0 = .error q → FrY p I J I2 J2 → Ft q I2 → Q 0 0 I2 J2 R) (hK : ∀ s b I2 J2, dyB T e N M (e + 1) ds0 0 = .ok (s, b) → FrY p I J I2 J2 → Rd T e b I2 J2 → SDs s p I2 → I2 p 0 = 1 → DOk s → Q 1 0 I2 J2 R) : AM (d + 7) 33 112 [.ref 7, .ref p, .ref o, .ref 3] I J R Q := by
  have hp := p_ge hO
  have ho := o_ge hN
  have he := h.e
  refine am_X3_readInto (fun P hc => sg_X3_readInto_0 hc _ _ _ _ _ (bif_t hO (px_forgetD hO ?_)))
  have hFs : FrY p I J (uI (uI (uI (uI I p 0 0) p 1 0) p 2 0) 7 1 0) J := (((FrW.rf.u (Or.inr (Or.inr (Or.inr (by omega))))).u (Or.inr (Or.inr (Or.inr (by omega))))).u (Or.inr (Or.inr (Or.inr (by omega))))).u (Or.inr (Or.inl rfl))
  have Z : ∀ (q : Nat × Nat) (v5 : Int32) (I2 : Im) (J2 : Jm), dyB T e N M (e + 1) ds0 0 = .error q → FrY p I J I2 J2 → Ft q I2 → P 15 112 [(0, .ref 7), (1, .ref p), (2, .ref o), (3, .ref 3), (4, .int 0), (5, .int v5)] [] I2 J2 R := by
    intro q v5 I2 J2 hq hF hf
    have g : bif isO 112 p 2 then (((0 : Int32) = 0 ∨ (0 : Int32) = 1) ∧ (((0 : Int32) = 0 ∨ (0 : Int32) = 1) ∧ Q 0 0 (uI I2 p 0 0) J2 R)) else False := bif_t hO ⟨Or.inl rfl, Or.inl rfl, hE q _ J2 hq (hF.u (Or.inr (Or.inr (Or.inr (by omega))))) (hf.w_ (by omega))⟩
    exact sg_X3_readInto_15 hc _ _ _ _ _ _ _ ⟨fun _ => ⟨fun _ => g, fun z => absurd rfl z⟩, fun _ => ⟨fun _ => ⟨fun _ => g, fun z => absurd rfl z⟩, fun z => absurd rfl z⟩⟩
  have L : ∀ (f j a : Nat) (s : DS) (I2 : Im) (J2 : Jm), e < a + f → j ≤ a → dyB T e N M (e + 1) ds0 0 = dyB T e N M f s a → DOk s → FrY p I J I2 J2 → Rd T e a I2 J2 → SDs s p I2 → P 15 112 [(0, .ref 7), (1, .ref p), (2, .ref o), (3, .ref 3), (4, .int 1), (5, .int (nI j))] [] I2 J2 R := by
    intro f
    induction f with
    | zero => intro j a s I2 J2 hf hj hr hD hF hR hs; have := hR.a; omega
    | succ f ih =>
      intro j a s I2 J2 hf hj hr hD hF hR hs
      have ha := hR.a
      have eB : dyB T e N M (f + 1) s a = if tK (tok T e a) = 0 then (if dD s = 0 then .ok (s, a) else .error (mis T e a)) else rb (if tI (tok T e a) = 20 then dyE T e s a else dyS T e N M s a) fun s b => dyB T e N M f s b := rfl
      have h3 := hD.2.1
      have W : tK (tok T e a) = 0 → (((1 : Int32) = 0 → (bif isO 112 p 2 then (((1 : Int32) = 0 ∨ (1 : Int32) = 1) ∧ (((1 : Int32) = 0 ∨ (1 : Int32) = 1) ∧ Q 1 0 (uI I2 p 0 1) J2 R)) else False)) ∧ (¬ (1 : Int32) = 0 → ((I2 7 1 ≤ (0 : Int32) → (bif isO 112 p 2 then (((1 : Int32) = 0 ∨ (1 : Int32) = 1) ∧ (((1 : Int32) = 0 ∨ (1 : Int32) = 1) ∧ Q 1 0 (uI I2 p 0 1) J2 R)) else False)) ∧ (¬ I2 7 1 ≤ (0 : Int32) → AM (d + 6) 66 112 [.ref 3] I2 J2 R (fun x1 y1 I1 J1 R1 => (x1 = 0 ∨ x1 = 1) → (bif isO 112 p 2 then (((x1 : Int32) = 0 ∨ (x1 : Int32) = 1) ∧ (((x1 : Int32) = 0 ∨ (x1 : Int32) = 1) ∧ Q x1 0 (uI I1 p 0 x1) J1 R)) else False)))))) := by
        intro k0
        rw [if_pos k0] at eB
        refine ⟨fun z => absurd z (by decide), fun _ => ?_⟩
        rw [hs.2.2.1]
        refine ⟨fun c => ?_, fun c => ?_⟩
        · have d0 : dD s = 0 := by have := (nle_nI (b := 0) (by omega) (by omega)).mp c; omega
          rw [if_pos d0] at eB
          refine bif_t hO ⟨Or.inr rfl, Or.inr rfl, hK s a _ J2 (hr.trans eB) (hF.u (Or.inr (Or.inr (Or.inr (by omega))))) (hR.o (uI_ne (by first | decide | omega)) (uI_ne (by first | decide | omega)) rfl rfl) ⟨?_, ?_, ?_, fun k hk => ?_, fun k hk => ?_⟩ rd_eq hD⟩
          · rw [rd_k (by decide)]; exact hs.1
          · rw [rd_k (by decide)]; exact hs.2.1
          · rw [rd_ne (by first | decide | omega)]; exact hs.2.2.1
          · rw [rd_ne (by first | decide | omega)]; exact hs.2.2.2.1 k hk
          · rw [rd_ne (by first | decide | omega), rd_ne (by first | decide | omega), rd_ne (by first | decide | omega), rd_ne (by first | decide | omega), rd_ne (by first | decide | omega)]; exact hs.2.2.2.2 k hk
        · have d0 : ¬ dD s = 0 := fun z => c (by rw [z]; decide)
          rw [if_neg d0] at eB
          exact px_mis hR (fun I3 J3 hF3 hf3 _ => bif_t hO ⟨Or.inl rfl, Or.inl rfl, hE _ _ J3 (hr.trans eB) ((hF.tr hF3.y).u (Or.inr (Or.inr (Or.inr (by omega))))) (hf3.w_ (by omega))⟩)
      refine sg_X3_readInto_15 hc _ _ _ _ _ _ _ ⟨fun c9 => W ?_, fun c9 => ⟨fun z => absurd z (by decide), fun _ => ⟨fun c8 => W ((hR.k_is (n := 0) (by omega)).mp c8), fun c8 => ?_⟩⟩⟩
      · have := (nle_nI (a := 900) (by omega) (by omega)).mp c9
        have ae : a = e := by omega
        have hb := tB_le (T := T) (e := e) (a := a) ha
        rcases Nat.eq_zero_or_pos (tK (tok T e a)) with z | z
        · exact z
        · have := tB_lt (T := T) ha (by omega); omega
      · have k0 : ¬ tK (tok T e a) = 0 := fun z => c8 ((hR.k_is (n := 0) (by omega)).mpr z)
        rw [if_neg k0] at eB
        rw [hR.w, nI_k1]
        have hj9 : j < 900 := by
          rcases Nat.lt_or_ge j 900 with z | z
          · exact z
          · exact absurd ((nle_nI (a := 900) (by omega) (by omega)).mpr z) c9
        refine ⟨fun c20 => ?_, fun c20 => ?_⟩
        · rw [if_neg c20] at eB
          exact px_step hO hN hop (hm.y ho hop hF) hs hD hR (fun q I3 J3 hq hF3 hf3 _ => Z q _ I3 J3 (by rw [hr, eB]; exact rb_e hq) (hF.tr hF3) hf3) (fun s2 b I3 J3 hq hF3 h3 hs3 hD3 _ => by
            have hu := up_dyS (T := T) (e := e) (N := N) (M := M) (s := s) ha
            rw [hq] at hu
            have hu1 : a < b := hu.1
            exact ih (j + 1) b s2 I3 J3 (by omega) (by omega) (by rw [hr, eB, rb_k hq]) hD3 (hF.tr hF3) h3 hs3)
        · rw [if_pos c20] at eB
          exact px_end hO hs hD hR (fun q I3 J3 hq hF3 hf3 _ => Z q _ I3 J3 (by rw [hr, eB]; exact rb_e hq) (hF.tr hF3) hf3) (fun s2 b I3 J3 hq hF3 h3 hs3 hD3 _ => by
            have hu := up_dyE (T := T) (e := e) (s := s) ha c20
            rw [hq] at hu
            have hu1 : a < b := hu.1
            exact ih (j + 1) b s2 I3 J3 (by omega) (by omega) (by rw [hr, eB, rb_k hq]) hD3 (hF.tr hF3) h3 hs3)
  refine L (e + 1) 0 0 ds0 _ J (by omega) (Nat.le_refl _) rfl DOk.z hFs (h.o ((uI_ne (by decide)).trans ((uI_ne (by first | decide | omega)).trans ((uI_ne (by first | decide | omega)).trans (uI_ne (by first | decide | omega))))) ((uI_ne (by decide)).trans ((uI_ne (by first | decide | omega)).trans ((uI_ne (by first | decide | omega)).trans (uI_ne (by first | decide | omega))))) rfl rfl) ⟨?_, ?_, ?_, fun k hk => absurd hk (by show ¬ k < 0; omega), fun k hk => absurd hk (by show ¬ k < 0; omega)⟩
  · rw [rd_ne (by first | decide | omega), rd_k (by decide)]; exact rd_eq
  · rw [rd_ne (by first | decide | omega)]; exact rd_eq
  · exact rd_eq
end DYL
end PT8x5
section PT8x6
/-! ===== the reference reads days: small pieces ===== -/
section RDA
variable {T : Nat → Int32} {e a d m : Nat} {N : Nat → Int64} {I : Im} {J : Jm} {R : Rm} {Q : Qt}
noncomputable def MnR (N : Nat → Int64) (m : Nat) (I : Im) (J : Jm) : Prop := m ≤ 6 ∧ I 102 0 = nI m ∧ ∀ k, k < m → J 104 k = N k
theorem MnR.fr {I2 : Im} {J2 : Jm} (h : MnR N m I J) (hF : FrM I J I2 J2) : MnR N m I2 J2 :=
  ⟨h.1, (hF.i (by intro q; have := q.1; omega)).trans h.2.1, fun k hk => (hF.j (by intro q; have := q.1; omega)).trans (h.2.2 k hk)⟩
theorem MnR.w {w : Nat} {v : Int32} (h : MnR N m I J) (hw : 1 ≤ w) : MnR N m (uI I 102 w v) J := ⟨h.1, (rd_k (by omega)).trans h.2.1, h.2.2⟩
theorem px_told (hm : MnR N m I J) (h : Mr T e a I J) (hE : ∀ q I2 J2, tkH T e N m a = .error q → FrM I J I2 J2 → FtM q I2 → Q 0 0 I2 J2 R) (hK : ∀ v b I2 J2, tkH T e N m a = .ok (v, b) → FrM I J I2 J2 → Mr T e b I2 J2 → Q v 0 I2 J2 R) : AM (d + 5) 227 112 [.ref 97, .int 0] I J R Q := by
  have hm6 := hm.1
  have eH : tkH T e N m a = rb (tkM T e a) fun w b => if nmG N w m 0 = -1 then .error (3, tS (tok T e a)) else .ok (nmG N w m 0, b) := rfl
  have eM : tkM T e a = if tI (tok T e a) = 0 then (if tW (tok T e a) = 0 then .error (mis T e a) else .ok (tW (tok T e a), tB (tok T e a))) else .error (mis T e a) := rfl
  refine am_X12_readTold (fun P hc => sg_X12_readTold_0 hc _ _ _ _ ⟨fun c => absurd h.f c, fun _ => px_isName h (fun i0 w0 _ => ⟨fun _ => ?_, fun z => absurd z (by decide)⟩) (fun hn _ => ⟨fun z => absurd rfl z, fun _ => px_amiss h (fun I2 hF hf => ?_)⟩)⟩)
  · rw [if_pos i0, if_neg w0] at eM
    have hk : tK (tok T e a) = 1 := tI_k (by rw [i0]; decide)
    have hw : J 97 19 = tW (tok T e a) := by rw [h.w hk, if_neg w0]
    rw [rb_k eM] at eH
    refine sg_X12_readTold_18 hc _ _ _ _ ⟨fun _ => px_mnamed (b := 0) (N := N) rfl rfl (by omega) hm.1 hm.2.1 (fun k hk => by rw [Nat.mul_zero, Nat.zero_add]; exact hm.2.2 k hk) hw ?_, fun c => absurd h.le.1 c⟩
    have hin := nmG_in (N := N) (w := tW (tok T e a)) m 0
    generalize nmG N (tW (tok T e a)) m 0 = x at eH hin
    rcases hin with rfl | ⟨j, -, hj, rfl⟩
    · rw [if_pos rfl] at eH
      exact ⟨fun c => absurd c (by decide), fun _ => px_fail (k := 3) h (by decide) h.s (fun I2 hF hf => px_mustB hf (hE _ I2 J eH hF hf))⟩
    · have hj6 : j < 2 ^ 31 := by have := hm.1; omega
      have nj : ¬ nI j = -1 := fun z => by
        have := congrArg Int32.toInt z
        rw [nI_toInt hj6] at this
        have e1 : (-1 : Int32).toInt = -1 := rfl
        omega
      rw [if_neg nj] at eH
      refine ⟨fun _ => px_mustY h (fun I2 J2 hF h2 => ?_), fun c => absurd ?_ c⟩
      · have ex : (if (0 : Int32) < nI j then nI j else 0) = nI j := by
          by_cases z : (0 : Int32) < nI j
          · rw [if_pos z]
          · rw [if_neg z]
            rcases Nat.eq_zero_or_pos j with y | y
            · rw [y]; rfl
            · exact absurd ((nlt_nI (a := 0) (by omega) (by omega)).mpr y) z
        rw [ex]
        exact hK _ _ I2 J2 eH hF h2
      · exact (nle_nI (a := 0) (by omega) (by omega)).mpr (by omega)
  · have e2 : tkM T e a = .error (mis T e a) := by
      rw [eM]
      by_cases z : tI (tok T e a) = 0
      · rw [if_pos z, if_pos (hn.resolve_left (fun y => y z))]
      · rw [if_neg z]
    exact sg_X12_readTold_18 hc _ _ _ _ ⟨fun c => absurd c hf.ne.2.1, fun _ => hE _ I2 J (by rw [eH]; exact rb_e e2) hF hf⟩
theorem px_toldB {q : Nat × Nat} (hf : FtM q I) (hQ : Q 0 0 I J R) : AM (d + 5) 227 112 [.ref 97, .int 0] I J R Q :=
  am_X12_readTold (fun P hc => sg_X12_readTold_0 hc _ _ _ _ ⟨fun _ => sg_X12_readTold_18 hc _ _ _ _ ⟨fun c => absurd c hf.ne.2.1, fun _ => hQ⟩, fun c => absurd c hf.ne.1⟩)
end RDA
end PT8x6
section PT8x7
/-! ===== the reference reads days: a step's words ===== -/
noncomputable abbrev WK (w : Nat) : Nat → Nat → Prop := fun c k => WM msB c k ∨ (c = 102 ∧ w < k ∧ k < w + 8)
noncomputable abbrev FrK (w : Nat) (I : Im) (J : Jm) (I2 : Im) (J2 : Jm) : Prop := FrW (WK w) VM I J I2 J2
theorem FrW.k8 {w : Nat} {I I2 : Im} {J J2 : Jm} (h : FrM I J I2 J2) : FrK w I J I2 J2 := h.up (fun _ _ q => Or.inl q) (fun _ _ q => q)
/-- a step's record says what its code says -/
noncomputable def RcO (c : CD) (f : Nat → Int32) (w : Nat) : Prop :=
  (c.1 = 9 → f (w + 1) = c.2.1 ∧ f (w + 2) = c.2.2.1 ∧ f (w + 3) = c.2.2.2) ∧ ((c.1 = 10 ∨ c.1 = 11 ∨ c.1 = 12) → f (w + 1) = c.2.1 ∧ f (w + 2) = c.2.2.1) ∧ ((c.1 = 13 ∨ c.1 = 19) → f (w + 1) = c.2.1) ∧ (isTs c.1 = true → f (w + 5) = teW c.1 ∧ f (w + 1) = c.2.1) ∧ ((c.1 = 17 ∨ c.1 = 18) → f (w + 7) = c.2.2.1 ∧ f (w + 6) = c.2.2.2)
theorem RcO.cut {x y z : Int32} {f : Nat → Int32} {w : Nat} (h1 : f (w + 1) = x) (h2 : f (w + 2) = y) (h3 : f (w + 3) = z) : RcO (9, x, y, z) f w :=
  ⟨fun _ => ⟨h1, h2, h3⟩, fun q => absurd q (show ¬ ((9 : Int32) = 10 ∨ (9 : Int32) = 11 ∨ (9 : Int32) = 12) by decide), fun q => absurd q (show ¬ ((9 : Int32) = 13 ∨ (9 : Int32) = 19) by decide), fun q => absurd q (show ¬ isTs 9 = true by decide), fun q => absurd q (show ¬ ((9 : Int32) = 17 ∨ (9 : Int32) = 18) by decide)⟩
theorem RcO.two {k x y z : Int32} {f : Nat → Int32} {w : Nat} (hk : k = 10 ∨ k = 11 ∨ k = 12) (h1 : f (w + 1) = x) (h2 : f (w + 2) = y) : RcO (k, x, y, z) f w := by
  rcases hk with rfl | rfl | rfl
  · exact ⟨fun q => absurd q (show ¬ (10 : Int32) = 9 by decide), fun _ => ⟨h1, h2⟩, fun q => absurd q (show ¬ ((10 : Int32) = 13 ∨ (10 : Int32) = 19) by decide), fun q => absurd q (show ¬ isTs 10 = true by decide), fun q => absurd q (show ¬ ((10 : Int32) = 17 ∨ (10 : Int32) = 18) by decide)⟩
  · exact ⟨fun q => absurd q (show ¬ (11 : Int32) = 9 by decide), fun _ => ⟨h1, h2⟩, fun q => absurd q (show ¬ ((11 : Int32) = 13 ∨ (11 : Int32) = 19) by decide), fun q => absurd q (show ¬ isTs 11 = true by decide), fun q => absurd q (show ¬ ((11 : Int32) = 17 ∨ (11 : Int32) = 18) by decide)⟩
  · exact ⟨fun q => absurd q (show ¬ (12 : Int32) = 9 by decide), fun _ => ⟨h1, h2⟩, fun q => absurd q (show ¬ ((12 : Int32) = 13 ∨ (12 : Int32) = 19) by decide), fun q => absurd q (show ¬ isTs 12 = true by decide), fun q => absurd q (show ¬ ((12 : Int32) = 17 ∨ (12 : Int32) = 18) by decide)⟩
theorem RcO.one {k x y z : Int32} {f : Nat → Int32} {w : Nat} (hk : k = 13 ∨ k = 19) (h1 : f (w + 1) = x) : RcO (k, x, y, z) f w := by
  rcases hk with rfl | rfl
  · exact ⟨fun q => absurd q (show ¬ (13 : Int32) = 9 by decide), fun q => absurd q (show ¬ ((13 : Int32) = 10 ∨ (13 : Int32) = 11 ∨ (13 : Int32) = 12) by decide), fun _ => h1, fun q => absurd q (show ¬ isTs 13 = true by decide), fun q => absurd q (show ¬ ((13 : Int32) = 17 ∨ (13 : Int32) = 18) by decide)⟩
  · exact ⟨fun q => absurd q (show ¬ (19 : Int32) = 9 by decide), fun q => absurd q (show ¬ ((19 : Int32) = 10 ∨ (19 : Int32) = 11 ∨ (19 : Int32) = 12) by decide), fun _ => h1, fun q => absurd q (show ¬ isTs 19 = true by decide), fun q => absurd q (show ¬ ((19 : Int32) = 17 ∨ (19 : Int32) = 18) by decide)⟩
theorem RcO.none {k x y z : Int32} {f : Nat → Int32} {w : Nat} (hk : k = 14 ∨ k = 21) : RcO (k, x, y, z) f w := by
  rcases hk with rfl | rfl
  · exact ⟨fun q => absurd q (show ¬ (14 : Int32) = 9 by decide), fun q => absurd q (show ¬ ((14 : Int32) = 10 ∨ (14 : Int32) = 11 ∨ (14 : Int32) = 12) by decide), fun q => absurd q (show ¬ ((14 : Int32) = 13 ∨ (14 : Int32) = 19) by decide), fun q => absurd q (show ¬ isTs 14 = true by decide), fun q => absurd q (show ¬ ((14 : Int32) = 17 ∨ (14 : Int32) = 18) by decide)⟩
  · exact ⟨fun q => absurd q (show ¬ (21 : Int32) = 9 by decide), fun q => absurd q (show ¬ ((21 : Int32) = 10 ∨ (21 : Int32) = 11 ∨ (21 : Int32) = 12) by decide), fun q => absurd q (show ¬ ((21 : Int32) = 13 ∨ (21 : Int32) = 19) by decide), fun q => absurd q (show ¬ isTs 21 = true by decide), fun q => absurd q (show ¬ ((21 : Int32) = 17 ∨ (21 : Int32) = 18) by decide)⟩
section RDB
variable {T : Nat → Int32} {e a d m w : Nat} {N : Nat → Int64} {I : Im} {J : Jm} {R : Rm} {Q : Qt}
theorem wk_k {k : Nat} (hw : w + k < 2 ^ 31) : nI w + nI k = nI (w + k) := nI_add w k
theorem FrW.r8 {I2 : Im} {J2 : Jm} {k : Nat} {v : Int32} (h : FrK w I J I2 J2) (hk : w < k ∧ k < w + 8) : FrK w I J (uI I2 102 k v) J2 := h.u (Or.inr ⟨rfl, hk.1, hk.2⟩)
/-- a number goes into the record -/
theorem px_cnW {lo hi : Int32} {k : Nat} (hw : w + k < 1620) (hk : w < k + w) (h : Mr T e a I J) (Q1 : Int32 → Im → Jm → Prop) (hE : ∀ q I2 J2, tkN T e lo hi a = .error q → FrM I J I2 J2 → FtM q I2 → Q1 0 (uI I2 102 (w + k) 0) J2) (hK : ∀ v b I2 J2, tkN T e lo hi a = .ok (v, b) → lo ≤ v → v ≤ hi → FrM I J I2 J2 → Mr T e b I2 J2 → Q1 v (uI I2 102 (w + k) v) J2) : AM (d + 4) 216 112 [.ref 97, .int lo, .int hi] I J R (fun x _ I2 J2 _ => vp_in (nI w + nI k) 1620 ∧ Q1 x (uI I2 102 (Int32.toNatClampNeg (nI w + nI k)) x) J2) := by
  have e1 := wk_k (w := w) (k := k) (by omega)
  refine px_count h (fun q I2 hq hF hf => ?_) (fun v b I2 J2 hv l1 l2 hF h2 => ?_)
  · rw [e1, tn_nI (by omega)]
    exact ⟨vp_of (a := ((w + k : Nat) : Int)) (nI_toInt (by omega)) (by omega) (by omega), hE q I2 J hq hF hf⟩
  · rw [e1, tn_nI (by omega)]
    exact ⟨vp_of (a := ((w + k : Nat) : Int)) (nI_toInt (by omega)) (by omega) (by omega), hK v b I2 J2 hv l1 l2 hF h2⟩
theorem px_cnB {q : Nat × Nat} {lo hi : Int32} {k : Nat} (hw : w + k < 1620) (hf : FtM q I) (Q1 : Int32 → Im → Jm → Prop) (hQ : Q1 0 (uI I 102 (w + k) 0) J) : AM (d + 4) 216 112 [.ref 97, .int lo, .int hi] I J R (fun x _ I2 J2 _ => vp_in (nI w + nI k) 1620 ∧ Q1 x (uI I2 102 (Int32.toNatClampNeg (nI w + nI k)) x) J2) := by
  have e1 := wk_k (w := w) (k := k) (by omega)
  refine px_countB hf ?_
  rw [e1, tn_nI (by omega)]
  exact ⟨vp_of (a := ((w + k : Nat) : Int)) (nI_toInt (by omega)) (by omega) (by omega), hQ⟩
theorem px_rcut (hw : w + 8 ≤ 1620) (h : Mr T e a I J) {P : Kt} (hc : Cl (AM (d + 6)) true false 0 (fun _ => 0) 0 112 kX12_readRest (fun _ => Q) P) (hE : ∀ q I2 J2, dyA T e N m 9 a = .error q → FrK w I J I2 J2 → FtM q I2 → Q 0 0 I2 J2 R) (hK : ∀ c b I2 J2, dyA T e N m 9 a = .ok (c, b) → FrK w I J I2 J2 → Mr T e b I2 J2 → RcO c (I2 102) w → Q 0 0 I2 J2 R) : P 13 112 [(0, .ref 97), (1, .int (nI w)), (3, .int 1)] [] I J R := by
  have e9 : dyA T e N m 9 a = rb (tkN T e 1 30 a) fun x b => rb (tkN T e 1 30 b) fun y b => rb (tkN T e 1 30 b) fun z b => .ok ((9, x, y, z), b) := rfl
  have Z4 : ∀ I2 J2, Q 0 0 I2 J2 R → P 13 112 [(0, .ref 97), (1, .int (nI w)), (3, .int (nI 4))] [] I2 J2 R := fun I2 J2 hq => sg_X12_readRest_13 hc _ _ _ _ _ ⟨fun _ => hq, fun c => absurd (show (4 : Int32) ≤ nI 4 by decide) c⟩
  have Z3 : ∀ q I2 J2, dyA T e N m 9 a = .error q → FrK w I J I2 J2 → FtM q I2 → P 13 112 [(0, .ref 97), (1, .int (nI w)), (3, .int (nI 3))] [] I2 J2 R := fun q I2 J2 hq hF hf => sg_X12_readRest_13 hc _ _ _ _ _ ⟨fun c => absurd c (by decide), fun _ => px_cnB (k := 3) (by omega) hf (fun _ I3 J3 => P 13 112 [(0, .ref 97), (1, .int (nI w)), (3, .int (nI 4))] [] I3 J3 R) (Z4 _ _ (hE q _ J2 hq (hF.r8 (by omega)) (hf.w_ (Or.inl (by decide)))))⟩
  have Z2 : ∀ q I2 J2, dyA T e N m 9 a = .error q → FrK w I J I2 J2 → FtM q I2 → P 13 112 [(0, .ref 97), (1, .int (nI w)), (3, .int (nI 2))] [] I2 J2 R := fun q I2 J2 hq hF hf => sg_X12_readRest_13 hc _ _ _ _ _ ⟨fun c => absurd c (by decide), fun _ => px_cnB (k := 2) (by omega) hf (fun _ I3 J3 => P 13 112 [(0, .ref 97), (1, .int (nI w)), (3, .int (nI 3))] [] I3 J3 R) (Z3 q _ J2 hq (hF.r8 (by omega)) (hf.w_ (Or.inl (by decide))))⟩
  refine sg_X12_readRest_13 hc _ _ _ _ _ ⟨fun c => absurd c (by decide), fun _ => px_cnW (k := 1) (by omega) (by omega) h (fun _ I3 J3 => P 13 112 [(0, .ref 97), (1, .int (nI w)), (3, .int (nI 2))] [] I3 J3 R) (fun q I2 J2 hq hF hf => Z2 q _ J2 (by rw [e9]; exact rb_e hq) (hF.k8.r8 (by omega)) (hf.w_ (Or.inl (by decide)))) (fun x b I2 J2 hx _ _ hF h2 => ?_)⟩
  have hF2 : FrK w I J (uI I2 102 (w + 1) x) J2 := hF.k8.r8 (by omega)
  refine sg_X12_readRest_13 hc _ _ _ _ _ ⟨fun c => absurd c (by decide), fun _ => px_cnW (k := 2) (by omega) (by omega) (h2.w_ (Or.inl (by decide)) (by decide)) (fun _ I3 J3 => P 13 112 [(0, .ref 97), (1, .int (nI w)), (3, .int (nI 3))] [] I3 J3 R) (fun q I3 J3 hq hF3 hf => Z3 q _ J3 (by rw [e9, rb_k hx]; exact rb_e hq) ((hF2.tr hF3.k8).r8 (by omega)) (hf.w_ (Or.inl (by decide)))) (fun y b3 I3 J3 hy _ _ hF3 h3 => ?_)⟩
  have hF4 : FrK w I J (uI I3 102 (w + 2) y) J3 := (hF2.tr hF3.k8).r8 (by omega)
  refine sg_X12_readRest_13 hc _ _ _ _ _ ⟨fun c => absurd c (by decide), fun _ => px_cnW (k := 3) (by omega) (by omega) (h3.w_ (Or.inl (by decide)) (by decide)) (fun _ I3 J3 => P 13 112 [(0, .ref 97), (1, .int (nI w)), (3, .int (nI 4))] [] I3 J3 R) (fun q I4 J4 hq hF5 hf => Z4 _ J4 (hE q _ J4 (by rw [e9, rb_k hx, rb_k hy]; exact rb_e hq) ((hF4.tr hF5.k8).r8 (by omega)) (hf.w_ (Or.inl (by decide))))) (fun z b4 I4 J4 hz _ _ hF5 h4 => Z4 _ J4 (hK (9, x, y, z) b4 _ J4 (by rw [e9, rb_k hx, rb_k hy, rb_k hz]) ((hF4.tr hF5.k8).r8 (by omega)) (h4.w_ (Or.inl (by decide)) (by decide)) (RcO.cut ?_ ?_ rd_eq)))⟩
  · rw [rd_k (by omega), hF5.i (by intro q; exact absurd q.1 (by decide)), rd_k (by omega), hF3.i (by intro q; exact absurd q.1 (by decide)), rd_eq]
  · rw [rd_k (by omega), hF5.i (by intro q; exact absurd q.1 (by decide)), rd_eq]
theorem px_sgn {b : Nat} (hw : w + 8 ≤ 1620) (h : Mr T e b I J) (hE : ∀ q I2 J2, (rb (tkC T e b) fun _ b => tkN T e 0 99 b) = .error q → FrM I J I2 J2 → FtM q I2 → Q 0 0 (uI I2 102 (w + 6) 0) J2 R) (hK : ∀ b2 z b3 I2 J2, tkC T e b = .ok (tV (tok T e b), b2) → tK (tok T e b) = 3 → tkN T e 0 99 b2 = .ok (z, b3) → FrM I J I2 J2 → Mr T e b3 I2 J2 → Q 0 0 (uI I2 102 (w + 6) z) J2 R) : AM (d + 5) 196 112 [.ref 97, .int 60] I J R (fun x4 y4 I4 J4 R4 => (x4 = 0 ∨ x4 = 1) → ((¬ x4 = (0 : Int32) → (AM (d + 5) 214 112 [.ref 97, .int 1] I4 J4 R (fun x5 y5 I5 J5 R5 => (AM (d + 5) 216 112 [.ref 97, .int 0, .int 99] I5 J5 R (fun x9 y9 I9 J9 R9 => (vp_in (nI w + 6) 1620 ∧ Q 0 0 (uI I9 102 (Int32.toNatClampNeg (nI w + 6)) x9) J9 R)))))) ∧ (x4 = (0 : Int32) → (AM (d + 5) 196 112 [.ref 97, .int 62] I4 J4 R (fun x7 y7 I7 J7 R7 => (x7 = 0 ∨ x7 = 1) → ((¬ x7 = (0 : Int32) → (AM (d + 5) 214 112 [.ref 97, .int 1] I7 J7 R (fun x5 y5 I5 J5 R5 => (AM (d + 5) 216 112 [.ref 97, .int 0, .int 99] I5 J5 R (fun x9 y9 I9 J9 R9 => (vp_in (nI w + 6) 1620 ∧ Q 0 0 (uI I9 102 (Int32.toNatClampNeg (nI w + 6)) x9) J9 R)))))) ∧ (x7 = (0 : Int32) → (AM (d + 5) 196 112 [.ref 97, .int 61] I7 J7 R (fun x10 y10 I10 J10 R10 => (x10 = 0 ∨ x10 = 1) → ((x10 = (0 : Int32) → (AM (d + 5) 214 112 [.ref 97, .int 0] I10 J10 R (fun x5 y5 I5 J5 R5 => (AM (d + 5) 216 112 [.ref 97, .int 0, .int 99] I5 J5 R (fun x9 y9 I9 J9 R9 => (vp_in (nI w + 6) 1620 ∧ Q 0 0 (uI I9 102 (Int32.toNatClampNeg (nI w + 6)) x9) J9 R)))))) ∧ (¬ x10 = (0 : Int32) → (AM (d + 5) 214 112 [.ref 97, .int 1] I10 J10 R (fun x5 y5 I5 J5 R5 => (AM (d + 5) 216 112 [.ref 97, .int 0, .int 99] I5 J5 R (fun x9 y9 I9 J9 R9 => (vp_in (nI w + 6) 1620 ∧ Q 0 0 (uI I9 102 (Int32.toNatClampNeg (nI w + 6)) x9) J9 R)))))))))))))))) := by
  have eC : tkC T e b = if tK (tok T e b) = 3 then (if tV (tok T e b) = 59 then .error (mis T e b) else .ok (tV (tok T e b), tB (tok T e b))) else .error (mis T e b) := rfl
  have Y : tK (tok T e b) = 3 → ¬ tV (tok T e b) = 59 → (AM (d + 5) 214 112 [.ref 97, .int 1] I J R (fun x5 y5 I5 J5 R5 => (AM (d + 5) 216 112 [.ref 97, .int 0, .int 99] I5 J5 R (fun x9 y9 I9 J9 R9 => (vp_in (nI w + 6) 1620 ∧ Q 0 0 (uI I9 102 (Int32.toNatClampNeg (nI w + 6)) x9) J9 R))))) := fun k3 n59 => by
    rw [if_pos k3, if_neg n59] at eC
    refine px_mustY h (fun I2 J2 hF h2 => px_cnW (k := 6) (by omega) (by omega) h2 (fun _ I3 J3 => Q 0 0 I3 J3 R) (fun q I3 J3 hq hF3 hf => hE q I3 J3 (by rw [rb_k eC]; exact hq) (hF.tr hF3) hf) (fun z b3 I3 J3 hz _ _ hF3 h3 => hK _ z b3 I3 J3 eC k3 hz (hF.tr hF3) h3))
  have X : ∀ q, tkC T e b = .error q → q = mis T e b → (AM (d + 5) 214 112 [.ref 97, .int 0] I J R (fun x5 y5 I5 J5 R5 => (AM (d + 5) 216 112 [.ref 97, .int 0, .int 99] I5 J5 R (fun x9 y9 I9 J9 R9 => (vp_in (nI w + 6) 1620 ∧ Q 0 0 (uI I9 102 (Int32.toNatClampNeg (nI w + 6)) x9) J9 R))))) := fun q hq eq => by
    refine px_mustN h (fun I2 hF hf => px_cnB (k := 6) (by omega) hf (fun _ I3 J3 => Q 0 0 I3 J3 R) (hE q I2 J (rb_e hq) hF (by rw [eq]; exact hf)))
  refine px_isSign h (fun k3 v _ => ⟨fun _ => Y k3 (by rw [v]; decide), fun z => absurd z (by decide)⟩) (fun n1 _ => ⟨fun z => absurd rfl z, fun _ => ?_⟩)
  refine px_isSign h (fun k3 v _ => ⟨fun _ => Y k3 (by rw [v]; decide), fun z => absurd z (by decide)⟩) (fun n2 _ => ⟨fun z => absurd rfl z, fun _ => ?_⟩)
  refine px_isSign h (fun k3 v _ => ⟨fun z => absurd z (by decide), fun _ => Y k3 (by rw [v]; decide)⟩) (fun n3 _ => ⟨fun _ => ?_, fun z => absurd rfl z⟩)
  by_cases k3 : tK (tok T e b) = 3
  · have v59 : tV (tok T e b) = 59 := by
      rcases tok_sg k3 with z | z | z | z
      · exact z
      · exact absurd z (n1 k3)
      · exact absurd z (n2 k3)
      · exact absurd z (n3 k3)
    rw [if_pos k3, if_pos v59] at eC
    exact X _ eC rfl
  · rw [if_neg k3] at eC
    exact X _ eC rfl
theorem teW_t {i : Int32} (h : isTs i = true) : (i = 16 ∧ teW i = 0) ∨ (i = 17 ∧ teW i = 1) ∨ (i = 18 ∧ teW i = 2) := by
  unfold isTs at h
  rw [Bool.or_eq_true, Bool.or_eq_true, beq_iff_eq, beq_iff_eq, beq_iff_eq] at h
  rcases h with rfl | rfl | rfl
  · exact Or.inl ⟨rfl, rfl⟩
  · exact Or.inr (Or.inl ⟨rfl, rfl⟩)
  · exact Or.inr (Or.inr ⟨rfl, rfl⟩)
theorem teW_n {i : Int32} (h : ¬ isTs i = true) : teW i = -1 := by
  unfold isTs at h
  rw [Bool.or_eq_true, Bool.or_eq_true, beq_iff_eq, beq_iff_eq, beq_iff_eq] at h
  unfold teW
  rw [if_neg (fun z => h (Or.inl z)), if_neg (fun z => h (Or.inr (Or.inl z))), if_neg (fun z => h (Or.inr (Or.inr z)))]
theorem RcO.ev {x : Int32} {f : Nat → Int32} {w : Nat} (h5 : f (w + 5) = 0) (h1 : f (w + 1) = x) : RcO (16, x, 0, 0) f w :=
  ⟨fun q => absurd q (show ¬ (16 : Int32) = 9 by decide), fun q => absurd q (show ¬ ((16 : Int32) = 10 ∨ (16 : Int32) = 11 ∨ (16 : Int32) = 12) by decide), fun q => absurd q (show ¬ ((16 : Int32) = 13 ∨ (16 : Int32) = 19) by decide), fun _ => ⟨h5, h1⟩, fun q => absurd q (show ¬ ((16 : Int32) = 17 ∨ (16 : Int32) = 18) by decide)⟩
theorem RcO.ts {k x y z : Int32} {f : Nat → Int32} {w : Nat} (hk : k = 17 ∨ k = 18) (h5 : f (w + 5) = teW k) (h1 : f (w + 1) = x) (h7 : f (w + 7) = y) (h6 : f (w + 6) = z) : RcO (k, x, y, z) f w := by
  rcases hk with rfl | rfl
  · exact ⟨fun q => absurd q (show ¬ (17 : Int32) = 9 by decide), fun q => absurd q (show ¬ ((17 : Int32) = 10 ∨ (17 : Int32) = 11 ∨ (17 : Int32) = 12) by decide), fun q => absurd q (show ¬ ((17 : Int32) = 13 ∨ (17 : Int32) = 19) by decide), fun _ => ⟨h5, h1⟩, fun _ => ⟨h7, h6⟩⟩
  · exact ⟨fun q => absurd q (show ¬ (18 : Int32) = 9 by decide), fun q => absurd q (show ¬ ((18 : Int32) = 10 ∨ (18 : Int32) = 11 ∨ (18 : Int32) = 12) by decide), fun q => absurd q (show ¬ ((18 : Int32) = 13 ∨ (18 : Int32) = 19) by decide), fun _ => ⟨h5, h1⟩, fun _ => ⟨h7, h6⟩⟩
noncomputable def dyT3 (T : Nat → Int32) (e : Nat) (i x : Int32) (b : Nat) : Rs CD := rb (tkC T e b) fun y b => rb (tkN T e 0 99 b) fun z b => .ok ((i, x, y, z), b)
theorem px_sg2 {b : Nat} {i x y : Int32} (hw : w + 8 ≤ 1620) (hi : i = 17 ∨ i = 18) (h : Mr T e b I J) (hy : tK (tok T e b) = 3 → y = tV (tok T e b)) (g5 : I 102 (w + 5) = teW i) (g1 : I 102 (w + 1) = x) (g7 : I 102 (w + 7) = y) (hE : ∀ q I2 J2, dyT3 T e i x b = .error q → FrK w I J I2 J2 → FtM q I2 → Q 0 0 I2 J2 R) (hK : ∀ c b2 I2 J2, dyT3 T e i x b = .ok (c, b2) → FrK w I J I2 J2 → Mr T e b2 I2 J2 → RcO c (I2 102) w → Q 0 0 I2 J2 R) : AM (d + 5) 196 112 [.ref 97, .int 60] I J R (fun x4 y4 I4 J4 R4 => (x4 = 0 ∨ x4 = 1) → ((¬ x4 = (0 : Int32) → (AM (d + 5) 214 112 [.ref 97, .int 1] I4 J4 R (fun x5 y5 I5 J5 R5 => (AM (d + 5) 216 112 [.ref 97, .int 0, .int 99] I5 J5 R (fun x9 y9 I9 J9 R9 => (vp_in (nI w + 6) 1620 ∧ Q 0 0 (uI I9 102 (Int32.toNatClampNeg (nI w + 6)) x9) J9 R)))))) ∧ (x4 = (0 : Int32) → (AM (d + 5) 196 112 [.ref 97, .int 62] I4 J4 R (fun x7 y7 I7 J7 R7 => (x7 = 0 ∨ x7 = 1) → ((¬ x7 = (0 : Int32) → (AM (d + 5) 214 112 [.ref 97, .int 1] I7 J7 R (fun x5 y5 I5 J5 R5 => (AM (d + 5) 216 112 [.ref 97, .int 0, .int 99] I5 J5 R (fun x9 y9 I9 J9 R9 => (vp_in (nI w + 6) 1620 ∧ Q 0 0 (uI I9 102 (Int32.toNatClampNeg (nI w + 6)) x9) J9 R)))))) ∧ (x7 = (0 : Int32) → (AM (d + 5) 196 112 [.ref 97, .int 61] I7 J7 R (fun x10 y10 I10 J10 R10 => (x10 = 0 ∨ x10 = 1) → ((x10 = (0 : Int32) → (AM (d + 5) 214 112 [.ref 97, .int 0] I10 J10 R (fun x5 y5 I5 J5 R5 => (AM (d + 5) 216 112 [.ref 97, .int 0, .int 99] I5 J5 R (fun x9 y9 I9 J9 R9 => (vp_in (nI w + 6) 1620 ∧ Q 0 0 (uI I9 102 (Int32.toNatClampNeg (nI w + 6)) x9) J9 R)))))) ∧ (¬ x10 = (0 : Int32) → (AM (d + 5) 214 112 [.ref 97, .int 1] I10 J10 R (fun x5 y5 I5 J5 R5 => (AM (d + 5) 216 112 [.ref 97, .int 0, .int 99] I5 J5 R (fun x9 y9 I9 J9 R9 => (vp_in (nI w + 6) 1620 ∧ Q 0 0 (uI I9 102 (Int32.toNatClampNeg (nI w + 6)) x9) J9 R)))))))))))))))) := by
  refine px_sgn hw h (fun q I2 J2 hq hF hf => hE q _ J2 ?_ (hF.k8.r8 (by omega)) (hf.w_ (Or.inl (by decide)))) (fun b2 z b3 I2 J2 hc k3 hz hF h2 => hK (i, x, tV (tok T e b), z) b3 _ J2 ?_ (hF.k8.r8 (by omega)) (h2.w_ (Or.inl (by decide)) (by decide)) (RcO.ts hi ?_ ?_ ?_ rd_eq))
  · unfold dyT3
    cases hc : tkC T e b with
    | error q2 =>
      rw [hc] at hq
      have hq2 : (Except.error q2 : Rs Int32) = .error q := hq
      injection hq2 with hq3
      show (Except.error q2 : Rs CD) = .error q
      rw [hq3]
    | ok p2 =>
      rw [hc] at hq
      show (rb (tkN T e 0 99 p2.2) fun z b => (.ok ((i, x, p2.1, z), b) : Rs CD)) = .error q
      exact rb_e hq
  · unfold dyT3
    rw [rb_k hc, rb_k hz]
  · rw [rd_k (by omega), hF.i (by intro q; exact absurd q.1 (by decide))]; exact g5
  · rw [rd_k (by omega), hF.i (by intro q; exact absurd q.1 (by decide))]; exact g1
  · rw [rd_k (by omega), hF.i (by intro q; exact absurd q.1 (by decide)), g7]; exact hy k3
set_option maxHeartbeats 1000000 in
theorem px_rtest (hw : 1350 ≤ w ∧ w + 8 ≤ 1620) (hm : MnR N m I J) (h : Mr T e a I J) (hE : ∀ q I2 J2, dyT T e N m a = .error q → FrK w I J I2 J2 → FtM q I2 → Q 0 0 I2 J2 R) (hK : ∀ c b I2 J2, dyT T e N m a = .ok (c, b) → FrK w I J I2 J2 → Mr T e b I2 J2 → RcO c (I2 102) w → Q 0 0 I2 J2 R) : AM (d + 6) 234 112 [.ref 97, .int (nI w)] I J R Q := by
  have eT : dyT T e N m a = if isTs (tI (tok T e a)) = true then rb (if tI (tok T e a) = 17 then tkN T e 1 30 (tB (tok T e a)) else tkH T e N m (tB (tok T e a))) (fun x b => if tI (tok T e a) = 16 then .ok ((16, x, 0, 0), b) else rb (tkC T e b) fun y b => rb (tkN T e 0 99 b) fun z b => .ok ((tI (tok T e a), x, y, z), b)) else .error (mis T e a) := rfl
  have k5 : Int32.toNatClampNeg (nI w + 5) = w + 5 := by rw [show (5 : Int32) = nI 5 from rfl, wk_k (by omega), tn_nI (by omega)]
  have k1 : Int32.toNatClampNeg (nI w + 1) = w + 1 := by rw [show (1 : Int32) = nI 1 from rfl, wk_k (by omega), tn_nI (by omega)]
  have k7 : Int32.toNatClampNeg (nI w + 7) = w + 7 := by rw [show (7 : Int32) = nI 7 from rfl, wk_k (by omega), tn_nI (by omega)]
  have v5 : vp_in (nI w + 5) 1620 := by rw [show (5 : Int32) = nI 5 from rfl, wk_k (by omega)]; exact vp_of (a := ((w + 5 : Nat) : Int)) (nI_toInt (by omega)) (by omega) (by omega)
  have v1 : vp_in (nI w + 1) 1620 := by rw [show (1 : Int32) = nI 1 from rfl, wk_k (by omega)]; exact vp_of (a := ((w + 1 : Nat) : Int)) (nI_toInt (by omega)) (by omega) (by omega)
  have v7 : vp_in (nI w + 7) 1620 := by rw [show (7 : Int32) = nI 7 from rfl, wk_k (by omega)]; exact vp_of (a := ((w + 7 : Nat) : Int)) (nI_toInt (by omega)) (by omega) (by omega)
  refine w_X12_readTest (px_testWord h ?_)
  simp only [k5, k1, k7]
  by_cases ht : isTs (tI (tok T e a)) = true
  · rw [if_pos ht] at eT
    -- behind a man or a slice: a sign, a number
    have TL : ∀ (i x : Int32) (b : Nat) (I3 : Im) (J3 : Jm) (y : Int32), (i = 17 ∨ i = 18) → (tK (tok T e b) = 3 → y = tV (tok T e b)) → dyT T e N m a = dyT3 T e i x b → FrK w I J I3 J3 → Mr T e b I3 J3 → I3 102 (w + 5) = teW i → AM (d + 5) 196 112 [.ref 97, .int 60] (uI (uI I3 102 (w + 1) x) 102 (w + 7) y) J3 R (fun x4 y4 I4 J4 R4 => (x4 = 0 ∨ x4 = 1) → ((¬ x4 = (0 : Int32) → (AM (d + 5) 214 112 [.ref 97, .int 1] I4 J4 R (fun x5 y5 I5 J5 R5 => (AM (d + 5) 216 112 [.ref 97, .int 0, .int 99] I5 J5 R (fun x9 y9 I9 J9 R9 => (vp_in (nI w + 6) 1620 ∧ Q 0 0 (uI I9 102 (Int32.toNatClampNeg (nI w + 6)) x9) J9 R)))))) ∧ (x4 = (0 : Int32) → (AM (d + 5) 196 112 [.ref 97, .int 62] I4 J4 R (fun x7 y7 I7 J7 R7 => (x7 = 0 ∨ x7 = 1) → ((¬ x7 = (0 : Int32) → (AM (d + 5) 214 112 [.ref 97, .int 1] I7 J7 R (fun x5 y5 I5 J5 R5 => (AM (d + 5) 216 112 [.ref 97, .int 0, .int 99] I5 J5 R (fun x9 y9 I9 J9 R9 => (vp_in (nI w + 6) 1620 ∧ Q 0 0 (uI I9 102 (Int32.toNatClampNeg (nI w + 6)) x9) J9 R)))))) ∧ (x7 = (0 : Int32) → (AM (d + 5) 196 112 [.ref 97, .int 61] I7 J7 R (fun x10 y10 I10 J10 R10 => (x10 = 0 ∨ x10 = 1) → ((x10 = (0 : Int32) → (AM (d + 5) 214 112 [.ref 97, .int 0] I10 J10 R (fun x5 y5 I5 J5 R5 => (AM (d + 5) 216 112 [.ref 97, .int 0, .int 99] I5 J5 R (fun x9 y9 I9 J9 R9 => (vp_in (nI w + 6) 1620 ∧ Q 0 0 (uI I9 102 (Int32.toNatClampNeg (nI w + 6)) x9) J9 R)))))) ∧ (¬ x10 = (0 : Int32) → (AM (d + 5) 214 112 [.ref 97, .int 1] I10 J10 R (fun x5 y5 I5 J5 R5 => (AM (d + 5) 216 112 [.ref 97, .int 0, .int 99] I5 J5 R (fun x9 y9 I9 J9 R9 => (vp_in (nI w + 6) 1620 ∧ Q 0 0 (uI I9 102 (Int32.toNatClampNeg (nI w + 6)) x9) J9 R)))))))))))))))) := fun i x b I3 J3 y hi hy e1 hF h3 g5 => by
      have hF7 : FrK w I J (uI (uI I3 102 (w + 1) x) 102 (w + 7) y) J3 := (hF.r8 (by omega)).r8 (by omega)
      exact px_sg2 hw.2 hi ((h3.w_ (Or.inl (by decide)) (by decide)).w_ (Or.inl (by decide)) (by decide)) hy ((rd_k (by omega)).trans ((rd_k (by omega)).trans g5)) ((rd_k (by omega)).trans rd_eq) rd_eq (fun q I2 J2 hq hF2 hf => hE q I2 J2 (e1.trans hq) (hF7.tr hF2) hf) (fun c b2 I2 J2 hq hF2 h2 hr => hK c b2 I2 J2 (e1.trans hq) (hF7.tr hF2) h2 hr)
    rcases teW_t ht with ⟨hi, hv⟩ | ⟨hi, hv⟩ | ⟨hi, hv⟩
    · rw [hi] at eT
      rw [hv]
      refine ⟨fun z => absurd z (by decide), fun _ => px_mustY h (fun I1 J1 hF1 h1 => ⟨v5, fun _ => px_told (hm.fr hF1 |>.w (by omega)) (h1.w_ (Or.inl (by decide)) (by decide)) (fun q I3 J3 hq hF3 hf => ⟨v1, fun _ => hE q _ J3 ?_ (((hF1.k8.r8 (by omega)).tr hF3.k8).r8 (by omega)) (hf.w_ (Or.inl (by decide))), fun c => absurd ?_ c⟩) (fun x b I3 J3 hx hF3 h3 => ⟨v1, fun c => absurd c ?_, fun _ => ⟨fun z => absurd rfl z, fun _ => hK (16, x, 0, 0) b _ J3 ?_ (((hF1.k8.r8 (by omega)).tr hF3.k8).r8 (by omega)) (h3.w_ (Or.inl (by decide)) (by decide)) (RcO.ev ?_ rd_eq)⟩⟩), fun z => absurd z (by decide)⟩)⟩
      · rw [eT]; exact rb_e hq
      · rw [rd_ne (by decide)]; exact hf.ne.2.2
      · rw [rd_ne (by decide)]; exact h3.le.2
      · rw [eT]; exact rb_k hx
      · rw [rd_k (by omega), hF3.i (by intro q; exact absurd q.1 (by decide)), rd_eq]
    · rw [hi] at eT
      rw [hv]
      refine ⟨fun z => absurd z (by decide), fun _ => px_mustY h (fun I1 J1 hF1 h1 => ⟨v5, fun z => absurd rfl z, fun _ => px_count (h1.w_ (Or.inl (by decide)) (by decide)) (fun q I3 hq hF3 hf => ⟨v1, fun _ => hE q _ J1 ?_ (((hF1.k8.r8 (by omega)).tr hF3.k8).r8 (by omega)) (hf.w_ (Or.inl (by decide))), fun c => absurd ?_ c⟩) (fun x b I3 J3 hx _ _ hF3 h3 => ⟨v1, fun c => absurd c ?_, fun _ => ⟨fun _ => ⟨fun c3 => ⟨v7, TL 17 x b I3 J3 0 (Or.inl rfl) (fun k3 => absurd ?_ c3) ?_ ((hF1.k8.r8 (by omega)).tr hF3.k8) h3 ?_⟩, fun c3 => ⟨v7, TL 17 x b I3 J3 _ (Or.inl rfl) (fun k3 => ?_) ?_ ((hF1.k8.r8 (by omega)).tr hF3.k8) h3 ?_⟩⟩, fun z => absurd z (by decide)⟩⟩)⟩)⟩
      · rw [eT]; exact rb_e hq
      · rw [rd_ne (by decide)]; exact hf.ne.2.2
      · rw [rd_ne (by decide)]; exact h3.le.2
      · rw [rd_ne (by decide)]; exact (h3.k_is (n := 3) (by omega)).mpr k3
      · rw [eT]; exact rb_k hx
      · rw [hF3.i (by intro q; exact absurd q.1 (by decide)), rd_eq]; rfl
      · rw [rd_ne (by decide)]; exact h3.v (Or.inr k3)
      · rw [eT]; exact rb_k hx
      · rw [hF3.i (by intro q; exact absurd q.1 (by decide)), rd_eq]; rfl
    · rw [hi] at eT
      rw [hv]
      refine ⟨fun z => absurd z (by decide), fun _ => px_mustY h (fun I1 J1 hF1 h1 => ⟨v5, fun _ => px_told (hm.fr hF1 |>.w (by omega)) (h1.w_ (Or.inl (by decide)) (by decide)) (fun q I3 J3 hq hF3 hf => ⟨v1, fun _ => hE q _ J3 ?_ (((hF1.k8.r8 (by omega)).tr hF3.k8).r8 (by omega)) (hf.w_ (Or.inl (by decide))), fun c => absurd ?_ c⟩) (fun x b I3 J3 hx hF3 h3 => ⟨v1, fun c => absurd c ?_, fun _ => ⟨fun _ => ⟨fun c3 => ⟨v7, TL 18 x b I3 J3 0 (Or.inr rfl) (fun k3 => absurd ?_ c3) ?_ ((hF1.k8.r8 (by omega)).tr hF3.k8) h3 ?_⟩, fun c3 => ⟨v7, TL 18 x b I3 J3 _ (Or.inr rfl) (fun k3 => ?_) ?_ ((hF1.k8.r8 (by omega)).tr hF3.k8) h3 ?_⟩⟩, fun z => absurd z (by decide)⟩⟩), fun z => absurd z (by decide)⟩)⟩
      · rw [eT]; exact rb_e hq
      · rw [rd_ne (by decide)]; exact hf.ne.2.2
      · rw [rd_ne (by decide)]; exact h3.le.2
      · rw [rd_ne (by decide)]; exact (h3.k_is (n := 3) (by omega)).mpr k3
      · rw [eT]; exact rb_k hx
      · rw [hF3.i (by intro q; exact absurd q.1 (by decide)), rd_eq]; rfl
      · rw [rd_ne (by decide)]; exact h3.v (Or.inr k3)
      · rw [eT]; exact rb_k hx
      · rw [hF3.i (by intro q; exact absurd q.1 (by decide)), rd_eq]; rfl
  · rw [if_neg ht] at eT
    rw [teW_n ht]
    refine ⟨fun _ => px_mustN h (fun I2 hF hf => ⟨v5, fun _ => px_toldB (hf.w_ (Or.inl (by decide))) ⟨v1, fun _ => hE _ _ J eT ?_ ((hf.w_ (Or.inl (by decide))).w_ (Or.inl (by decide))), fun c => absurd ?_ c⟩, fun z => absurd z (by decide)⟩), fun z => absurd (show (-1 : Int32) < 0 by decide) z⟩
    · exact (hF.k8.r8 (by omega)).r8 (by omega)
    · rw [rd_ne (by decide), rd_ne (by decide)]; exact hf.ne.2.2
end RDB
end PT8x7
section PT8x8
/-! ===== the reference reads days: what a step's word asks for ===== -/
theorem isSt_c {i : Int32} (h : isSt i = true) : i = 9 ∨ i = 10 ∨ i = 11 ∨ i = 12 ∨ i = 13 ∨ i = 14 ∨ i = 15 ∨ i = 19 ∨ i = 21 := by
  by_cases h1 : i = 15
  · exact Or.inr (Or.inr (Or.inr (Or.inr (Or.inr (Or.inr (Or.inl h1))))))
  by_cases h2 : i = 19
  · exact Or.inr (Or.inr (Or.inr (Or.inr (Or.inr (Or.inr (Or.inr (Or.inl h2)))))))
  by_cases h3 : i = 21
  · exact Or.inr (Or.inr (Or.inr (Or.inr (Or.inr (Or.inr (Or.inr (Or.inr h3)))))))
  by_cases h4 : i < 9 ∨ 14 < i
  · rw [isSt_no h1 h2 h3 h4] at h; exact absurd h (by decide)
  · rw [Int32.lt_iff_toInt_lt, Int32.lt_iff_toInt_lt, show (9 : Int32).toInt = 9 from rfl, show (14 : Int32).toInt = 14 from rfl] at h4
    rcases (show i.toInt = 9 ∨ i.toInt = 10 ∨ i.toInt = 11 ∨ i.toInt = 12 ∨ i.toInt = 13 ∨ i.toInt = 14 by omega) with z | z | z | z | z | z
    · exact Or.inl (Int32.toInt_inj.mp z)
    · exact Or.inr (Or.inl (Int32.toInt_inj.mp z))
    · exact Or.inr (Or.inr (Or.inl (Int32.toInt_inj.mp z)))
    · exact Or.inr (Or.inr (Or.inr (Or.inl (Int32.toInt_inj.mp z))))
    · exact Or.inr (Or.inr (Or.inr (Or.inr (Or.inl (Int32.toInt_inj.mp z)))))
    · exact Or.inr (Or.inr (Or.inr (Or.inr (Or.inr (Or.inl (Int32.toInt_inj.mp z))))))
section RDC
variable {T : Nat → Int32} {e a d m w : Nat} {N : Nat → Int64} {I : Im} {J : Jm} {R : Rm} {Q : Qt}
theorem px_r90 {i : Int32} (hi : i = 11 ∨ i = 12) (hw : 1350 ≤ w ∧ w + 8 ≤ 1620) (hm : MnR N m I J) (h : Mr T e a I J) {P : Kt} (hc : Cl (AM (d + 6)) true false 0 (fun _ => 0) 0 112 kX12_readRest (fun _ => Q) P) (hE : ∀ q I2 J2, dyA T e N m i a = .error q → FrK w I J I2 J2 → FtM q I2 → Q 0 0 I2 J2 R) (hK : ∀ c b I2 J2, dyA T e N m i a = .ok (c, b) → FrK w I J I2 J2 → Mr T e b I2 J2 → RcO c (I2 102) w → Q 0 0 I2 J2 R) : P 90 112 [(0, .ref 97), (1, .int (nI w))] [] I J R := by
  have eA : dyA T e N m i a = rb (tkH T e N m a) fun x b => rb (tkN T e 1 30 b) fun y b => .ok ((i, x, y, 0), b) := by
    rcases hi with rfl | rfl <;> rfl
  have k1 : Int32.toNatClampNeg (nI w + 1) = w + 1 := by rw [show (1 : Int32) = nI 1 from rfl, wk_k (by omega), tn_nI (by omega)]
  have v1 : vp_in (nI w + 1) 1620 := by rw [show (1 : Int32) = nI 1 from rfl, wk_k (by omega)]; exact vp_of (a := ((w + 1 : Nat) : Int)) (nI_toInt (by omega)) (by omega) (by omega)
  refine sg_X12_readRest_90 hc _ _ _ _ ?_
  simp only [k1]
  refine px_told hm h (fun q I2 J2 hq hF hf => ⟨v1, px_cnB (k := 2) (by omega) (hf.w_ (Or.inl (by decide))) (fun _ I3 J3 => Q 0 0 I3 J3 R) (hE q _ J2 (by rw [eA]; exact rb_e hq) ((hF.k8.r8 (by omega)).r8 (by omega)) ((hf.w_ (Or.inl (by decide))).w_ (Or.inl (by decide))))⟩) (fun x b I2 J2 hx hF h2 => ⟨v1, px_cnW (k := 2) (by omega) (by omega) (h2.w_ (Or.inl (by decide)) (by decide)) (fun _ I3 J3 => Q 0 0 I3 J3 R) (fun q I3 J3 hq hF3 hf => hE q _ J3 (by rw [eA, rb_k hx]; exact rb_e hq) (((hF.k8.r8 (by omega)).tr hF3.k8).r8 (by omega)) (hf.w_ (Or.inl (by decide)))) (fun y b3 I3 J3 hy _ _ hF3 h3 => hK _ b3 _ J3 (by rw [eA, rb_k hx, rb_k hy]) (((hF.k8.r8 (by omega)).tr hF3.k8).r8 (by omega)) (h3.w_ (Or.inl (by decide)) (by decide)) (RcO.two (Or.inr hi) ?_ rd_eq))⟩)
  rw [rd_k (by omega), hF3.i (by intro q; exact absurd q.1 (by decide)), rd_eq]
theorem px_rest {i : Int32} (hi : isSt i = true) (hw : 1350 ≤ w ∧ w + 8 ≤ 1620) (hk : I 102 w = stW i) (hm : MnR N m I J) (h : Mr T e a I J) (hE : ∀ q I2 J2, dyA T e N m i a = .error q → FrK w I J I2 J2 → FtM q I2 → Q 0 0 I2 J2 R) (hK : ∀ c b I2 J2, dyA T e N m i a = .ok (c, b) → FrK w I J I2 J2 → Mr T e b I2 J2 → RcO c (I2 102) w → Q 0 0 I2 J2 R) : AM (d + 7) 235 112 [.ref 97, .int (nI w)] I J R Q := by
  have v0 : vp_in (nI w) 1620 := vp_of (a := (w : Int)) (nI_toInt (by omega)) (by omega) (by omega)
  refine am_X12_readRest (fun P hc => sg_X12_readRest_0 hc _ _ _ _ ?_)
  rw [tn_nI (by omega)]
  rcases isSt_c hi with rfl | rfl | rfl | rfl | rfl | rfl | rfl | rfl | rfl
  · rw [show I 102 w = 0 from hk]
    exact ⟨v0, fun c => absurd rfl c, fun _ => px_rcut hw.2 h hc hE hK⟩
  · rw [show I 102 w = 1 from hk]
    have eA : dyA T e N m 10 a = rb (tkN T e 1 30 a) fun x b => rb (tkN T e 2 30 b) fun y b => .ok ((10, x, y, 0), b) := rfl
    refine ⟨v0, fun _ => ⟨fun c => absurd rfl c, fun _ => px_cnW (k := 1) (by omega) (by omega) h (fun _ I3 J3 => AM (d + 6) 216 112 [.ref 97, .int 2, .int 30] I3 J3 R (fun x _ I2 J2 _ => vp_in (nI w + nI 2) 1620 ∧ Q 0 0 (uI I2 102 (Int32.toNatClampNeg (nI w + nI 2)) x) J2 R)) (fun q I2 J2 hq hF hf => px_cnB (k := 2) (by omega) (hf.w_ (Or.inl (by decide))) (fun _ I3 J3 => Q 0 0 I3 J3 R) (hE q _ J2 (by rw [eA]; exact rb_e hq) ((hF.k8.r8 (by omega)).r8 (by omega)) ((hf.w_ (Or.inl (by decide))).w_ (Or.inl (by decide))))) (fun x b I2 J2 hx _ _ hF h2 => px_cnW (k := 2) (by omega) (by omega) (h2.w_ (Or.inl (by decide)) (by decide)) (fun _ I3 J3 => Q 0 0 I3 J3 R) (fun q I3 J3 hq hF3 hf => hE q _ J3 (by rw [eA, rb_k hx]; exact rb_e hq) (((hF.k8.r8 (by omega)).tr hF3.k8).r8 (by omega)) (hf.w_ (Or.inl (by decide)))) (fun y b3 I3 J3 hy _ _ hF3 h3 => hK _ b3 _ J3 (by rw [eA, rb_k hx, rb_k hy]) (((hF.k8.r8 (by omega)).tr hF3.k8).r8 (by omega)) (h3.w_ (Or.inl (by decide)) (by decide)) (RcO.two (Or.inl rfl) ?_ rd_eq)))⟩, fun c => absurd c (by decide)⟩
    rw [rd_k (by omega), hF3.i (by intro q; exact absurd q.1 (by decide)), rd_eq]
  · rw [show I 102 w = 2 from hk]
    exact ⟨v0, fun _ => ⟨fun _ => ⟨fun _ => px_r90 (Or.inl rfl) hw hm h hc hE hK, fun c => absurd rfl c⟩, fun c => absurd c (by decide)⟩, fun c => absurd c (by decide)⟩
  · rw [show I 102 w = 3 from hk]
    exact ⟨v0, fun _ => ⟨fun _ => ⟨fun c => absurd c (by decide), fun _ => ⟨fun c => absurd rfl c, fun _ => px_r90 (Or.inr rfl) hw hm h hc hE hK⟩⟩, fun c => absurd c (by decide)⟩, fun c => absurd c (by decide)⟩
  · rw [show I 102 w = 4 from hk]
    have eA : dyA T e N m 13 a = rb (tkN T e 1 9 a) fun x b => .ok ((13, x, 0, 0), b) := rfl
    exact ⟨v0, fun _ => ⟨fun _ => ⟨fun c => absurd c (by decide), fun _ => ⟨fun _ => ⟨fun c => absurd rfl c, fun _ => px_cnW (k := 1) (by omega) (by omega) h (fun _ I3 J3 => Q 0 0 I3 J3 R) (fun q I2 J2 hq hF hf => hE q _ J2 (by rw [eA]; exact rb_e hq) (hF.k8.r8 (by omega)) (hf.w_ (Or.inl (by decide)))) (fun x b I2 J2 hx _ _ hF h2 => hK _ b _ J2 (by rw [eA, rb_k hx]) (hF.k8.r8 (by omega)) (h2.w_ (Or.inl (by decide)) (by decide)) (RcO.one (Or.inl rfl) rd_eq))⟩, fun c => absurd c (by decide)⟩⟩, fun c => absurd c (by decide)⟩, fun c => absurd c (by decide)⟩
  · rw [show I 102 w = 5 from hk]
    exact ⟨v0, fun _ => ⟨fun _ => ⟨fun c => absurd c (by decide), fun _ => ⟨fun _ => ⟨fun _ => ⟨fun _ => ⟨fun _ => hK (14, 0, 0, 0) a I J rfl FrW.rf h (RcO.none (Or.inl rfl)), fun c => absurd c (by decide)⟩, fun c => absurd c (by decide)⟩, fun c => absurd c (by decide)⟩, fun c => absurd c (by decide)⟩⟩, fun c => absurd c (by decide)⟩, fun c => absurd c (by decide)⟩
  · rw [show I 102 w = 6 from hk]
    exact ⟨v0, fun _ => ⟨fun _ => ⟨fun c => absurd c (by decide), fun _ => ⟨fun _ => ⟨fun _ => ⟨fun _ => ⟨fun c => absurd rfl c, fun _ => px_rtest hw hm h hE hK⟩, fun c => absurd c (by decide)⟩, fun c => absurd c (by decide)⟩, fun c => absurd c (by decide)⟩⟩, fun c => absurd c (by decide)⟩, fun c => absurd c (by decide)⟩
  · rw [show I 102 w = 7 from hk]
    have eA : dyA T e N m 19 a = rb (tkN T e 1 99 a) fun x b => .ok ((19, x, 0, 0), b) := rfl
    exact ⟨v0, fun _ => ⟨fun _ => ⟨fun c => absurd c (by decide), fun _ => ⟨fun _ => ⟨fun _ => ⟨fun c => absurd rfl c, fun _ => px_cnW (k := 1) (by omega) (by omega) h (fun _ I3 J3 => Q 0 0 I3 J3 R) (fun q I2 J2 hq hF hf => hE q _ J2 (by rw [eA]; exact rb_e hq) (hF.k8.r8 (by omega)) (hf.w_ (Or.inl (by decide)))) (fun x b I2 J2 hx _ _ hF h2 => hK _ b _ J2 (by rw [eA, rb_k hx]) (hF.k8.r8 (by omega)) (h2.w_ (Or.inl (by decide)) (by decide)) (RcO.one (Or.inr rfl) rd_eq))⟩, fun c => absurd c (by decide)⟩, fun c => absurd c (by decide)⟩⟩, fun c => absurd c (by decide)⟩, fun c => absurd c (by decide)⟩
  · rw [show I 102 w = 8 from hk]
    exact ⟨v0, fun _ => ⟨fun _ => ⟨fun c => absurd c (by decide), fun _ => ⟨fun _ => ⟨fun _ => ⟨fun _ => ⟨fun _ => hK (21, 0, 0, 0) a I J rfl FrW.rf h (RcO.none (Or.inr rfl)), fun c => absurd c (by decide)⟩, fun c => absurd c (by decide)⟩, fun c => absurd c (by decide)⟩, fun c => absurd c (by decide)⟩⟩, fun c => absurd c (by decide)⟩, fun c => absurd c (by decide)⟩
end RDC
end PT8x8
section PT8x9
/-! ===== the reference reads days: a step, whole ===== -/
section RDD
variable {T : Nat → Int32} {e a d m w : Nat} {N : Nat → Int64} {I : Im} {J : Jm} {R : Rm} {Q : Qt}
theorem px_isWordA {v : Int64} (hQ : ∀ x : Int32, (x = 0 ∨ x = 1) → Q x 0 I J R) : AM (d + 1) 198 112 [.ref 97, .long v] I J R Q := by
  refine w_X12_isWord ⟨fun c => ⟨Or.inl rfl, hQ 0 (Or.inl rfl)⟩, fun c => ⟨fun c2 => ?_, fun c2 => ?_⟩⟩
  all_goals first | exact ⟨Or.inl rfl, hQ 0 (Or.inl rfl)⟩ | exact ⟨Or.inr rfl, hQ 1 (Or.inr rfl)⟩
theorem px_isEndA (hQ : ∀ x : Int32, (x = 0 ∨ x = 1) → Q x 0 I J R) : AM (d + 2) 209 112 [.ref 97] I J R Q :=
  w_X12_isEnd (px_spell (px_isWordA (fun x hx _ => ⟨hx, hQ x hx⟩)))
theorem px_isSignA {v : Int32} (hQ : ∀ x : Int32, (x = 0 ∨ x = 1) → Q x 0 I J R) : AM (d + 1) 196 112 [.ref 97, .int v] I J R Q := by
  refine w_X12_isSign ⟨fun c => ⟨Or.inl rfl, hQ 0 (Or.inl rfl)⟩, fun c => ⟨fun c2 => ?_, fun c2 => ?_⟩⟩
  all_goals first | exact ⟨Or.inl rfl, hQ 0 (Or.inl rfl)⟩ | exact ⟨Or.inr rfl, hQ 1 (Or.inr rfl)⟩
/-- a step's end in a fault -/
theorem px_s170 {q : Nat × Nat} {v3 : Int32} (hw : w + 8 < 1620) (hf : FtM q I) {P : Kt} (hc : Cl (AM (d + 3)) true false 0 (fun _ => 0) 0 112 kX12_readStep (fun _ => Q) P) (hQ : Q 0 0 (uI I 102 (w + 8) (I 97 27)) J R) : P 170 112 [(0, .ref 97), (3, .int v3), (4, .int (nI w))] [] I J R := by
  have k8 : Int32.toNatClampNeg (nI w + 8) = w + 8 := by rw [show (8 : Int32) = nI 8 from rfl, wk_k (by omega), tn_nI (by omega)]
  have v8 : vp_in (nI w + 8) 1620 := by rw [show (8 : Int32) = nI 8 from rfl, wk_k (by omega)]; exact vp_of (a := ((w + 8 : Nat) : Int)) (nI_toInt (by omega)) (by omega) (by omega)
  refine sg_X12_readStep_170 hc _ _ _ _ _ ?_
  rw [k8]
  refine ⟨fun _ => ⟨v8, hQ⟩, fun _ => px_isEndA (fun x _ _ => px_mustB hf (px_isSignA (fun y _ _ => px_mustB hf ⟨v8, hQ⟩)))⟩
theorem px_s142 {q : Nat × Nat} {v1 v3 : Int32} (hw : w + 8 < 1620) (hf : FtM q I) {P : Kt} (hc : Cl (AM (d + 3)) true false 0 (fun _ => 0) 0 112 kX12_readStep (fun _ => Q) P) (hQ : Q 0 0 (uI I 102 (w + 8) (I 97 27)) J R) : P 142 112 [(0, .ref 97), (1, .int v1), (3, .int v3), (4, .int (nI w))] [] I J R :=
  sg_X12_readStep_142 hc _ _ _ _ _ _ ⟨fun _ => px_s170 hw hf hc hQ, fun _ => ⟨fun _ => px_s170 hw hf hc hQ, fun c => absurd c hf.ne.1⟩⟩
end RDD
/-! the records -/
noncomputable def kcR (k : Int32) : Int32 := if isTs k = true then 6 else stW k
/-- a step's code is among those told -/
noncomputable def DSp (s : DS) : Prop := ∀ t, t < dN s → dSp s t < dL s
noncomputable def opn (s : DS) (t : Nat) : Prop := ∃ k, k < dD s ∧ dOs s k = t
noncomputable def MDs (s : DS) (I : Im) : Prop := I 97 27 = nI (dN s) ∧ ∀ t, t < dN s → I 102 (1350 + 9 * t) = kcR (dC s (dSp s t)).1 ∧ RcO (dC s (dSp s t)) (I 102) (1350 + 9 * t) ∧ (¬ opn s t → I 102 (1350 + 9 * t + 8) = nI (dNx s t))
theorem DSp.z : DSp ds0 := fun t h => absurd h (by show ¬ t < 0; omega)
theorem DSp.a {s : DS} {c : CD} (h : DSp s) : DSp (dsA s c) := fun t ht => by
  have ht2 : t < dN s + 1 := ht
  show upN (dSp s) (dN s) (dL s) t < dL s + 1
  by_cases q : t = dN s
  · subst q; rw [upN_s]; omega
  · rw [upN_i q]; have := h t (by omega); omega
theorem DSp.b {s : DS} {c : CD} (h : DSp s) : DSp (dsB s c) := fun t ht => by
  have ht2 : t < dN s + 1 := ht
  show upN (dSp s) (dN s) (dL s) t < dL s + 1
  by_cases q : t = dN s
  · subst q; rw [upN_s]; omega
  · rw [upN_i q]; have := h t (by omega); omega
theorem DSp.e {s : DS} (h : DSp s) : DSp (dsE s) := fun t ht => by
  have := h t ht
  show dSp s t < dL s + 1
  omega
theorem RcO.cp {c : CD} {f f2 : Nat → Int32} {w : Nat} (h : RcO c f w) (e : ∀ k, w < k → k < w + 8 → f2 k = f k) : RcO c f2 w := by
  obtain ⟨h1, h2, h3, h4, h5⟩ := h
  refine ⟨fun q => ?_, fun q => ?_, fun q => ?_, fun q => ?_, fun q => ?_⟩
  · rw [e (w + 1) (by omega) (by omega), e (w + 2) (by omega) (by omega), e (w + 3) (by omega) (by omega)]; exact h1 q
  · rw [e (w + 1) (by omega) (by omega), e (w + 2) (by omega) (by omega)]; exact h2 q
  · rw [e (w + 1) (by omega) (by omega)]; exact h3 q
  · rw [e (w + 5) (by omega) (by omega), e (w + 1) (by omega) (by omega)]; exact h4 q
  · rw [e (w + 7) (by omega) (by omega), e (w + 6) (by omega) (by omega)]; exact h5 q
/-- a step's record more -/
theorem MDs.new {s s2 : DS} {c : CD} {I I2 : Im} (h : MDs s I) (hd : DSp s) (eN : dN s2 = dN s + 1) (eC : dC s2 = upC (dC s) (dL s) c) (eS : dSp s2 = upN (dSp s) (dN s) (dL s)) (eX : ∀ t, t < dN s → dNx s2 t = dNx s t) (eO : ∀ t, t < dN s → opn s t → opn s2 t)
    (h27 : I2 97 27 = nI (dN s + 1)) (old : ∀ k, 1350 ≤ k → k < 1350 + 9 * dN s → I2 102 k = I 102 k) (hk : I2 102 (1350 + 9 * dN s) = kcR c.1) (hr : RcO c (I2 102) (1350 + 9 * dN s)) (hx : ¬ opn s2 (dN s) → I2 102 (1350 + 9 * dN s + 8) = nI (dNx s2 (dN s))) : MDs s2 I2 := by
  refine ⟨by rw [eN]; exact h27, fun t ht => ?_⟩
  rw [eN] at ht
  rw [eC, eS]
  by_cases q : t = dN s
  · subst q
    rw [upN_s, upC_s]
    exact ⟨hk, hr, hx⟩
  · have ht2 : t < dN s := by omega
    have hs := hd t ht2
    rw [upN_i q, upC_i (by omega)]
    obtain ⟨g1, g2, g3⟩ := h.2 t ht2
    refine ⟨(old _ (by omega) (by omega)).trans g1, g2.cp (fun k k1 k2 => old k (by omega) (by omega)), fun no => ?_⟩
    rw [old _ (by omega) (by omega), eX t ht2]
    exact g3 (fun z => no (eO t ht2 z))
/-- a block's end: the step behind it is told -/
theorem MDs.fin {s : DS} {I I2 : Im} {n : Nat} (h : MDs s I) (hd : DSp s) (hD : ¬ dD s = 0) (hn : dOs s (dD s - 1) = n) (hnN : n < dN s) (h27 : I2 97 27 = nI (dN s)) (old : ∀ k, 1350 ≤ k → ¬ k = 1350 + 9 * n + 8 → k < 1350 + 9 * dN s → I2 102 k = I 102 k) (hx : I2 102 (1350 + 9 * n + 8) = nI (dN s)) : MDs (dsE s) I2 := by
  refine ⟨h27, fun t ht => ?_⟩
  have ht2 : t < dN s := ht
  have hs := hd t ht2
  obtain ⟨g1, g2, g3⟩ := h.2 t ht2
  have eC : dC (dsE s) (dSp (dsE s) t) = dC s (dSp s t) := upC_i (show ¬ dSp s t = dL s by omega)
  rw [eC]
  refine ⟨(old _ (by omega) (by omega) (by omega)).trans g1, g2.cp (fun k k1 k2 => old k (by omega) (by omega) (by omega)), fun no => ?_⟩
  show _ = nI (upN (dNx s) (dOs s (dD s - 1)) (dN s) t)
  rw [hn]
  by_cases q : t = n
  · subst q; rw [upN_s]; exact hx
  · rw [upN_i q, old _ (by omega) (by omega) (by omega)]
    refine g3 (fun ⟨k, k1, k2⟩ => no ⟨k, ?_, k2⟩)
    show k < dD s - 1
    rcases Nat.lt_or_ge k (dD s - 1) with z | z
    · exact z
    · exact absurd (by rw [← k2, ← hn]; exact congrArg (dOs s) (by omega)) q
theorem stW_n {i : Int32} (h : isSt i = false) : stW i = -1 := by
  have n : ∀ k : Int32, isSt k = true → ¬ i = k := fun k hk z => by rw [z, hk] at h; exact absurd h (by decide)
  unfold stW
  rw [if_neg (n 9 (by decide)), if_neg (n 10 (by decide)), if_neg (n 11 (by decide)), if_neg (n 12 (by decide)), if_neg (n 13 (by decide)), if_neg (n 14 (by decide)), if_neg (n 15 (by decide)), if_neg (n 19 (by decide)), if_neg (n 21 (by decide))]
end PT8x9
section PT8x10
/-! ===== the reference reads days: the recursion ===== -/
theorem rb_ok3 {α β : Type} {r : Rs α} {f : α → Nat → Rs β} {p : β × Nat} (h : rb r f = .ok p) : ∃ v b, r = .ok (v, b) ∧ f v b = .ok p := by
  cases r with
  | error x => cases h
  | ok q => exact ⟨q.1, q.2, rfl, h⟩
theorem dyA_k {T : Nat → Int32} {e m a b : Nat} {N : Nat → Int64} {i : Int32} {c : CD} (hi : isSt i = true) (h : dyA T e N m i a = .ok (c, b)) : kcR c.1 = stW i := by
  rcases isSt_c hi with rfl | rfl | rfl | rfl | rfl | rfl | rfl | rfl | rfl
  · have h1 : (rb (tkN T e 1 30 a) fun x b => rb (tkN T e 1 30 b) fun y b => rb (tkN T e 1 30 b) fun z b => (.ok ((9, x, y, z), b) : Rs CD)) = .ok (c, b) := h
    obtain ⟨x, b1, -, h2⟩ := rb_ok3 h1
    obtain ⟨y, b2, -, h3⟩ := rb_ok3 h2
    obtain ⟨z, b3, -, h4⟩ := rb_ok3 h3
    cases h4; rfl
  · have h1 : (rb (tkN T e 1 30 a) fun x b => rb (tkN T e 2 30 b) fun y b => (.ok ((10, x, y, 0), b) : Rs CD)) = .ok (c, b) := h
    obtain ⟨x, b1, -, h2⟩ := rb_ok3 h1
    obtain ⟨y, b2, -, h3⟩ := rb_ok3 h2
    cases h3; rfl
  · have h1 : (rb (tkH T e N m a) fun x b => rb (tkN T e 1 30 b) fun y b => (.ok ((11, x, y, 0), b) : Rs CD)) = .ok (c, b) := h
    obtain ⟨x, b1, -, h2⟩ := rb_ok3 h1
    obtain ⟨y, b2, -, h3⟩ := rb_ok3 h2
    cases h3; rfl
  · have h1 : (rb (tkH T e N m a) fun x b => rb (tkN T e 1 30 b) fun y b => (.ok ((12, x, y, 0), b) : Rs CD)) = .ok (c, b) := h
    obtain ⟨x, b1, -, h2⟩ := rb_ok3 h1
    obtain ⟨y, b2, -, h3⟩ := rb_ok3 h2
    cases h3; rfl
  · have h1 : (rb (tkN T e 1 9 a) fun x b => (.ok ((13, x, 0, 0), b) : Rs CD)) = .ok (c, b) := h
    obtain ⟨x, b1, -, h2⟩ := rb_ok3 h1
    cases h2; rfl
  · have h1 : (.ok ((14, 0, 0, 0), a) : Rs CD) = .ok (c, b) := h
    cases h1; rfl
  · have h1 : dyT T e N m a = .ok (c, b) := h
    unfold dyT at h1
    by_cases ht : isTs (tI (tok T e a)) = true
    · rw [if_pos ht] at h1
      obtain ⟨x, b1, -, h2⟩ := rb_ok3 h1
      by_cases h16 : tI (tok T e a) = 16
      · rw [if_pos h16] at h2
        cases h2; rfl
      · rw [if_neg h16] at h2
        obtain ⟨y, b2, -, h3⟩ := rb_ok3 h2
        obtain ⟨z, b3, -, h4⟩ := rb_ok3 h3
        cases h4
        show kcR (tI (tok T e a)) = stW 15
        unfold kcR
        rw [if_pos ht]; rfl
    · rw [if_neg ht] at h1; cases h1
  · have h1 : (rb (tkN T e 1 99 a) fun x b => (.ok ((19, x, 0, 0), b) : Rs CD)) = .ok (c, b) := h
    obtain ⟨x, b1, -, h2⟩ := rb_ok3 h1
    cases h2; rfl
  · have h1 : (.ok ((21, 0, 0, 0), a) : Rs CD) = .ok (c, b) := h
    cases h1; rfl
end PT8x10
