/-! ===== the scribe reads days: small pieces ===== -/
section DYC
variable {T : Nat → Int32} {e a d : Nat} {N : Nat → Int64} {I : Im} {J : Jm} {R : Rm} {Q : Qt}
theorem px_nam2 {o m : Nat} {w : Int64} (hO : isO 112 o 0 = true) (hm : m ≤ 6) (e0 : I o 4 = nI m) (hN : ∀ k, k < m → J (o + 2) k = N k) (hQ : Q (nmG N w m 0) 0 I J R) : AM (d + 1) 5 112 [.ref o, .long w] I J R Q := by
  refine am_X0_manNamed (fun P hc => sg_X0_manNamed_0 hc _ _ _ _ _ ?_)
  obtain ⟨hA, hL, -⟩ := fa_0_5 hO
  have L : ∀ f k : Nat, k + f = m → nmG N w m 0 = nmG N w f k → P 2 112 [(0, .ref o), (1, .long w), (3, .int (nI k))] [] I J R := by
    intro f
    induction f with
    | zero =>
      intro k hk hv
      refine sg_X0_manNamed_2 hc _ _ _ _ _ _ (bif_t hO ?_)
      rw [e0]
      refine ⟨fun _ => ?_, fun c => absurd ?_ c⟩
      · rw [hv] at hQ; exact hQ
      · rw [show k = m by omega]; exact (nle_nI (by omega) (by omega)).mpr (Nat.le_refl _)
    | succ f ih =>
      intro k hk hv
      refine sg_X0_manNamed_2 hc _ _ _ _ _ _ (bif_t hO ?_)
      rw [e0]
      refine ⟨fun c => absurd ((nle_nI (by omega) (by omega)).mp c) (by omega), fun _ => bif_t hO (bif_t hA ⟨vp_nI (by omega) (by omega), ?_⟩)⟩
      rw [tn_nI (by omega), hN k (by omega), nI_k1, lg_cmp_eq]
      have e1 : nmG N w (f + 1) k = if N k = w then nI k else nmG N w f (k + 1) := rfl
      rw [e1] at hv
      refine ⟨fun c => ?_, fun c => ?_⟩
      · rw [if_neg c] at hv
        exact ih (k + 1) (by omega) hv
      · rw [if_pos c] at hv
        rw [hv] at hQ; exact hQ
  exact L m 0 (by omega) rfl
/-- the men who are there, by their names -/
noncomputable def MnA (N : Nat → Int64) (m o : Nat) (I : Im) (J : Jm) : Prop := m ≤ 6 ∧ I o 4 = nI m ∧ ∀ k, k < m → J (o + 2) k = N k
theorem MnA.fr {m o : Nat} {I2 : Im} {J2 : Jm} (h : MnA N m o I J) (ho : 9 ≤ o) (hF : FrR I J I2 J2) : MnA N m o I2 J2 :=
  ⟨h.1, (hF.i (by intro q; have := q.1; omega)).trans h.2.1, fun k hk => (hF.j (by intro q; have := q.1; omega)).trans (h.2.2 k hk)⟩
theorem px_man {o m : Nat} (hO : isO 112 o 0 = true) (hm : MnA N m o I J) (h : Rd T e a I J) (hE : ∀ p I2 J2, tkH T e N m a = .error p → FrR I J I2 J2 → Ft p I2 → Q (-1) 0 I2 J2 R) (hK : ∀ v b I2 J2, tkH T e N m a = .ok (v, b) → ¬ v = -1 → FrR I J I2 J2 → Rd T e b I2 J2 → Q v 0 I2 J2 R) : AM (d + 4) 39 112 [.ref o, .ref 3] I J R Q := by
  have ho := o_ge hO
  refine w_X3_takeMan (px_name h (fun p I2 J2 hp hF hf => ⟨fun c => absurd ?_ c, fun _ => hE p I2 J2 ?_ hF hf⟩) (fun w b I2 J2 hp hw hF h2 h7 => ⟨fun _ => bif_t hO ?_, fun c => absurd ((lg_cmp_eq _ _).mp c) hw⟩))
  · exact (lg_cmp_eq _ _).mpr rfl
  · unfold tkH; exact rb_e hp
  · have hm2 := hm.fr ho hF
    refine px_nam2 hO hm2.1 hm2.2.1 hm2.2.2 ⟨fun c => hK _ b I2 J2 ?_ c hF h2, fun c => ?_⟩
    · unfold tkH; rw [rb_k hp, if_neg c]
    · rw [c]
      refine px_wt (k := 3) (by decide) h7 (fun I3 hF3 hf3 _ => hE _ I3 J2 ?_ (hF.tr hF3) hf3)
      unfold tkH; rw [rb_k hp, if_pos c]
theorem px_cmp (h : Rd T e a I J) (hE : ∀ p I2 J2, tkC T e a = .error p → FrR I J I2 J2 → Ft p I2 → Q (-1) 0 I2 J2 R) (hK : ∀ v b I2 J2, tkC T e a = .ok (v, b) → ¬ v = -1 → FrR I J I2 J2 → Rd T e b I2 J2 → Q v 0 I2 J2 R) : AM (d + 3) 71 112 [.ref 3] I J R Q := by
  refine w_X6_takeCompares ⟨fun c => px_mis h (fun I2 J2 hF hf _ => hE _ I2 J2 ?_ hF hf), fun c => ?_⟩
  · unfold tkC
    rw [if_neg (fun z => c ((h.k_is (n := 3) (by omega)).mpr z))]
  have hk := (h.k_is (n := 3) (by omega)).mp c
  have hv := h.v (by omega)
  rw [hv]
  refine ⟨fun c2 => px_adv h (fun I2 J2 hF h2 h7 => hK _ _ I2 J2 ?_ ?_ hF.ab h2), fun c2 => px_mis h (fun I2 J2 hF hf _ => hE _ I2 J2 ?_ hF hf)⟩
  · unfold tkC
    rw [if_pos hk, if_neg c2]
  · rcases tok_sg hk with z | z | z | z <;> rw [z] <;> decide
  · unfold tkC
    rw [if_pos hk, if_pos c2]
theorem px_addD {p L : Nat} {k x y z : Int32} (hO : isO 112 p 2 = true) (hL : L < 60) (e0 : I p 2 = nI L) (hQ : Q 1 0 (uI (uI (uI (uI (uI (uI I (p + 1) L k) (p + 2) L x) (p + 3) L y) (p + 4) L z) (p + 5) L (nI L)) p 2 (nI (L + 1))) J R) : AM (d + 1) 30 112 [.ref p, .int k, .int x, .int y, .int z] I J R Q := by
  obtain ⟨a1, l1, -⟩ := fa_2_3 hO
  obtain ⟨a2, l2, -⟩ := fa_2_4 hO
  obtain ⟨a3, l3, -⟩ := fa_2_5 hO
  obtain ⟨a4, l4, -⟩ := fa_2_6 hO
  obtain ⟨a5, l5, -⟩ := fa_2_7 hO
  have tn : Int32.toNatClampNeg (nI L) = L := tn_nI (by omega)
  have e1 : uI I (p + 1) L k p 2 = nI L := (rd_ne (by omega)).trans e0
  have e2 : uI (uI I (p + 1) L k) (p + 2) L x p 2 = nI L := (rd_ne (by omega)).trans e1
  have e3 : uI (uI (uI I (p + 1) L k) (p + 2) L x) (p + 3) L y p 2 = nI L := (rd_ne (by omega)).trans e2
  have e4 : uI (uI (uI (uI I (p + 1) L k) (p + 2) L x) (p + 3) L y) (p + 4) L z p 2 = nI L := (rd_ne (by omega)).trans e3
  have e5 : uI (uI (uI (uI (uI I (p + 1) L k) (p + 2) L x) (p + 3) L y) (p + 4) L z) (p + 5) L (nI L) p 2 = nI L := (rd_ne (by omega)).trans e4
  have v60 : vp_in (nI L) 60 := vp_nI (by omega) (by omega)
  have c60 : nI L < 60 := (nlt_nI (b := 60) (by omega) (by omega)).mpr hL
  refine w_X2_add ?_
  simp only [hO, a1, a2, a3, a4, a5, l1, l2, l3, l4, l5, e0, tn, e1, e2, e3, e4, e5, cond_true, nI_k1]
  exact ⟨fun _ => ⟨v60, v60, v60, v60, v60, Or.inr trivial, hQ⟩, fun c => absurd c60 c⟩
theorem px_pairD {p L b f : Nat} (hO : isO 112 p 2 = true) (hL : L ≤ 60) (hb : b < L) (hf : f < L) (e0 : I p 2 = nI L) (hQ : Q 0 0 (uI (uI I (p + 5) b (nI f)) (p + 5) f (nI b)) J R) : AM (d + 1) 31 112 [.ref p, .int (nI b), .int (nI f)] I J R Q := by
  obtain ⟨a5, l5, -⟩ := fa_2_7 hO
  refine w_X2_pair ⟨fun c => absurd c (nI_pos (by omega)), fun _ => bif_t hO ?_⟩
  rw [e0, l5]
  refine ⟨fun c => absurd ((nle_nI (by omega) (by omega)).mp c) (by omega), fun _ => ⟨fun c => absurd c (nI_pos (by omega)), fun _ => bif_t hO ?_⟩⟩
  refine ⟨fun c => absurd ((nle_nI (by omega) (by omega)).mp c) (by omega), fun _ => bif_t hO (bif_t a5 ⟨vp_nI (by omega) (by omega), bif_t hO (bif_t a5 ⟨vp_nI (by omega) (by omega), ?_⟩)⟩)⟩
  rw [tn_nI (by omega), tn_nI (by omega)]
  exact hQ
end DYC
