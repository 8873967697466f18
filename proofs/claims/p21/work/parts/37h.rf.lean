/-! ===== the reference's bakery() ===== -/
section MH
variable {T : Nat → Int32} {e a d : Nat} {I : Im} {J : Jm} {R : Rm} {Q : Qt} {B : BS}
theorem px_mrP (hBO : BOk B) (h : Mr T e a I J) (hB : BkM B I J) (hE : ∀ p I2 J2, qrP T e B a = .error p → FrN I J I2 J2 → FtM p I2 → Q 0 0 I2 J2 R) (hK : ∀ B2 b I2 J2, qrP T e B a = .ok (B2, b) → FrN I J I2 J2 → Mr T e b I2 J2 → BkM B2 I2 J2 → Q 0 0 I2 J2 R) : AM (d + 7) 232 112 [.ref 97] I J R Q := by
  refine w_X12_readPart ?_
  refine px_isOdds h (fun c1 _ => ⟨fun q => absurd q (by decide), fun _ => ?_⟩) (fun c1 _ => ⟨fun _ => ?_, fun q => absurd rfl q⟩)
  · have e1 : qrP T e B a = qrO T e B a := by unfold qrP; rw [if_pos c1]
    rw [e1] at hE hK
    exact px_mrO h hB hE hK
  refine px_isStore h (fun c2 _ => ⟨fun q => absurd q (by decide), fun _ => ?_⟩) (fun c2 _ => ⟨fun _ => ?_, fun q => absurd rfl q⟩)
  · have e1 : qrP T e B a = qrS T e B a := by unfold qrP; rw [if_neg c1, if_pos c2]
    rw [e1] at hE hK
    exact px_mrS hBO h hB hE hK
  refine px_isMan_ h (fun c3 _ => ⟨fun q => absurd q (by decide), fun _ => ?_⟩) (fun c3 _ => ⟨fun _ => ?_, fun q => absurd rfl q⟩)
  · have e1 : qrP T e B a = qrM T e B a := by unfold qrP; rw [if_neg c1, if_neg c2, if_pos c3]
    rw [e1] at hE hK
    exact px_mrM hBO h hB hE hK
  refine px_isKnown h (fun c4 _ => ⟨fun q => absurd q (by decide), fun _ => ?_⟩) (fun c4 _ => ⟨fun _ => ?_, fun q => absurd rfl q⟩)
  · have e1 : qrP T e B a = qrK T e B a := by unfold qrP; rw [if_neg c1, if_neg c2, if_neg c3, if_pos c4]
    rw [e1] at hE hK
    exact px_mrK h hB hE hK
  · have e1 : qrP T e B a = .error (mis T e a) := by unfold qrP; rw [if_neg c1, if_neg c2, if_neg c3, if_neg c4]
    exact px_amiss h (fun I2 hF hf => hE _ I2 J e1 hF.nb hf)
theorem px_isSign {x : Int32} (h : Mr T e a I J) (hY : tK (tok T e a) = 3 → tV (tok T e a) = x → Q 1 0 I J R) (hN : (tK (tok T e a) = 3 → ¬ tV (tok T e a) = x) → Q 0 0 I J R) : AM (d + 1) 196 112 [.ref 97, .int x] I J R Q := by
  refine w_X12_isSign ⟨fun c => ⟨Or.inl rfl, hN (fun q => absurd ((h.k_is (n := 3) (by omega)).mpr q) c)⟩, fun c => ?_⟩
  have hk : tK (tok T e a) = 3 := (h.k_is (n := 3) (by omega)).mp c
  rw [h.v (Or.inr hk)]
  exact ⟨fun c2 => ⟨Or.inl rfl, hN (fun _ => c2)⟩, fun c2 => ⟨Or.inr rfl, hY hk c2⟩⟩
theorem px_sgAny {x : Int32} (hQ : ∀ x : Int32, x = 0 ∨ x = 1 → Q x 0 I J R) : AM (d + 1) 196 112 [.ref 97, .int x] I J R Q :=
  w_X12_isSign ⟨fun _ => ⟨Or.inl rfl, hQ 0 (Or.inl rfl)⟩, fun _ => ⟨fun _ => ⟨Or.inl rfl, hQ 0 (Or.inl rfl)⟩, fun _ => ⟨Or.inr rfl, hQ 1 (Or.inr rfl)⟩⟩⟩
/-- a semicolon -/
theorem px_msemi {Q1 : Qt} (hQ : ∀ x I2 J2, Q1 x 0 I2 J2 R → Q1 x 0 I2 J2 R) (h : Mr T e a I J) (hE : ∀ p I2 J2, tkS T e a = .error p → FrM I J I2 J2 → FtM p I2 → Q 0 0 I2 J2 R) (hK : ∀ b I2 J2, tkS T e a = .ok ((), b) → FrM I J I2 J2 → Mr T e b I2 J2 → Q 0 0 I2 J2 R) : AM (d + 3) 196 112 [.ref 97, .int 59] I J R (fun x2 _ I2 J2 _ => (x2 = 0 ∨ x2 = 1) → AM (d + 3) 214 112 [.ref 97, .int x2] I2 J2 R Q) := by
  refine px_isSign h (fun c1 c2 _ => px_mustY h (fun I2 J2 hF h2 => hK _ I2 J2 ?_ hF h2)) (fun c _ => px_mustN h (fun I2 hF hf => hE _ I2 J ?_ hF hf))
  · unfold tkS; rw [if_pos c1, if_pos c2]
  · unfold tkS
    by_cases q : tK (tok T e a) = 3
    · rw [if_pos q, if_neg (c q)]
    · rw [if_neg q]
theorem rf_bak {Q : Nat → Qt} {P : Kt} (hc : Cl (AM (d + 7)) true false 0 (fun _ => 0) 1 112 kX12_bakery Q P) {I0 : Im} {J0 : Jm} (r : Rs BS) (hE : ∀ p I2 J2, r = .error p → FrN I0 J0 I2 J2 → FtM p I2 → P 74 112 [(0, .ref 97)] [] I2 J2 R) (hK : ∀ B2 b I2 J2, r = .ok (B2, b) → FrN I0 J0 I2 J2 → Mr T e b I2 J2 → BkM B2 I2 J2 → BOk B2 → P 74 112 [(0, .ref 97)] [] I2 J2 R) :
    ∀ (f a : Nat) (B : BS) (I : Im) (J : Jm), e < a + f → r = prB T e f B a → BOk B → FrN I0 J0 I J → Mr T e a I J → BkM B I J → P 43 112 [(0, .ref 97)] [] I J R := by
  intro f
  induction f with
  | zero => intro a B I J h _ _ _ hR; have := hR.ha; omega
  | succ f ih =>
    intro a B I J hf hv hBO hF h hB
    refine sg_X12_bakery_43 hc _ _ _ ⟨fun q => absurd h.f q, fun _ => ⟨fun c => ?_, fun c => ?_⟩⟩
    · exact hK B a I J (by rw [hv]; unfold prB; rw [if_pos ((h.k_is (n := 0) (by omega)).mp c)]) hF h hB hBO
    · have hk : ¬ tK (tok T e a) = 0 := fun q => c ((h.k_is (n := 0) (by omega)).mpr q)
      have hv2 : r = rb (prP T e B a) fun B b => prB T e f B b := by
        rw [hv]; conv => lhs; unfold prB
        rw [if_neg hk]
      have up := up_prP (T := T) (B := B) h.ha
      rw [prP_q] at hv2
      refine px_mrP hBO h hB (fun p I2 J2 hp hF2 hf2 => px_sgAny (fun x hx _ => px_mustB hf2 (sg_X12_bakery_43 hc _ _ _ ⟨fun _ => hE p I2 J2 ?_ (hF.tr hF2) hf2, fun q => absurd q hf2.ne.1⟩))) (fun B2 b I2 J2 hp hF2 h2 hB2 => ?_)
      · rw [hv2]; unfold sem; rw [rb_e (rb_e hp)]
      · refine px_msemi (Q1 := fun _ _ _ _ _ => True) (fun _ _ _ q => q) h2 (fun p I3 J3 hp3 hF3 hf3 => sg_X12_bakery_43 hc _ _ _ ⟨fun _ => hE p I3 J3 ?_ (hF.tr (hF2.tr hF3.nb)) hf3, fun q => absurd q hf3.ne.1⟩) (fun b3 I3 J3 hp3 hF3 h3 => ?_)
        · rw [hv2]; unfold sem; rw [rb_k hp, rb_e hp3]; rfl
        · have hp4 : prP T e B a = .ok (B2, b3) := by rw [prP_q]; unfold sem; rw [rb_k hp, rb_k hp3]
          rw [hp4] at up
          refine ih b3 B2 I3 J3 (by have := up.1; omega) ?_ (bok_prP hBO hp4) (hF.tr (hF2.tr hF3.nb)) h3 (hB2.m hF3)
          rw [hv2, ← prP_q, rb_k hp4]
/-- a block that is emptied -/
theorem px_empties {b : Nat} {v : Int32} (h324 : 324 * v = nI (324 * b)) (hb : b < 5) (hQ : ∀ I2, (∀ c, ¬ c = 102 → I2 c = I c) → (∀ k, (k < 324 * b ∨ 324 * b + 324 ≤ k) → I2 102 k = I 102 k) → (∀ k, k < 324 → I2 102 (324 * b + k) = emC k) → Q 0 0 I2 J R) : AM (d + 1) 225 112 [.ref 97, .int v] I J R Q := by
  refine am_X12_empties (fun P hc => sg_X12_empties_0 hc _ _ _ _ ?_)
  have L : ∀ f k : Nat, ∀ I2 : Im, k + f = 324 → (∀ c, ¬ c = 102 → I2 c = I c) → (∀ k, (k < 324 * b ∨ 324 * b + 324 ≤ k) → I2 102 k = I 102 k) → (∀ j, j < k → I2 102 (324 * b + j) = 0) → P 2 112 [(0, .ref 97), (1, .int v), (2, .int (nI k))] [] I2 J R := by
    intro f
    induction f with
    | zero =>
      intro k I2 hk h1 h2 h3
      refine sg_X12_empties_2 hc _ _ _ _ _ ⟨fun _ => ?_, fun c => absurd ((nle_nI (a := 324) (by omega) (by omega)).mpr (by omega)) c⟩
      have e1 : (nI (324 * b) + 1 : Int32) = nI (324 * b + 1) := nI_add _ 1
      have e3 : (nI (324 * b) + 3 : Int32) = nI (324 * b + 3) := nI_add _ 3
      rw [h324, e1, e3, tn_nI (by omega), tn_nI (by omega)]
      refine ⟨vp_of (nI_toInt (by omega)) (by omega) (by omega), vp_of (nI_toInt (by omega)) (by omega) (by omega), hQ _ (fun c hc => ?_) (fun j hj => ?_) (fun j hj => ?_)⟩
      · rw [uI_ne hc, uI_ne hc]; exact h1 c hc
      · rw [rd_k (by omega), rd_k (by omega)]; exact h2 j hj
      · unfold emC
        by_cases z3 : j = 3
        · subst z3; rw [rd_eq, if_neg (by decide), if_pos rfl]
        · rw [rd_k (by omega)]
          by_cases z1 : j = 1
          · subst z1; rw [rd_eq, if_pos rfl]
          · rw [rd_k (by omega), if_neg z1, if_neg z3]; exact h3 j (by omega)
    | succ f ih =>
      intro k I2 hk h1 h2 h3
      refine sg_X12_empties_2 hc _ _ _ _ _ ⟨fun c => absurd ((nle_nI (a := 324) (by omega) (by omega)).mp c) (by omega), fun _ => ?_⟩
      rw [h324, nI_add, tn_nI (by omega), nI_k1]
      refine ⟨vp_of (nI_toInt (by omega)) (by omega) (by omega), ih (k + 1) _ (by omega) (fun c hc => ?_) (fun j hj => ?_) (fun j hj => ?_)⟩
      · rw [uI_ne hc]; exact h1 c hc
      · rw [rd_k (by omega)]; exact h2 j hj
      · by_cases z : j = k
        · subst z; rw [rd_eq]
        · rw [rd_k (by omega)]; exact h3 j (by omega)
  exact L 324 0 I (by omega) (fun _ _ => rfl) (fun _ _ => rfl) (fun j hj => by omega)
/-- a block that is copied, its names -/
theorem px_copy {f t : Nat} {v w : Int32} (hv : 324 * v = nI (324 * f)) (hw : 324 * w = nI (324 * t)) (hv6 : 6 * v = nI (6 * f)) (hw6 : 6 * w = nI (6 * t)) (hf : f < 5) (ht : t < 5) (hne : ¬ f = t) (hQ : ∀ I2 J2, (∀ c, ¬ c = 102 → I2 c = I c) → (∀ k, (k < 324 * t ∨ 324 * t + 324 ≤ k) → I2 102 k = I 102 k) → (∀ k, k < 324 → I2 102 (324 * t + k) = I 102 (324 * f + k)) → (∀ c, ¬ c = 104 → J2 c = J c) → (∀ k, (k < 6 * t ∨ 6 * t + 6 ≤ k) → J2 104 k = J 104 k) → (∀ k, k < 6 → J2 104 (6 * t + k) = J 104 (6 * f + k)) → Q 0 0 I2 J2 R) : AM (d + 1) 316 112 [.ref 97, .int v, .int w] I J R Q := by
  refine am_X12_copy (fun P hc => sg_X12_copy_0 hc _ _ _ _ _ ?_)
  have L2 : ∀ g k : Nat, ∀ I2 : Im, ∀ J2 : Jm, k + g = 6 → (∀ c, ¬ c = 102 → I2 c = I c) → (∀ k, (k < 324 * t ∨ 324 * t + 324 ≤ k) → I2 102 k = I 102 k) → (∀ k, k < 324 → I2 102 (324 * t + k) = I 102 (324 * f + k)) → (∀ c, ¬ c = 104 → J2 c = J c) → (∀ k, (k < 6 * t ∨ 6 * t + 6 ≤ k) → J2 104 k = J 104 k) → (∀ j, j < k → J2 104 (6 * t + j) = J 104 (6 * f + j)) → P 41 112 [(0, .ref 97), (1, .int v), (2, .int w), (3, .int (nI k))] [] I2 J2 R := by
    intro g
    induction g with
    | zero =>
      intro k I2 J2 hk h1 h2 h3 h4 h5 h6
      refine sg_X12_copy_41 hc _ _ _ _ _ _ ⟨fun _ => hQ I2 J2 h1 h2 h3 h4 h5 (fun j hj => h6 j (by omega)), fun c => absurd ((nle_nI (a := 6) (by omega) (by omega)).mpr (by omega)) c⟩
    | succ g ih =>
      intro k I2 J2 hk h1 h2 h3 h4 h5 h6
      refine sg_X12_copy_41 hc _ _ _ _ _ _ ⟨fun c => absurd ((nle_nI (a := 6) (by omega) (by omega)).mp c) (by omega), fun _ => ?_⟩
      rw [hv6, hw6, nI_add, nI_add, tn_nI (by omega), tn_nI (by omega), nI_k1]
      refine ⟨vp_of (nI_toInt (by omega)) (by omega) (by omega), vp_of (nI_toInt (by omega)) (by omega) (by omega), ih (k + 1) I2 _ (by omega) h1 h2 h3 (fun c hc => ?_) (fun j hj => ?_) (fun j hj => ?_)⟩
      · rw [uJ_ne hc]; exact h4 c hc
      · rw [rj_k (by omega)]; exact h5 j hj
      · by_cases z : j = k
        · subst z; rw [rj_eq]; exact h5 _ (by omega)
        · rw [rj_k (by omega)]; exact h6 j (by omega)
  have L : ∀ g k : Nat, ∀ I2 : Im, k + g = 324 → (∀ c, ¬ c = 102 → I2 c = I c) → (∀ k, (k < 324 * t ∨ 324 * t + 324 ≤ k) → I2 102 k = I 102 k) → (∀ j, j < k → I2 102 (324 * t + j) = I 102 (324 * f + j)) → P 2 112 [(0, .ref 97), (1, .int v), (2, .int w), (3, .int (nI k))] [] I2 J R := by
    intro g
    induction g with
    | zero =>
      intro k I2 hk h1 h2 h3
      refine sg_X12_copy_2 hc _ _ _ _ _ _ ⟨fun _ => L2 6 0 I2 J (by omega) h1 h2 (fun j hj => h3 j (by omega)) (fun _ _ => rfl) (fun _ _ => rfl) (fun j hj => by omega), fun c => absurd ((nle_nI (a := 324) (by omega) (by omega)).mpr (by omega)) c⟩
    | succ g ih =>
      intro k I2 hk h1 h2 h3
      refine sg_X12_copy_2 hc _ _ _ _ _ _ ⟨fun c => absurd ((nle_nI (a := 324) (by omega) (by omega)).mp c) (by omega), fun _ => ?_⟩
      rw [hv, hw, nI_add, nI_add, tn_nI (by omega), tn_nI (by omega), nI_k1]
      refine ⟨vp_of (nI_toInt (by omega)) (by omega) (by omega), vp_of (nI_toInt (by omega)) (by omega) (by omega), ih (k + 1) _ (by omega) (fun c hc => ?_) (fun j hj => ?_) (fun j hj => ?_)⟩
      · rw [uI_ne hc]; exact h1 c hc
      · rw [rd_k (by omega)]; exact h2 j hj
      · by_cases z : j = k
        · subst z; rw [rd_eq]; exact h2 _ (by omega)
        · rw [rd_k (by omega)]; exact h3 j (by omega)
  exact L 324 0 I (by omega) (fun _ _ => rfl) (fun _ _ => rfl) (fun j hj => by omega)
end MH
