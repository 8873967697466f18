/-! ===== the reference reads days: a step, whole ===== -/
section RDD
variable {T : Nat → Int32} {e a d m w : Nat} {N : Nat → Int64} {I : Im} {J : Jm} {R : Rm} {Q : Qt}
theorem px_isWordA {v : Int64} (hQ : ∀ x : Int32, (x = 0 ∨ x = 1) → Q x 0 I J R) : AM (d + 1) 198 112 [.ref 97, .long v] I J R Q := by
  refine w_X12_isWord ⟨fun c => ⟨Or.inl rfl, hQ 0 (Or.inl rfl)⟩, fun c => ⟨fun c2 => ?_, fun c2 => ?_⟩⟩
  all_goals first | exact ⟨Or.inl rfl, hQ 0 (Or.inl rfl)⟩ | exact ⟨Or.inr rfl, hQ 1 (Or.inr rfl)⟩
theorem px_isEndA (hQ : ∀ x : Int32, (x = 0 ∨ x = 1) → Q x 0 I J R) : AM (d + 2) 209 112 [.ref 97] I J R Q :=
  w_X12_isEnd (px_spell (px_isWordA (fun x hx _ => ⟨hx, hQ x hx⟩)))
theorem px_isSignA {v : Int32} (hQ : ∀ x : Int32, (x = 0 ∨ x = 1) → Q x 0 I J R) : AM (d + 1) 196 112 [.ref 97, .int v] I J R Q := by
  refine w_X12_isSign ⟨fun c => ⟨Or.inl rfl, hQ 0 (Or.inl rfl)⟩, fun c => ⟨fun c2 => ?_, fun c2 => ?_⟩⟩
  all_goals first | exact ⟨Or.inl rfl, hQ 0 (Or.inl rfl)⟩ | exact ⟨Or.inr rfl, hQ 1 (Or.inr rfl)⟩
/-- a step's end in a fault -/
theorem px_s170 {q : Nat × Nat} {v3 : Int32} (hw : w + 8 < 1620) (hf : FtM q I) {P : Kt} (hc : Cl (AM (d + 3)) true false 0 (fun _ => 0) 0 112 kX12_readStep (fun _ => Q) P) (hQ : Q 0 0 (uI I 102 (w + 8) (I 97 27)) J R) : P 170 112 [(0, .ref 97), (3, .int v3), (4, .int (nI w))] [] I J R := by
  have k8 : Int32.toNatClampNeg (nI w + 8) = w + 8 := by rw [show (8 : Int32) = nI 8 from rfl, wk_k (by omega), tn_nI (by omega)]
  have v8 : vp_in (nI w + 8) 1620 := by rw [show (8 : Int32) = nI 8 from rfl, wk_k (by omega)]; exact vp_of (a := ((w + 8 : Nat) : Int)) (nI_toInt (by omega)) (by omega) (by omega)
  refine sg_X12_readStep_170 hc _ _ _ _ _ ?_
  rw [k8]
  refine ⟨fun _ => ⟨v8, hQ⟩, fun _ => px_isEndA (fun x _ _ => px_mustB hf (px_isSignA (fun y _ _ => px_mustB hf ⟨v8, hQ⟩)))⟩
theorem px_s142 {q : Nat × Nat} {v1 v3 : Int32} (hw : w + 8 < 1620) (hf : FtM q I) {P : Kt} (hc : Cl (AM (d + 3)) true false 0 (fun _ => 0) 0 112 kX12_readStep (fun _ => Q) P) (hQ : Q 0 0 (uI I 102 (w + 8) (I 97 27)) J R) : P 142 112 [(0, .ref 97), (1, .int v1), (3, .int v3), (4, .int (nI w))] [] I J R :=
  sg_X12_readStep_142 hc _ _ _ _ _ _ ⟨fun _ => px_s170 hw hf hc hQ, fun _ => ⟨fun _ => px_s170 hw hf hc hQ, fun c => absurd c hf.ne.1⟩⟩
end RDD
/-! the records -/
noncomputable def kcR (k : Int32) : Int32 := if isTs k = true then 6 else stW k
/-- a step's code is among those told -/
noncomputable def DSp (s : DS) : Prop := ∀ t, t < dN s → dSp s t < dL s
noncomputable def opn (s : DS) (t : Nat) : Prop := ∃ k, k < dD s ∧ dOs s k = t
noncomputable def MDs (s : DS) (I : Im) : Prop := I 97 27 = nI (dN s) ∧ ∀ t, t < dN s → I 102 (1350 + 9 * t) = kcR (dC s (dSp s t)).1 ∧ RcO (dC s (dSp s t)) (I 102) (1350 + 9 * t) ∧ (¬ opn s t → I 102 (1350 + 9 * t + 8) = nI (dNx s t))
theorem DSp.z : DSp ds0 := fun t h => absurd h (by show ¬ t < 0; omega)
theorem DSp.a {s : DS} {c : CD} (h : DSp s) : DSp (dsA s c) := fun t ht => by
  have ht2 : t < dN s + 1 := ht
  show upN (dSp s) (dN s) (dL s) t < dL s + 1
  by_cases q : t = dN s
  · subst q; rw [upN_s]; omega
  · rw [upN_i q]; have := h t (by omega); omega
theorem DSp.b {s : DS} {c : CD} (h : DSp s) : DSp (dsB s c) := fun t ht => by
  have ht2 : t < dN s + 1 := ht
  show upN (dSp s) (dN s) (dL s) t < dL s + 1
  by_cases q : t = dN s
  · subst q; rw [upN_s]; omega
  · rw [upN_i q]; have := h t (by omega); omega
theorem DSp.e {s : DS} (h : DSp s) : DSp (dsE s) := fun t ht => by
  have := h t ht
  show dSp s t < dL s + 1
  omega
theorem RcO.cp {c : CD} {f f2 : Nat → Int32} {w : Nat} (h : RcO c f w) (e : ∀ k, w < k → k < w + 8 → f2 k = f k) : RcO c f2 w := by
  obtain ⟨h1, h2, h3, h4, h5⟩ := h
  refine ⟨fun q => ?_, fun q => ?_, fun q => ?_, fun q => ?_, fun q => ?_⟩
  · rw [e (w + 1) (by omega) (by omega), e (w + 2) (by omega) (by omega), e (w + 3) (by omega) (by omega)]; exact h1 q
  · rw [e (w + 1) (by omega) (by omega), e (w + 2) (by omega) (by omega)]; exact h2 q
  · rw [e (w + 1) (by omega) (by omega)]; exact h3 q
  · rw [e (w + 5) (by omega) (by omega), e (w + 1) (by omega) (by omega)]; exact h4 q
  · rw [e (w + 7) (by omega) (by omega), e (w + 6) (by omega) (by omega)]; exact h5 q
/-- a step's record more -/
theorem MDs.new {s s2 : DS} {c : CD} {I I2 : Im} (h : MDs s I) (hd : DSp s) (eN : dN s2 = dN s + 1) (eC : dC s2 = upC (dC s) (dL s) c) (eS : dSp s2 = upN (dSp s) (dN s) (dL s)) (eX : ∀ t, t < dN s → dNx s2 t = dNx s t) (eO : ∀ t, t < dN s → opn s t → opn s2 t)
    (h27 : I2 97 27 = nI (dN s + 1)) (old : ∀ k, 1350 ≤ k → k < 1350 + 9 * dN s → I2 102 k = I 102 k) (hk : I2 102 (1350 + 9 * dN s) = kcR c.1) (hr : RcO c (I2 102) (1350 + 9 * dN s)) (hx : ¬ opn s2 (dN s) → I2 102 (1350 + 9 * dN s + 8) = nI (dNx s2 (dN s))) : MDs s2 I2 := by
  refine ⟨by rw [eN]; exact h27, fun t ht => ?_⟩
  rw [eN] at ht
  rw [eC, eS]
  by_cases q : t = dN s
  · subst q
    rw [upN_s, upC_s]
    exact ⟨hk, hr, hx⟩
  · have ht2 : t < dN s := by omega
    have hs := hd t ht2
    rw [upN_i q, upC_i (by omega)]
    obtain ⟨g1, g2, g3⟩ := h.2 t ht2
    refine ⟨(old _ (by omega) (by omega)).trans g1, g2.cp (fun k k1 k2 => old k (by omega) (by omega)), fun no => ?_⟩
    rw [old _ (by omega) (by omega), eX t ht2]
    exact g3 (fun z => no (eO t ht2 z))
/-- a block's end: the step behind it is told -/
theorem MDs.fin {s : DS} {I I2 : Im} {n : Nat} (h : MDs s I) (hd : DSp s) (hD : ¬ dD s = 0) (hn : dOs s (dD s - 1) = n) (hnN : n < dN s) (h27 : I2 97 27 = nI (dN s)) (old : ∀ k, 1350 ≤ k → ¬ k = 1350 + 9 * n + 8 → k < 1350 + 9 * dN s → I2 102 k = I 102 k) (hx : I2 102 (1350 + 9 * n + 8) = nI (dN s)) : MDs (dsE s) I2 := by
  refine ⟨h27, fun t ht => ?_⟩
  have ht2 : t < dN s := ht
  have hs := hd t ht2
  obtain ⟨g1, g2, g3⟩ := h.2 t ht2
  have eC : dC (dsE s) (dSp (dsE s) t) = dC s (dSp s t) := upC_i (show ¬ dSp s t = dL s by omega)
  rw [eC]
  refine ⟨(old _ (by omega) (by omega) (by omega)).trans g1, g2.cp (fun k k1 k2 => old k (by omega) (by omega) (by omega)), fun no => ?_⟩
  show _ = nI (upN (dNx s) (dOs s (dD s - 1)) (dN s) t)
  rw [hn]
  by_cases q : t = n
  · subst q; rw [upN_s]; exact hx
  · rw [upN_i q, old _ (by omega) (by omega) (by omega)]
    refine g3 (fun ⟨k, k1, k2⟩ => no ⟨k, ?_, k2⟩)
    show k < dD s - 1
    rcases Nat.lt_or_ge k (dD s - 1) with z | z
    · exact z
    · exact absurd (by rw [← k2, ← hn]; exact congrArg (dOs s) (by omega)) q
theorem stW_n {i : Int32} (h : isSt i = false) : stW i = -1 := by
  have n : ∀ k : Int32, isSt k = true → ¬ i = k := fun k hk z => by rw [z, hk] at h; exact absurd h (by decide)
  unfold stW
  rw [if_neg (n 9 (by decide)), if_neg (n 10 (by decide)), if_neg (n 11 (by decide)), if_neg (n 12 (by decide)), if_neg (n 13 (by decide)), if_neg (n 14 (by decide)), if_neg (n 15 (by decide)), if_neg (n 19 (by decide)), if_neg (n 21 (by decide))]
