/-! ===== the scribe's reader: what is taken ===== -/
noncomputable abbrev wsB : List Nat := [5, 6, 7, 8, 9, 11, 12, 13]
noncomputable abbrev FrR (I : Im) (J : Jm) (I2 : Im) (J2 : Jm) : Prop := FrW (WR wsB) VR I J I2 J2
theorem FrW.ab {I I2 : Im} {J J2 : Jm} (h : FrW (WR wsA) VR I J I2 J2) : FrR I J I2 J2 := h.up (WR.up (by decide)) (fun _ _ z => z)
/-- the reader ahead of place a, no fault -/
noncomputable def Rd (T : Nat → Int32) (e a : Nat) (I : Im) (J : Jm) : Prop := RdS T e a I J ∧ (I 3 12 = 0 ∧ I 3 13 = -1) ∧ a ≤ e ∧ e ≤ 900
/-- a fault -/
noncomputable def Ft (p : Nat × Nat) (I : Im) : Prop := I 3 12 = nI p.1 ∧ I 3 13 = nI p.2 ∧ 1 ≤ p.1 ∧ p.1 ≤ 7
theorem Rd.a {T : Nat → Int32} {e a : Nat} {I : Im} {J : Jm} (h : Rd T e a I J) : a ≤ e := h.2.2.1
theorem Rd.e {T : Nat → Int32} {e a : Nat} {I : Im} {J : Jm} (h : Rd T e a I J) : e ≤ 900 := h.2.2.2
theorem Rd.f {T : Nat → Int32} {e a : Nat} {I : Im} {J : Jm} (h : Rd T e a I J) : I 3 12 = 0 := h.2.1.1
theorem Rd.f13 {T : Nat → Int32} {e a : Nat} {I : Im} {J : Jm} (h : Rd T e a I J) : I 3 13 = -1 := h.2.1.2
theorem Rd.s {T : Nat → Int32} {e a : Nat} {I : Im} {J : Jm} (h : Rd T e a I J) : I 3 6 = nI (tS (tok T e a)) := h.1.2.2.2.2.1
theorem Rd.k {T : Nat → Int32} {e a : Nat} {I : Im} {J : Jm} (h : Rd T e a I J) : I 3 8 = nI (tK (tok T e a)) := h.1.2.2.2.2.2.1
theorem Rd.w {T : Nat → Int32} {e a : Nat} {I : Im} {J : Jm} (h : Rd T e a I J) : I 3 9 = tI (tok T e a) := h.1.2.2.2.2.2.2.1
theorem Rd.l {T : Nat → Int32} {e a : Nat} {I : Im} {J : Jm} (h : Rd T e a I J) (q : tK (tok T e a) = 1) : J 3 10 = tW (tok T e a) := h.1.2.2.2.2.2.2.2.1 q
theorem Rd.v {T : Nat → Int32} {e a : Nat} {I : Im} {J : Jm} (h : Rd T e a I J) (q : 2 ≤ tK (tok T e a)) : I 3 11 = tV (tok T e a) := h.1.2.2.2.2.2.2.2.2 q
theorem nK {a b : Nat} (ha : a ≤ 1000) (hb : b ≤ 1000) : (nI a = nI b) ↔ a = b := nI_eq (by omega) (by omega)
theorem Rd.k_is {T : Nat → Int32} {e a n : Nat} {I : Im} {J : Jm} (h : Rd T e a I J) (hn : n ≤ 1000) : I 3 8 = nI n ↔ tK (tok T e a) = n := by
  have := tok_k (T := T) (e := e) (a := a)
  rw [h.k, nK (by omega) hn]
/-- writes elsewhere -/
theorem Rd.o {T : Nat → Int32} {e a : Nat} {I : Im} {J : Jm} (h : Rd T e a I J) {I2 : Im} {J2 : Jm} (h3 : I2 3 = I 3) (h4 : I2 4 = I 4) (j3 : J2 3 = J 3) (j5 : J2 5 = J 5) : Rd T e a I2 J2 := by
  unfold Rd RdS at h ⊢
  rw [h3, h4, j3, j5]
  exact h
theorem mis_in {T : Nat → Int32} {e a : Nat} : 1 ≤ (mis T e a).1 ∧ (mis T e a).1 ≤ 7 := by
  unfold mis
  show (1 ≤ if tK (tok T e a) = 4 then 1 else 2) ∧ (if tK (tok T e a) = 4 then 1 else 2) ≤ 7
  split <;> decide
section TAKE
variable {T : Nat → Int32} {e a d : Nat} {I : Im} {J : Jm} {R : Rm} {Q : Qt}
theorem px_adv (h : Rd T e a I J) (hQ : ∀ I2 J2, FrW (WR wsA) VR I J I2 J2 → Rd T e (tB (tok T e a)) I2 J2 → I2 3 7 = nI (tS (tok T e a)) → Q 0 0 I2 J2 R) : AM (d + 2) 62 112 [.ref 3] I J R Q := by
  have hb := tB_le (T := T) h.a
  refine px_advance h.e hb.2 h.1.1 h.1.2.1 h.1.2.2.2.1 h.1.2.2.1 (fun I2 J2 hF hS h7 => hQ I2 J2 hF ⟨hS, ⟨?_, ?_⟩, hb.2, h.e⟩ (h7.trans h.s))
  · rw [hF.i (by decide)]; exact h.f
  · rw [hF.i (by decide)]; exact h.f13
theorem px_any (h : Rd T e a I J) (hQ : ∀ I2 J2, FrR I J I2 J2 → Rd T e (tB (tok T e a)) I2 J2 → I2 3 7 = nI (tS (tok T e a)) → Q 1 0 I2 J2 R) : AM (d + 3) 68 112 [.ref 3] I J R Q :=
  w_X6_takeAny (px_adv h (fun I2 J2 hF h2 h7 => ⟨Or.inr rfl, hQ I2 J2 hF.ab h2 h7⟩))
theorem px_wrong {k p : Int32} (hQ : FrR I J (uI (uI I 3 12 k) 3 13 p) J → Q 0 0 (uI (uI I 3 12 k) 3 13 p) J R) : AM (d + 1) 65 112 [.ref 3, .int k, .int p] I J R Q :=
  w_X6_wrong ⟨Or.inl rfl, hQ ((FrW.rf.u ⟨rfl, by decide⟩).u ⟨rfl, by decide⟩)⟩
theorem px_mis (h : Rd T e a I J) (hQ : ∀ I2 J2, FrR I J I2 J2 → Ft (mis T e a) I2 → Q 0 0 I2 J2 R) : AM (d + 2) 66 112 [.ref 3] I J R Q := by
  refine w_X6_misplaced ⟨fun c => px_wrong (fun hF _ => ⟨Or.inl rfl, hQ _ _ hF ⟨?_, ?_, ?_⟩⟩), fun c => px_wrong (fun hF _ => ⟨Or.inl rfl, hQ _ _ hF ⟨?_, ?_, ?_⟩⟩)⟩
  · rw [rd_k (by decide), rd_eq]
    unfold mis
    rw [if_neg (fun q => c ((h.k_is (n := 4) (by omega)).mpr q))]; rfl
  · rw [rd_eq]; exact h.s
  · exact mis_in
  · rw [rd_k (by decide), rd_eq]
    unfold mis
    rw [if_pos ((h.k_is (n := 4) (by omega)).mp c)]; rfl
  · rw [rd_eq]; exact h.s
  · exact mis_in
theorem px_wt {k s : Nat} (hk : 1 ≤ k ∧ k ≤ 7) (h7 : I 3 7 = nI s) (hQ : ∀ I2, FrR I J I2 J → Ft (k, s) I2 → Q 0 0 I2 J R) : AM (d + 2) 67 112 [.ref 3, .int (nI k)] I J R Q :=
  w_X6_wrongTaken (px_wrong (fun hF _ => ⟨Or.inl rfl, hQ _ hF ⟨by rw [rd_k (by decide), rd_eq], by rw [rd_eq]; exact h7, hk⟩⟩))
theorem px_word {i : Int32} (h : Rd T e a I J) (hE : ∀ p I2 J2, tkW T e i a = .error p → FrR I J I2 J2 → Ft p I2 → Q 0 0 I2 J2 R) (hK : ∀ b I2 J2, tkW T e i a = .ok ((), b) → FrR I J I2 J2 → Rd T e b I2 J2 → Q 1 0 I2 J2 R) : AM (d + 4) 69 112 [.ref 3, .int i] I J R Q := by
  refine w_X6_takeWord ⟨fun c => px_mis h (fun I2 J2 hF hf _ => ⟨Or.inl rfl, hE _ I2 J2 ?_ hF hf⟩), fun c => px_any h (fun I2 J2 hF h2 h7 _ => ⟨Or.inr rfl, hK _ I2 J2 ?_ hF h2⟩)⟩
  · unfold tkW
    rw [if_neg (fun q => c (h.w.trans q))]
  · unfold tkW
    rw [if_pos (h.w.symm.trans c)]
theorem px_semi (h : Rd T e a I J) (hE : ∀ p I2 J2, tkS T e a = .error p → FrR I J I2 J2 → Ft p I2 → Q 0 0 I2 J2 R) (hK : ∀ b I2 J2, tkS T e a = .ok ((), b) → FrR I J I2 J2 → Rd T e b I2 J2 → Q 1 0 I2 J2 R) : AM (d + 4) 70 112 [.ref 3] I J R Q := by
  refine w_X6_takeSemicolon ⟨fun c => px_mis h (fun I2 J2 hF hf _ => ⟨Or.inl rfl, hE _ I2 J2 ?_ hF hf⟩), fun c => ?_⟩
  · unfold tkS
    rw [if_neg (fun q => c ((h.k_is (n := 3) (by omega)).mpr q))]
  have hk := (h.k_is (n := 3) (by omega)).mp c
  refine ⟨fun c2 => px_mis h (fun I2 J2 hF hf _ => ⟨Or.inl rfl, hE _ I2 J2 ?_ hF hf⟩), fun c2 => px_any h (fun I2 J2 hF h2 h7 _ => ⟨Or.inr rfl, hK _ I2 J2 ?_ hF h2⟩)⟩
  · rw [h.v (by omega)] at c2
    unfold tkS
    rw [if_pos hk, if_neg c2]
  · rw [h.v (by omega)] at c2
    unfold tkS
    rw [if_pos hk, if_pos c2]
theorem px_num {lo hi : Int32} (h : Rd T e a I J) (hE : ∀ p I2 J2, tkN T e lo hi a = .error p → FrR I J I2 J2 → Ft p I2 → Q (-1) 0 I2 J2 R) (hK : ∀ v b I2 J2, tkN T e lo hi a = .ok (v, b) → lo ≤ v → v ≤ hi → FrR I J I2 J2 → Rd T e b I2 J2 → I2 3 7 = nI (tS (tok T e a)) → Q v 0 I2 J2 R) : AM (d + 3) 72 112 [.ref 3, .int lo, .int hi] I J R Q := by
  refine w_X6_takeNumber ⟨fun c => ?_, fun c => px_mis h (fun I2 J2 hF hf _ => hE _ I2 J2 ?_ hF hf)⟩
  · have hk := (h.k_is (n := 2) (by omega)).mp c
    have hv := h.v (by omega)
    refine px_adv h (fun I2 J2 hF h2 h7 => ?_)
    rw [hv]
    refine ⟨fun c2 => px_wt (k := 4) (by decide) h7 (fun I3 hF3 hf _ => hE _ I3 J2 ?_ (hF.ab.tr hF3) hf), fun c2 => ⟨fun c3 => hK _ _ I2 J2 ?_ (by rw [Int32.le_iff_toInt_le]; rw [Int32.lt_iff_toInt_lt] at c2; omega) c3 hF.ab h2 h7, fun c3 => px_wt (k := 4) (by decide) h7 (fun I3 hF3 hf _ => hE _ I3 J2 ?_ (hF.ab.tr hF3) hf)⟩⟩
    · unfold tkN
      rw [if_pos hk, if_pos c2]
    · unfold tkN
      rw [if_pos hk, if_neg c2, if_pos c3]
    · unfold tkN
      rw [if_pos hk, if_neg c2, if_neg c3]
  · unfold tkN
    rw [if_neg (fun q => c ((h.k_is (n := 2) (by omega)).mpr q))]
theorem px_name (h : Rd T e a I J) (hE : ∀ p I2 J2, tkM T e a = .error p → FrR I J I2 J2 → Ft p I2 → Q 0 0 I2 J2 R) (hK : ∀ w b I2 J2, tkM T e a = .ok (w, b) → ¬ w = 0 → FrR I J I2 J2 → Rd T e b I2 J2 → I2 3 7 = nI (tS (tok T e a)) → Q 0 w I2 J2 R) : AM (d + 3) 73 112 [.ref 3] I J R Q := by
  refine w_X6_takeName ⟨fun c => px_mis h (fun I2 J2 hF hf _ => hE _ I2 J2 ?_ hF hf), fun c => ?_⟩
  · unfold tkM
    rw [if_neg (fun q => c (h.w.trans q))]
  have hi : tI (tok T e a) = 0 := h.w.symm.trans c
  have hk := tI_k (t := tok T e a) (by rw [hi]; decide)
  rw [h.l hk, lg_cmp_eq]
  refine ⟨fun c2 => px_adv h (fun I2 J2 hF h2 h7 => hK _ _ I2 J2 ?_ c2 hF.ab h2 h7), fun c2 => px_mis h (fun I2 J2 hF hf _ => hE _ I2 J2 ?_ hF hf)⟩
  · unfold tkM
    rw [if_pos hi, if_neg c2]
  · unfold tkM
    rw [if_pos hi, if_pos c2]
end TAKE
