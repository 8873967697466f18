/-! ===== the reference's reader: words ===== -/
theorem rsv_i : ∀ i, i < 22 → 1 ≤ i → wiN (rsv.getD i 0) 21 = nI i ∧ ¬ rsv.getD i 0 = 0 ∧ ¬ rsv.getD i 0 = -1 := by decide +kernel
theorem wiN_of {w : Int64} {j : Nat} (hj : 1 ≤ j ∧ j ≤ 21) : ∀ k, k ≤ 21 → wiN w k = nI j → rsv.getD j 0 = w := by
  intro k
  induction k with
  | zero => intro _ h; exact absurd ((nK (a := 0) (b := j) (by omega) (by omega)).mp h) (by omega)
  | succ k ih =>
    intro hk h
    unfold wiN at h
    split at h
    · rename_i q
      have := (nK (a := k + 1) (b := j) (by omega) (by omega)).mp h
      rw [← this]; exact q
    · exact ih (by omega) h
theorem wiN_in {w : Int64} : ∀ k, k ≤ 21 → ∃ j, j ≤ 21 ∧ wiN w k = nI j := by
  intro k
  induction k with
  | zero => intro _; exact ⟨0, by omega, rfl⟩
  | succ k ih =>
    intro hk
    unfold wiN
    split
    · exact ⟨k + 1, hk, rfl⟩
    · exact ih (by omega)
theorem wiN_iff {w : Int64} {i : Nat} (hi : 1 ≤ i ∧ i ≤ 21) : wiN w 21 = nI i ↔ w = rsv.getD i 0 := by
  constructor
  · intro h; exact (wiN_of hi 21 (by omega) h).symm
  · intro h; rw [h]; exact (rsv_i i (by omega) hi.1).1
theorem tI_in {t : Tok} (h : tK t = 1) : ∃ j, j ≤ 21 ∧ tI t = nI j := by
  unfold tI
  rw [if_pos h]
  exact wiN_in 21 (by omega)
noncomputable abbrev msB : List Nat := [12, 13, 14, 15, 16, 17, 18]
noncomputable abbrev FrM (I : Im) (J : Jm) (I2 : Im) (J2 : Jm) : Prop := FrW (WM msB) VM I J I2 J2
/-- the reference's reader ahead of place a, no fault -/
noncomputable def Mr (T : Nat → Int32) (e a : Nat) (I : Im) (J : Jm) : Prop := RmS T e a I J ∧ I 97 12 = 0 ∧ a ≤ e ∧ e ≤ 900 ∧ Byt T
noncomputable def FtM (p : Nat × Nat) (I : Im) : Prop := I 97 12 = nI p.1 ∧ I 97 13 = nI p.2 ∧ 1 ≤ p.1 ∧ p.1 ≤ 7
section MR
variable {T : Nat → Int32} {e a d : Nat} {I : Im} {J : Jm} {R : Rm} {Q : Qt}
theorem Mr.ha (h : Mr T e a I J) : a ≤ e := h.2.2.1
theorem Mr.he (h : Mr T e a I J) : e ≤ 900 := h.2.2.2.1
theorem Mr.f (h : Mr T e a I J) : I 97 12 = 0 := h.2.1
theorem Mr.s (h : Mr T e a I J) : I 97 15 = nI (tS (tok T e a)) := h.1.2.2.1
theorem Mr.b (h : Mr T e a I J) : I 97 16 = nI (tB (tok T e a)) := h.1.2.1
theorem Mr.k (h : Mr T e a I J) : I 97 14 = nI (tK (tok T e a)) := h.1.2.2.2.1
theorem Mr.w (h : Mr T e a I J) (q : tK (tok T e a) = 1) : J 97 19 = (if tW (tok T e a) = 0 then -1 else tW (tok T e a)) := (h.1.2.2.2.2.1 q).1
theorem Mr.v (h : Mr T e a I J) (q : tK (tok T e a) = 2 ∨ tK (tok T e a) = 3) : I 97 17 = tV (tok T e a) := h.1.2.2.2.2.2 q
theorem Mr.k_is {n : Nat} (h : Mr T e a I J) (hn : n ≤ 1000) : I 97 14 = nI n ↔ tK (tok T e a) = n := by
  have := tok_k (T := T) (e := e) (a := a)
  rw [h.k, nK (by omega) hn]
theorem Mr.o (h : Mr T e a I J) {I2 : Im} {J2 : Jm} (h3 : ∀ k, k = 9 ∨ k = 12 ∨ k = 14 ∨ k = 15 ∨ k = 16 ∨ k = 17 ∨ k = 18 → I2 97 k = I 97 k) (h4 : I2 101 = I 101) (j3 : J2 97 = J 97) : Mr T e a I2 J2 := by
  unfold Mr RmS Txt at h ⊢
  rw [h3 9 (by omega), h3 12 (by omega), h3 14 (by omega), h3 15 (by omega), h3 16 (by omega), h3 17 (by omega), h3 18 (by omega), h4, j3]
  exact h
theorem FtM.ne {p : Nat × Nat} (h : FtM p I) : ¬ I 97 12 = 0 ∧ ¬ I 97 12 ≤ 0 ∧ 0 < I 97 12 := by
  obtain ⟨h1, h2, h3, h4⟩ := h
  rw [h1]
  exact ⟨fun q => by have := (nK (a := p.1) (b := 0) (by omega) (by omega)).mp q; omega, fun q => by have := (nle_nI (a := p.1) (b := 0) (by omega) (by omega)).mp q; omega, (nlt_nI (a := 0) (b := p.1) (by omega) (by omega)).mpr (by omega)⟩
theorem Mr.le (h : Mr T e a I J) : I 97 12 ≤ 0 ∧ ¬ 0 < I 97 12 := by rw [h.f]; exact ⟨by decide, by decide⟩
theorem px_isWord {i : Nat} {w : Int64} (hi : 1 ≤ i ∧ i ≤ 21) (hw : w = rsv.getD i 0) (h : Mr T e a I J) (hY : tI (tok T e a) = nI i → Q 1 0 I J R) (hN : ¬ tI (tok T e a) = nI i → Q 0 0 I J R) : AM (d + 1) 198 112 [.ref 97, .long w] I J R Q := by
  have hr := rsv_i i (by omega) hi.1
  refine w_X12_isWord ⟨fun c => ⟨Or.inl rfl, hN (fun q => ?_)⟩, fun c => ?_⟩
  · have hk : ¬ tK (tok T e a) = 1 := fun z => c ((h.k_is (n := 1) (by omega)).mpr z)
    unfold tI at q
    rw [if_neg hk] at q
    exact absurd q.symm (fun z => by
      have h1 : (nI i).toInt = i := nI_ti (by omega)
      rw [z] at h1
      have : ((-1 : Int32)).toInt = -1 := rfl
      omega)
  · have hk : tK (tok T e a) = 1 := (h.k_is (n := 1) (by omega)).mp c
    have e1 : tI (tok T e a) = nI i ↔ tW (tok T e a) = w := by
      unfold tI
      rw [if_pos hk, wiN_iff hi, hw]
    have e2 : J 97 19 = w ↔ tW (tok T e a) = w := by
      rw [h.w hk]
      by_cases q : tW (tok T e a) = 0
      · rw [if_pos q, q, hw]
        exact ⟨fun z => absurd z.symm hr.2.2, fun z => absurd z.symm hr.2.1⟩
      · rw [if_neg q]
    rw [lg_cmp_eq, e2, ← e1]
    exact ⟨fun c2 => ⟨Or.inl rfl, hN c2⟩, fun c2 => ⟨Or.inr rfl, hY c2⟩⟩
noncomputable def spl (v0 v1 v2 v3 v4 : Int32) : Int64 :=
  if v2 ≤ 0 then
    (if v3 ≤ 0 then (if v4 ≤ 0 then (((((Int32.toInt64 v0) - 96) * 32) + (Int32.toInt64 v1)) - 96) else ((((((((Int32.toInt64 v0) - 96) * 32) + (Int32.toInt64 v1)) - 96) * 32) + (Int32.toInt64 v4)) - 96))
    else (if v4 ≤ 0 then ((((((((Int32.toInt64 v0) - 96) * 32) + (Int32.toInt64 v1)) - 96) * 32) + (Int32.toInt64 v3)) - 96) else (((((((((((Int32.toInt64 v0) - 96) * 32) + (Int32.toInt64 v1)) - 96) * 32) + (Int32.toInt64 v3)) - 96) * 32) + (Int32.toInt64 v4)) - 96)))
  else
    (if v3 ≤ 0 then (if v4 ≤ 0 then ((((((((Int32.toInt64 v0) - 96) * 32) + (Int32.toInt64 v1)) - 96) * 32) + (Int32.toInt64 v2)) - 96) else (((((((((((Int32.toInt64 v0) - 96) * 32) + (Int32.toInt64 v1)) - 96) * 32) + (Int32.toInt64 v2)) - 96) * 32) + (Int32.toInt64 v4)) - 96))
    else (if v4 ≤ 0 then (((((((((((Int32.toInt64 v0) - 96) * 32) + (Int32.toInt64 v1)) - 96) * 32) + (Int32.toInt64 v2)) - 96) * 32) + (Int32.toInt64 v3)) - 96) else ((((((((((((((Int32.toInt64 v0) - 96) * 32) + (Int32.toInt64 v1)) - 96) * 32) + (Int32.toInt64 v2)) - 96) * 32) + (Int32.toInt64 v3)) - 96) * 32) + (Int32.toInt64 v4)) - 96)))
theorem px_spell {v0 v1 v2 v3 v4 : Int32} (hQ : Q 0 (spl v0 v1 v2 v3 v4) I J R) : AM (d + 1) 197 112 [.int v0, .int v1, .int v2, .int v3, .int v4] I J R Q := by
  unfold spl at hQ
  refine w_X12_spelled ⟨fun c => ?_, fun c => ?_⟩
  · rw [if_pos c] at hQ
    refine ⟨fun c2 => ?_, fun c2 => ?_⟩
    · rw [if_pos c2] at hQ
      exact ⟨fun c3 => by rw [if_pos c3] at hQ; exact hQ, fun c3 => by rw [if_neg c3] at hQ; exact hQ⟩
    · rw [if_neg c2] at hQ
      exact ⟨fun c3 => by rw [if_pos c3] at hQ; exact hQ, fun c3 => by rw [if_neg c3] at hQ; exact hQ⟩
  · rw [if_neg c] at hQ
    refine ⟨fun c2 => ?_, fun c2 => ?_⟩
    · rw [if_pos c2] at hQ
      exact ⟨fun c3 => by rw [if_pos c3] at hQ; exact hQ, fun c3 => by rw [if_neg c3] at hQ; exact hQ⟩
    · rw [if_neg c2] at hQ
      exact ⟨fun c3 => by rw [if_pos c3] at hQ; exact hQ, fun c3 => by rw [if_neg c3] at hQ; exact hQ⟩
theorem px_isOdds (h : Mr T e a I J) (hY : tI (tok T e a) = 1 → Q 1 0 I J R) (hN : ¬ tI (tok T e a) = 1 → Q 0 0 I J R) : AM (d + 2) 199 112 [.ref 97] I J R Q :=
  w_X12_isOdds (px_spell (px_isWord (i := 1) (by decide) (by decide +kernel) h (fun q _ => ⟨Or.inr rfl, hY q⟩) (fun q _ => ⟨Or.inl rfl, hN q⟩)))
theorem px_isStore (h : Mr T e a I J) (hY : tI (tok T e a) = 2 → Q 1 0 I J R) (hN : ¬ tI (tok T e a) = 2 → Q 0 0 I J R) : AM (d + 2) 200 112 [.ref 97] I J R Q :=
  w_X12_isStore (px_spell (px_isWord (i := 2) (by decide) (by decide +kernel) h (fun q _ => ⟨Or.inr rfl, hY q⟩) (fun q _ => ⟨Or.inl rfl, hN q⟩)))
theorem px_isTimes (h : Mr T e a I J) (hY : tI (tok T e a) = 3 → Q 1 0 I J R) (hN : ¬ tI (tok T e a) = 3 → Q 0 0 I J R) : AM (d + 2) 201 112 [.ref 97] I J R Q :=
  w_X12_isTimes (px_spell (px_isWord (i := 3) (by decide) (by decide +kernel) h (fun q _ => ⟨Or.inr rfl, hY q⟩) (fun q _ => ⟨Or.inl rfl, hN q⟩)))
theorem px_isMan_ (h : Mr T e a I J) (hY : tI (tok T e a) = 4 → Q 1 0 I J R) (hN : ¬ tI (tok T e a) = 4 → Q 0 0 I J R) : AM (d + 2) 202 112 [.ref 97] I J R Q :=
  w_X12_isMan (px_spell (px_isWord (i := 4) (by decide) (by decide +kernel) h (fun q _ => ⟨Or.inr rfl, hY q⟩) (fun q _ => ⟨Or.inl rfl, hN q⟩)))
theorem px_isDue (h : Mr T e a I J) (hY : tI (tok T e a) = 5 → Q 1 0 I J R) (hN : ¬ tI (tok T e a) = 5 → Q 0 0 I J R) : AM (d + 2) 203 112 [.ref 97] I J R Q :=
  w_X12_isDue (px_spell (px_isWord (i := 5) (by decide) (by decide +kernel) h (fun q _ => ⟨Or.inr rfl, hY q⟩) (fun q _ => ⟨Or.inl rfl, hN q⟩)))
theorem px_isBy (h : Mr T e a I J) (hY : tI (tok T e a) = 6 → Q 1 0 I J R) (hN : ¬ tI (tok T e a) = 6 → Q 0 0 I J R) : AM (d + 2) 204 112 [.ref 97] I J R Q :=
  w_X12_isBy (px_spell (px_isWord (i := 6) (by decide) (by decide +kernel) h (fun q _ => ⟨Or.inr rfl, hY q⟩) (fun q _ => ⟨Or.inl rfl, hN q⟩)))
theorem px_isHas (h : Mr T e a I J) (hY : tI (tok T e a) = 7 → Q 1 0 I J R) (hN : ¬ tI (tok T e a) = 7 → Q 0 0 I J R) : AM (d + 2) 205 112 [.ref 97] I J R Q :=
  w_X12_isHas (px_spell (px_isWord (i := 7) (by decide) (by decide +kernel) h (fun q _ => ⟨Or.inr rfl, hY q⟩) (fun q _ => ⟨Or.inl rfl, hN q⟩)))
theorem px_isKnown (h : Mr T e a I J) (hY : tI (tok T e a) = 8 → Q 1 0 I J R) (hN : ¬ tI (tok T e a) = 8 → Q 0 0 I J R) : AM (d + 2) 206 112 [.ref 97] I J R Q :=
  w_X12_isKnown (px_spell (px_isWord (i := 8) (by decide) (by decide +kernel) h (fun q _ => ⟨Or.inr rfl, hY q⟩) (fun q _ => ⟨Or.inl rfl, hN q⟩)))
theorem px_isEnd (h : Mr T e a I J) (hY : tI (tok T e a) = 20 → Q 1 0 I J R) (hN : ¬ tI (tok T e a) = 20 → Q 0 0 I J R) : AM (d + 2) 209 112 [.ref 97] I J R Q :=
  w_X12_isEnd (px_spell (px_isWord (i := 20) (by decide) (by decide +kernel) h (fun q _ => ⟨Or.inr rfl, hY q⟩) (fun q _ => ⟨Or.inl rfl, hN q⟩)))
/-- a step's word, a test's, by the token's number -/
noncomputable def stW (i : Int32) : Int32 := if i = 9 then 0 else if i = 10 then 1 else if i = 11 then 2 else if i = 12 then 3 else if i = 13 then 4 else if i = 14 then 5 else if i = 15 then 6 else if i = 19 then 7 else if i = 21 then 8 else -1
noncomputable def teW (i : Int32) : Int32 := if i = 16 then 0 else if i = 17 then 1 else if i = 18 then 2 else -1
theorem px_stepWord (h : Mr T e a I J) (hQ : Q (stW (tI (tok T e a))) 0 I J R) : AM (d + 2) 207 112 [.ref 97] I J R Q := by
  unfold stW at hQ
  exact w_X12_stepWord (px_spell (px_isWord (i := 9) (by decide) (by decide +kernel) h (fun q _ => ⟨fun z => absurd z (by decide), fun _ => by rw [if_pos (show tI (tok T e a) = 9 from q)] at hQ; exact hQ⟩) (fun n0 _ => ⟨fun _ => px_spell (px_isWord (i := 10) (by decide) (by decide +kernel) h (fun q _ => ⟨fun z => absurd z (by decide), fun _ => by rw [if_neg (show ¬ tI (tok T e a) = 9 from n0), if_pos (show tI (tok T e a) = 10 from q)] at hQ; exact hQ⟩) (fun n1 _ => ⟨fun _ => px_spell (px_isWord (i := 11) (by decide) (by decide +kernel) h (fun q _ => ⟨fun z => absurd z (by decide), fun _ => by rw [if_neg (show ¬ tI (tok T e a) = 9 from n0), if_neg (show ¬ tI (tok T e a) = 10 from n1), if_pos (show tI (tok T e a) = 11 from q)] at hQ; exact hQ⟩) (fun n2 _ => ⟨fun _ => px_spell (px_isWord (i := 12) (by decide) (by decide +kernel) h (fun q _ => ⟨fun z => absurd z (by decide), fun _ => by rw [if_neg (show ¬ tI (tok T e a) = 9 from n0), if_neg (show ¬ tI (tok T e a) = 10 from n1), if_neg (show ¬ tI (tok T e a) = 11 from n2), if_pos (show tI (tok T e a) = 12 from q)] at hQ; exact hQ⟩) (fun n3 _ => ⟨fun _ => px_spell (px_isWord (i := 13) (by decide) (by decide +kernel) h (fun q _ => ⟨fun z => absurd z (by decide), fun _ => by rw [if_neg (show ¬ tI (tok T e a) = 9 from n0), if_neg (show ¬ tI (tok T e a) = 10 from n1), if_neg (show ¬ tI (tok T e a) = 11 from n2), if_neg (show ¬ tI (tok T e a) = 12 from n3), if_pos (show tI (tok T e a) = 13 from q)] at hQ; exact hQ⟩) (fun n4 _ => ⟨fun _ => px_spell (px_isWord (i := 14) (by decide) (by decide +kernel) h (fun q _ => ⟨fun z => absurd z (by decide), fun _ => by rw [if_neg (show ¬ tI (tok T e a) = 9 from n0), if_neg (show ¬ tI (tok T e a) = 10 from n1), if_neg (show ¬ tI (tok T e a) = 11 from n2), if_neg (show ¬ tI (tok T e a) = 12 from n3), if_neg (show ¬ tI (tok T e a) = 13 from n4), if_pos (show tI (tok T e a) = 14 from q)] at hQ; exact hQ⟩) (fun n5 _ => ⟨fun _ => px_spell (px_isWord (i := 15) (by decide) (by decide +kernel) h (fun q _ => ⟨fun z => absurd z (by decide), fun _ => by rw [if_neg (show ¬ tI (tok T e a) = 9 from n0), if_neg (show ¬ tI (tok T e a) = 10 from n1), if_neg (show ¬ tI (tok T e a) = 11 from n2), if_neg (show ¬ tI (tok T e a) = 12 from n3), if_neg (show ¬ tI (tok T e a) = 13 from n4), if_neg (show ¬ tI (tok T e a) = 14 from n5), if_pos (show tI (tok T e a) = 15 from q)] at hQ; exact hQ⟩) (fun n6 _ => ⟨fun _ => px_spell (px_isWord (i := 19) (by decide) (by decide +kernel) h (fun q _ => ⟨fun z => absurd z (by decide), fun _ => by rw [if_neg (show ¬ tI (tok T e a) = 9 from n0), if_neg (show ¬ tI (tok T e a) = 10 from n1), if_neg (show ¬ tI (tok T e a) = 11 from n2), if_neg (show ¬ tI (tok T e a) = 12 from n3), if_neg (show ¬ tI (tok T e a) = 13 from n4), if_neg (show ¬ tI (tok T e a) = 14 from n5), if_neg (show ¬ tI (tok T e a) = 15 from n6), if_pos (show tI (tok T e a) = 19 from q)] at hQ; exact hQ⟩) (fun n7 _ => ⟨fun _ => px_spell (px_isWord (i := 21) (by decide) (by decide +kernel) h (fun q _ => ⟨fun z => absurd z (by decide), fun _ => by rw [if_neg (show ¬ tI (tok T e a) = 9 from n0), if_neg (show ¬ tI (tok T e a) = 10 from n1), if_neg (show ¬ tI (tok T e a) = 11 from n2), if_neg (show ¬ tI (tok T e a) = 12 from n3), if_neg (show ¬ tI (tok T e a) = 13 from n4), if_neg (show ¬ tI (tok T e a) = 14 from n5), if_neg (show ¬ tI (tok T e a) = 15 from n6), if_neg (show ¬ tI (tok T e a) = 19 from n7), if_pos (show tI (tok T e a) = 21 from q)] at hQ; exact hQ⟩) (fun n8 _ => ⟨fun _ => by rw [if_neg (show ¬ tI (tok T e a) = 9 from n0), if_neg (show ¬ tI (tok T e a) = 10 from n1), if_neg (show ¬ tI (tok T e a) = 11 from n2), if_neg (show ¬ tI (tok T e a) = 12 from n3), if_neg (show ¬ tI (tok T e a) = 13 from n4), if_neg (show ¬ tI (tok T e a) = 14 from n5), if_neg (show ¬ tI (tok T e a) = 15 from n6), if_neg (show ¬ tI (tok T e a) = 19 from n7), if_neg (show ¬ tI (tok T e a) = 21 from n8)] at hQ; exact hQ, fun z => absurd rfl z⟩)), fun z => absurd rfl z⟩)), fun z => absurd rfl z⟩)), fun z => absurd rfl z⟩)), fun z => absurd rfl z⟩)), fun z => absurd rfl z⟩)), fun z => absurd rfl z⟩)), fun z => absurd rfl z⟩)), fun z => absurd rfl z⟩)))
theorem px_testWord (h : Mr T e a I J) (hQ : Q (teW (tI (tok T e a))) 0 I J R) : AM (d + 2) 208 112 [.ref 97] I J R Q := by
  unfold teW at hQ
  exact w_X12_testWord (px_spell (px_isWord (i := 16) (by decide) (by decide +kernel) h (fun q _ => ⟨fun z => absurd z (by decide), fun _ => by rw [if_pos (show tI (tok T e a) = 16 from q)] at hQ; exact hQ⟩) (fun n0 _ => ⟨fun _ => px_spell (px_isWord (i := 17) (by decide) (by decide +kernel) h (fun q _ => ⟨fun z => absurd z (by decide), fun _ => by rw [if_neg (show ¬ tI (tok T e a) = 16 from n0), if_pos (show tI (tok T e a) = 17 from q)] at hQ; exact hQ⟩) (fun n1 _ => ⟨fun _ => px_spell (px_isWord (i := 18) (by decide) (by decide +kernel) h (fun q _ => ⟨fun z => absurd z (by decide), fun _ => by rw [if_neg (show ¬ tI (tok T e a) = 16 from n0), if_neg (show ¬ tI (tok T e a) = 17 from n1), if_pos (show tI (tok T e a) = 18 from q)] at hQ; exact hQ⟩) (fun n2 _ => ⟨fun _ => by rw [if_neg (show ¬ tI (tok T e a) = 16 from n0), if_neg (show ¬ tI (tok T e a) = 17 from n1), if_neg (show ¬ tI (tok T e a) = 18 from n2)] at hQ; exact hQ, fun z => absurd rfl z⟩)), fun z => absurd rfl z⟩)), fun z => absurd rfl z⟩)))
theorem kp_tab : ∀ j, j ≤ 21 → (¬ nI j = 1 ∧ ¬ nI j = 2 ∧ ¬ nI j = 3 ∧ ¬ nI j = 4 ∧ ¬ nI j = 5 ∧ ¬ nI j = 6 ∧ ¬ nI j = 7 ∧ ¬ nI j = 8 ∧ ¬ 0 ≤ stW (nI j) ∧ ¬ 0 ≤ teW (nI j) ∧ ¬ nI j = 20) → j = 0 := by decide +kernel
theorem kp_0 : ¬ (0 : Int32) ≤ stW 0 ∧ ¬ (0 : Int32) ≤ teW 0 := by decide
/-- a word that is kept -/
theorem px_isKept (hk : tK (tok T e a) = 1) (h : Mr T e a I J) (hY : ¬ tI (tok T e a) = 0 → Q 1 0 I J R) (hN : tI (tok T e a) = 0 → Q 0 0 I J R) : AM (d + 3) 210 112 [.ref 97] I J R Q := by
  have yes : ∀ i : Int32, ¬ i = 0 → tI (tok T e a) = i → (((1 : Int32) = 0 ∨ (1 : Int32) = 1) ∧ Q 1 0 I J R) := fun i hi q => ⟨Or.inr rfl, hY (by rw [q]; exact hi)⟩
  refine w_X12_isKept (px_isOdds h (fun q _ => ⟨fun _ => yes 1 (by decide) q, fun z => absurd z (by decide)⟩) (fun n1 _ => ⟨fun z => absurd rfl z, fun _ => ?_⟩))
  refine px_isStore h (fun q _ => ⟨fun _ => yes 2 (by decide) q, fun z => absurd z (by decide)⟩) (fun n2 _ => ⟨fun z => absurd rfl z, fun _ => ?_⟩)
  refine px_isTimes h (fun q _ => ⟨fun _ => yes 3 (by decide) q, fun z => absurd z (by decide)⟩) (fun n3 _ => ⟨fun z => absurd rfl z, fun _ => ?_⟩)
  refine px_isMan_ h (fun q _ => ⟨fun _ => yes 4 (by decide) q, fun z => absurd z (by decide)⟩) (fun n4 _ => ⟨fun z => absurd rfl z, fun _ => ?_⟩)
  refine px_isDue h (fun q _ => ⟨fun _ => yes 5 (by decide) q, fun z => absurd z (by decide)⟩) (fun n5 _ => ⟨fun z => absurd rfl z, fun _ => ?_⟩)
  refine px_isBy h (fun q _ => ⟨fun _ => yes 6 (by decide) q, fun z => absurd z (by decide)⟩) (fun n6 _ => ⟨fun z => absurd rfl z, fun _ => ?_⟩)
  refine px_isHas h (fun q _ => ⟨fun _ => yes 7 (by decide) q, fun z => absurd z (by decide)⟩) (fun n7 _ => ⟨fun z => absurd rfl z, fun _ => ?_⟩)
  refine px_isKnown h (fun q _ => ⟨fun z => absurd z (by decide), fun _ => yes 8 (by decide) q⟩) (fun n8 _ => ⟨fun _ => ?_, fun z => absurd rfl z⟩)
  refine px_stepWord h ⟨fun q => ⟨Or.inr rfl, hY (fun z => by rw [z] at q; exact kp_0.1 q)⟩, fun n9 => ?_⟩
  refine px_testWord h ⟨fun q => ⟨Or.inr rfl, hY (fun z => by rw [z] at q; exact kp_0.2 q)⟩, fun n10 => ?_⟩
  refine px_isEnd h (fun q _ => ⟨fun z => absurd z (by decide), fun _ => yes 20 (by decide) q⟩) (fun n11 _ => ⟨fun _ => ⟨Or.inl rfl, hN ?_⟩, fun z => absurd rfl z⟩)
  obtain ⟨j, hj, ej⟩ := tI_in hk
  rw [ej] at n1 n2 n3 n4 n5 n6 n7 n8 n9 n10 n11 ⊢
  rw [kp_tab j hj ⟨n1, n2, n3, n4, n5, n6, n7, n8, n9, n10, n11⟩]; rfl
theorem px_isName (h : Mr T e a I J) (hY : tI (tok T e a) = 0 → ¬ tW (tok T e a) = 0 → Q 1 0 I J R) (hN : ¬ tI (tok T e a) = 0 ∨ tW (tok T e a) = 0 → Q 0 0 I J R) : AM (d + 4) 211 112 [.ref 97] I J R Q := by
  refine w_X12_isName ⟨fun c => ⟨Or.inl rfl, hN (Or.inl (fun q => ?_))⟩, fun c => ?_⟩
  · exact c ((h.k_is (n := 1) (by omega)).mpr (tI_k (by rw [q]; decide)))
  · have hk : tK (tok T e a) = 1 := (h.k_is (n := 1) (by omega)).mp c
    obtain ⟨-, hl, h8⟩ := h.1.2.2.2.2.1 hk
    have hb := tok_b (T := T) h.ha
    have he := h.he
    rw [hl, show ((8 : Int32) < nI (tB (tok T e a) - tS (tok T e a))) ↔ 8 < tB (tok T e a) - tS (tok T e a) from nlt_nI (a := 8) (by omega) (by omega), ← h8]
    refine ⟨fun c2 => ⟨Or.inl rfl, hN (Or.inr c2)⟩, fun c2 => px_isKept hk h (fun q _ => ⟨fun _ => ⟨Or.inl rfl, hN (Or.inl q)⟩, fun z => absurd z (by decide)⟩) (fun q _ => ⟨fun z => absurd rfl z, fun _ => ⟨Or.inr rfl, hY q c2⟩⟩)⟩
end MR
