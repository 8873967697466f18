section PT16x14
section FXA
variable {I : Im} {J : Jm} {R : Rm} {Q : Qt}
end FXA
end PT16x14
section PT16x15
/-! ===== whether what is told is a row, one slice put in another's place: the reference's ===== -/
section IRA
variable {I : Im} {J : Jm} {R : Rm} {Q : Qt}
/-- the tray's numbers with one of them put in place -/
noncomputable def ovD (D : Nat → Nat) (pl sl : Int32) (i : Nat) : Int32 := if nI i = pl then sl else nI (D i)
theorem px_isRow9 {dd n : Nat} {a pl sl : Int32} {v : Int64} {l : Int} {D E : Nat → Nat} (ht : tr9 a) (hn : n ≤ 8) (hK : 0 ≤ (I 102 3).toInt) (hv : v.toInt = l) (hl : -1000000000000000 ≤ l ∧ l ≤ 1000000000000000) (hD : ∀ i, i < n → Int64.toInt32 (J 100 (60 * nn9 a + i)) = nI (D i)) (hE : ∀ i, i < n → ovD D pl sl i = nI (E i) ∧ 1 ≤ E i ∧ E i ≤ 30) (hY : RowP (I 102 3) E n l → Q 1 0 I J R) (hN : ¬ RowP (I 102 3) E n l → Q 0 0 I J R) : AM (dd + 2) 284 112 [.ref 97, .int a, .int (nI n), .int pl, .int sl, .long v] I J R Q := by
  have t3 : Int32.toNatClampNeg 3 = 3 := rfl
  have v3 : vp_in 3 1620 := vp_of (a := 3) rfl (by decide) (by decide)
  have z0 : (0 : Int64).toInt = 0 := rfl
  refine am_X12_isRow (fun P hc => sg_X12_isRow_0 hc _ _ _ _ _ _ _ _ ?_)
  have L : ∀ (f : Nat) (s : Int32) (r : Int64), f ≤ n → (0 ≤ s.toInt ∧ s.toInt < 1073741824) → (∀ d, 1 ≤ d → d ≤ 30 → (inS s (nI d) = true ↔ ∃ j, j < n - f ∧ E j = d)) → r.toInt = l - smD E (n - f) → (∀ j, j < n - f → inS (I 102 3) (nI (E j)) = true) → (∀ i j, i < j → j < n - f → ¬ E i = E j) → P 10 112 [(0, .ref 97), (1, .int a), (2, .int (nI n)), (3, .int pl), (4, .int sl), (7, .int s), (8, .long r), (10, .int (nI (n - f)))] [] I J R := by
    intro f
    induction f with
    | zero =>
      intro s r _ hs hm hr h3 h4
      refine sg_X12_isRow_10 hc _ _ _ _ _ _ _ _ _ _ ⟨fun _ => ⟨fun c => ⟨Or.inl rfl, hN (fun z => ?_)⟩, fun c => ⟨Or.inr rfl, hY ⟨h3, h4, ?_⟩⟩⟩, fun c => absurd ((nle_nI (b := n - 0) (by omega) (by omega)).mpr (by omega)) c⟩
      · rw [lg_cmp_eq] at c
        have := cl_ne hr z0 c
        have z2 : smD E n = l := z.2.2
        have e0 : smD E (n - 0) = smD E n := rfl
        omega
      · rw [lg_cmp_eq] at c
        have := cl_eq hr z0 c
        have e0 : smD E (n - 0) = smD E n := rfl
        omega
    | succ f ih =>
      intro s r hf hs hm hr h3 h4
      have en : nI (n - (f + 1)) + 1 = nI (n - f) := by rw [nI_k1]; exact congrArg nI (by omega)
      have es : smD E (n - f) = smD E (n - (f + 1)) + pt (E (n - (f + 1))) := by
        rw [show n - f = n - (f + 1) + 1 by omega]; rfl
      have hb := smD_b (D := E) (n - (f + 1)) (fun i hi => (hE i (by omega)).2)
      obtain ⟨ev, d1, d2⟩ := hE (n - (f + 1)) (by omega)
      obtain ⟨p1, p2, -⟩ := pt_b d1 d2
      have l1 : (1 : Int32) ≤ nI (E (n - (f + 1))) := (nle_nI (a := 1) (by omega) (by omega)).mpr d1
      have l2 : nI (E (n - (f + 1))) ≤ (30 : Int32) := (nle_nI (b := 30) (by omega) (by omega)).mpr d2
      -- one number: by its slice
      have step : AM (dd + 1) 189 112 [.int s, .int (nI (E (n - (f + 1))) - 1)] I J R (fun x2 y2 I2 J2 R2 => (x2 = 0 ∨ x2 = 1) → ((¬ x2 = (0 : Int32) → (((0 : Int32) = 0 ∨ (0 : Int32) = 1) ∧ Q 0 0 I2 J2 R)) ∧ (x2 = (0 : Int32) → (vp_in 3 1620 ∧ (AM (dd + 1) 189 112 [.int (I2 102 (Int32.toNatClampNeg 3)), .int (nI (E (n - (f + 1))) - 1)] I2 J2 R (fun x3 y3 I3 J3 R3 => (x3 = 0 ∨ x3 = 1) → ((¬ x3 = (0 : Int32) → (AM (dd + 1) 240 112 [.int (nI (E (n - (f + 1))))] I3 J3 R (fun x4 y4 I4 J4 R4 => P 10 112 [(0, .ref 97), (1, .int a), (2, .int (nI n)), (3, .int pl), (4, .int sl), (7, .int (s ||| (1 <<< ((nI (E (n - (f + 1))) - 1) &&& 31)))), (8, .long (r - y4)), (10, .int (nI (n - (f + 1)) + 1))] [] I4 J4 R))) ∧ (x3 = (0 : Int32) → (((0 : Int32) = 0 ∨ (0 : Int32) = 1) ∧ Q 0 0 I3 J3 R))))))))) := by
        refine px_isOf hs.1 l1 l2 (fun hi _ => ⟨fun _ => ⟨Or.inl rfl, hN (fun z => ?_)⟩, fun z => absurd z (by decide)⟩) (fun hi _ => ⟨fun z => absurd rfl z, fun _ => ⟨v3, ?_⟩⟩)
        · obtain ⟨j, hj, ej⟩ := (hm _ d1 d2).mp hi
          exact z.2.1 j (n - (f + 1)) hj (by omega) ej
        · rw [t3]
          refine px_isOf hK l1 l2 (fun hk _ => ⟨fun _ => px_parts d1 d2 (fun y hy => ?_), fun z => absurd z (by decide)⟩) (fun hk _ => ⟨fun z => absurd rfl z, fun _ => ⟨Or.inl rfl, hN (fun z => ?_)⟩⟩)
          · rw [en]
            refine ih _ (r - y) (by omega) (bi_in hs l1 l2) (fun x x1 x2 => ?_) ((tl_sub hr hy (by omega)).trans (by rw [es]; omega)) (fun j hj => ?_) (fun i j hij hj => ?_)
            · have e2 : inS (s ||| (1 <<< ((nI (E (n - (f + 1))) - 1) &&& 31))) (nI x) = (inS s (nI x) || decide (x = E (n - (f + 1)))) := inS_or9 hs d1 d2 x1 x2
              rw [e2, Bool.or_eq_true, decide_eq_true_eq, hm x x1 x2]
              constructor
              · intro z
                rcases z with ⟨j, hj, ej⟩ | z
                · exact ⟨j, by omega, ej⟩
                · exact ⟨n - (f + 1), by omega, z.symm⟩
              · intro ⟨j, hj, ej⟩
                by_cases y2 : j = n - (f + 1)
                · subst y2; exact Or.inr ej.symm
                · exact Or.inl ⟨j, by omega, ej⟩
            · by_cases y2 : j = n - (f + 1)
              · subst y2; exact hk
              · exact h3 j (by omega)
            · by_cases y2 : j = n - (f + 1)
              · subst y2
                intro z
                have hh := (hm _ d1 d2).mpr ⟨i, hij, z⟩
                rw [hi] at hh
                cases hh
              · exact h4 i j hij (by omega)
          · have kd := z.1 (n - (f + 1)) (by omega)
            rw [hk] at kd
            cases kd
      refine sg_X12_isRow_10 hc _ _ _ _ _ _ _ _ _ _ ⟨fun c => absurd ((nle_nI (by omega) (by omega)).mp c) (by omega), fun _ => ⟨fun c => ?_, fun c => ?_⟩⟩
      · have hd := hD (n - (f + 1)) (by omega)
        have eo : ovD D pl sl (n - (f + 1)) = nI (D (n - (f + 1))) := if_neg c
        rw [eo] at ev
        obtain ⟨ix, vx⟩ := ix60 (b := nI (n - (f + 1))) ht (by rw [nI_toInt (by omega)]; omega) (by rw [nI_toInt (by omega)]; omega)
        refine w_X12_numberOf ⟨vx, ?_⟩
        rw [ix, show nn9 (nI (n - (f + 1))) = n - (f + 1) from tn_nI (by omega), hd, ev]
        exact step
      · have eo : ovD D pl sl (n - (f + 1)) = sl := if_pos c
        rw [eo] at ev
        rw [ev] at step ⊢
        exact step
  have k := L n 0 v (Nat.le_refl _) (by decide) (fun d d1 d2 => ?_) (by rw [Nat.sub_self]; show v.toInt = l - 0; omega) (fun j hj => absurd hj (by omega)) (fun i j hij hj => absurd hj (by omega))
  · rw [Nat.sub_self] at k
    exact k
  · have e : inS 0 (nI d) = false := by
      unfold inS
      rw [Int32.zero_and]; rfl
    rw [e]
    exact ⟨(fun z => absurd z Bool.false_ne_true), (fun ⟨j, hj, _⟩ => absurd hj (by omega))⟩
end IRA
end PT16x15
