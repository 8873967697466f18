/-! ===== the scribe's reader: words, tokens ===== -/
theorem rd_wrd {d : Nat} {Q : Nat → Qt} {P : Kt} (hc : Cl (AM d) true false 0 (fun _ => 0) 0 112 kX6_readWord Q P) {T : Nat → Int32} {e s : Nat} {I0 : Im} {J0 : Jm} {R : Rm} (he : e ≤ 900) (hQ : ∀ I2 J2, FrW (WR [5, 8, 9]) VR I0 J0 I2 J2 → I2 3 5 = nI (rnX isLe T e s) → I2 3 8 = 1 → J2 3 10 = leN T s (rnX isLe T e s - s) → P 101 112 [(0, .ref 3)] [] I2 J2 R) :
    ∀ (m i : Nat) (I : Im) (J : Jm), e - i < m → s ≤ i → i ≤ e → rnX isLe T e i = rnX isLe T e s → FrW (WR [5, 8, 9]) VR I0 J0 I J → I 4 = T → I 3 4 = nI e → I 3 5 = nI i → I 3 6 = nI s → I 3 8 = 1 → J 3 10 = leN T s (i - s) → P 15 112 [(0, .ref 3), (1, .int (nI i))] [] I J R := by
  intro m
  induction m with
  | zero => intro i I J h; omega
  | succ m ih =>
    intro i I J hm h1 h2 hr hF hT h4 h5 h6 h8 h10
    have exit : rnX isLe T e i = i → P 101 112 [(0, .ref 3)] [] I J R := fun hz => by
      rw [hz] at hr
      exact hQ _ _ hF (by rw [← hr]; exact h5) h8 (by rw [← hr]; exact h10)
    refine sg_X6_readWord_15 hc _ _ _ _ ?_
    rw [h4, hT, tn_nI (by omega)]
    refine ⟨fun c => exit ?_, fun c => ⟨vp_nI (by omega) ?_, fun c2 => exit ?_, fun c2 => ⟨vp_nI (by omega) ?_, fun c3 => exit ?_, fun c3 => ?_⟩⟩⟩
    · exact rnX_z (fun q => absurd ((nle_nI (by omega) (by omega)).mp c) (by omega))
    · have := gt_of (a := e) (b := i) (by omega) (by omega) c; omega
    · exact rnX_z (fun _ => bf_of (fun q => (isLe_t.mp q).1 c2))
    · have := gt_of (a := e) (b := i) (by omega) (by omega) c; omega
    · exact rnX_z (fun _ => bf_of (fun q => (isLe_t.mp q).2 c3))
    · have hi : i < e := by have := gt_of (a := e) (b := i) (by omega) (by omega) c; omega
      have hd := rnX_s (p := isLe) hi (isLe_t.mpr ⟨c2, c3⟩)
      rw [nI_k1, rd_eq, rd_k (show ¬ 6 = 5 by decide), h6, nI_sub (by omega) (by omega)]
      have hF2 : ∀ v, FrW (WR [5, 8, 9]) VR I0 J0 (uI I 3 5 (nI (i + 1))) (uJ J 3 10 v) := fun v => (hF.u ⟨rfl, by decide⟩).uj ⟨rfl, rfl⟩
      have hT2 : uI I 3 5 (nI (i + 1)) 4 = T := (uI_ne (by decide)).trans hT
      have go : ∀ v, v = leN T s (i + 1 - s) → P 15 112 [(0, .ref 3), (1, .int (nI (i + 1)))] [] (uI I 3 5 (nI (i + 1))) (uJ J 3 10 v) R := fun v hv =>
        ih (i + 1) _ _ (by omega) (by omega) (by omega) (by rw [← hd]; exact hr) (hF2 v) hT2 (by rw [rd_k (by decide)]; exact h4) rd_eq (by rw [rd_k (by decide)]; exact h6) (by rw [rd_k (by decide)]; exact h8) (by rw [rj_eq]; exact hv)
      have e1 : leN T s (i + 1 - s) = if 8 ≤ i - s then 0 else leN T s (i - s) * 32 + Int32.toInt64 ((T i - 97) + 1) := by
        rw [show i + 1 - s = (i - s) + 1 by omega]
        conv => lhs; unfold leN
        rw [show s + (i - s) = i by omega]
      refine ⟨fun c4 => ⟨vp_nI (by omega) (by omega), go _ ?_⟩, fun c4 => go _ ?_⟩
      · have := (nle_nI (b := 8) (by omega) (by omega)).mp c4
        rw [e1, if_neg (by omega), h10, hT2]
      · have := gt_of (a := i + 1 - s) (b := 8) (by omega) (by omega) c4
        rw [e1, if_pos (by omega)]
theorem rd_wi {d : Nat} {Q : Nat → Qt} {P : Kt} (hc : Cl (AM d) true false 0 (fun _ => 0) 0 112 kX6_readWord Q P) {w : Int64} {I0 : Im} {J : Jm} {R : Rm} (hJ : ∀ k, k < 22 → J 5 k = rsv.getD k 0) (hw : J 3 10 = w) (hQ : ∀ I2, FrW (WR [9]) nV I0 J I2 J → I2 3 9 = wiN w 21 → Q 112 0 0 I2 J R) :
    ∀ (m n : Nat) (I : Im), 21 - n < m → n ≤ 21 → FrW (WR [9]) nV I0 J I J → I 3 9 = wiN w n → P 108 112 [(0, .ref 3), (1, .int (nI (n + 1)))] [] I J R := by
  intro m
  induction m with
  | zero => intro n I h; omega
  | succ m ih =>
    intro n I hm hn hF h9
    refine sg_X6_readWord_108 hc _ _ _ _ ?_
    refine ⟨fun c => ?_, fun c => ⟨?_, ?_⟩⟩
    · have := (nlt_nI (a := 21) (b := n + 1) (by omega) (by omega)).mp c
      obtain rfl : n = 21 := by omega
      exact hQ _ hF h9
    · have := ge_of (a := 21) (b := n + 1) (by omega) (by omega) c
      exact vp_nI (by omega) (by omega)
    · have hlt : n < 21 := by have := ge_of (a := 21) (b := n + 1) (by omega) (by omega) c; omega
      rw [tn_nI (by omega), hJ (n + 1) (by omega), hw, nI_k1, lg_cmp_eq]
      have e1 : wiN w (n + 1) = if rsv.getD (n + 1) 0 = w then nI (n + 1) else wiN w n := rfl
      refine ⟨fun c2 => ih (n + 1) _ (by omega) (by omega) hF ?_, fun c2 => ih (n + 1) _ (by omega) (by omega) (hF.u ⟨rfl, by decide⟩) ?_⟩
      · rw [e1, if_neg c2]; exact h9
      · rw [e1, if_pos c2, rd_eq]
theorem px_readWord {d : Nat} {Q : Qt} {T : Nat → Int32} {e s : Nat} {I : Im} {J : Jm} {R : Rm} (he : e ≤ 900) (hs : s ≤ e) (hT : I 4 = T) (h4 : I 3 4 = nI e) (h5 : I 3 5 = nI s) (h6 : I 3 6 = nI s) (hJ : ∀ k, k < 22 → J 5 k = rsv.getD k 0) (hQ : ∀ I2 J2, FrW (WR [5, 8, 9]) VR I J I2 J2 → I2 3 5 = nI (rnX isLe T e s) → I2 3 8 = 1 → I2 3 9 = wiN (leN T s (rnX isLe T e s - s)) 21 → J2 3 10 = leN T s (rnX isLe T e s - s) → Q 0 0 I2 J2 R) : AM (d + 1) 63 112 [.ref 3] I J R Q := by
  refine am_X6_readWord (fun P hc => sg_X6_readWord_0 hc _ _ _ ?_)
  rw [rd_k (by decide), h6]
  refine rd_wrd hc (I0 := I) (J0 := J) he (fun I2 J2 hF a b c => ?_) (e - s + 1) s _ _ (by omega) (Nat.le_refl _) hs rfl ((FrW.rf.u ⟨rfl, by decide⟩).uj ⟨rfl, rfl⟩) ((uI_ne (by decide)).trans hT) (by rw [rd_k (by decide)]; exact h4) (by rw [rd_k (by decide)]; exact h5) (by rw [rd_k (by decide)]; exact h6) rd_eq (by rw [rj_eq, Nat.sub_self]; rfl)
  refine sg_X6_readWord_101 hc _ _ _ (rd_wi hc (I0 := uI I2 3 9 0) (w := leN T s (rnX isLe T e s - s)) (fun k hk => ?_) c (fun I3 hF3 h9 => ?_) 22 0 _ (by omega) (by omega) FrW.rf rd_eq)
  · rw [hF.j (by intro q; exact absurd q.1 (by decide))]; exact hJ k hk
  · have hF4 : FrW (WR [5, 8, 9]) VR I2 J2 I3 J2 := (FrW.rf.u (o := 3) (k := 9) (v := 0) ⟨rfl, by decide⟩).tr (hF3.up (WR.up (by decide)) nV.up)
    exact hQ I3 J2 (hF.tr hF4) (by rw [hF3.i (by decide), rd_k (by decide)]; exact a) (by rw [hF3.i (by decide), rd_k (by decide)]; exact b) h9 c
/-! a token more -/
/-- the reader's fields tell the token behind place a -/
noncomputable def RdS (T : Nat → Int32) (e a : Nat) (I : Im) (J : Jm) : Prop := I 4 = T ∧ I 3 4 = nI e ∧ (∀ k, k < 22 → J 5 k = rsv.getD k 0) ∧ I 3 5 = nI (tB (tok T e a)) ∧ I 3 6 = nI (tS (tok T e a)) ∧ I 3 8 = nI (tK (tok T e a)) ∧ I 3 9 = tI (tok T e a) ∧ (tK (tok T e a) = 1 → J 3 10 = tW (tok T e a)) ∧ (2 ≤ tK (tok T e a) → I 3 11 = tV (tok T e a))
noncomputable abbrev wsA : List Nat := [5, 6, 7, 8, 9, 11]
theorem rd_bl {d : Nat} {Q : Nat → Qt} {P : Kt} (hc : Cl (AM d) true false 0 (fun _ => 0) 0 112 kX6_advance Q P) {T : Nat → Int32} {e a : Nat} {I0 : Im} {J : Jm} {R : Rm} (he : e ≤ 900) (hQ : ∀ I2, FrW (WR wsA) VR I0 J I2 J → I2 3 5 = nI (rnX isBl T e a) → I2 3 7 = I0 3 6 → P 56 112 [(0, .ref 3)] [] I2 J R) :
    ∀ (m i : Nat) (I : Im), e - i < m → i ≤ e → rnX isBl T e i = rnX isBl T e a → FrW (WR wsA) VR I0 J I J → I 4 = T → I 3 4 = nI e → I 3 5 = nI i → I 3 7 = I0 3 6 → P 13 112 [(0, .ref 3), (1, .int (nI i))] [] I J R := by
  intro m
  induction m with
  | zero => intro i I h; omega
  | succ m ih =>
    intro i I hm h2 hr hF hT h4 h5 h7
    have exit : rnX isBl T e i = i → P 56 112 [(0, .ref 3)] [] I J R := fun hz => by
      rw [hz] at hr
      exact hQ _ hF (by rw [← hr]; exact h5) h7
    have next : i < e → isBl (T i) = true → P 13 112 [(0, .ref 3), (1, .int (nI i + 1))] [] (uI I 3 5 (nI i + 1)) J R := fun hi hb => by
      rw [nI_k1]
      exact ih (i + 1) _ (by omega) (by omega) (by rw [← rnX_s (p := isBl) hi hb]; exact hr) (hF.u ⟨rfl, by decide⟩) ((uI_ne (by decide)).trans hT) (by rw [rd_k (by decide)]; exact h4) rd_eq (by rw [rd_k (by decide)]; exact h7)
    refine sg_X6_advance_13 hc _ _ _ _ ?_
    rw [h4, hT, tn_nI (by omega)]
    refine ⟨fun c => exit ?_, fun c => ?_⟩
    · exact rnX_z (fun q => absurd ((nle_nI (by omega) (by omega)).mp c) (by omega))
    · have hi : i < e := by have := gt_of (a := e) (b := i) (by omega) (by omega) c; omega
      refine ⟨vp_nI (by omega) (by omega), fun c2 => next hi (isBl_t.mpr (Or.inl c2)), fun c2 => ⟨vp_nI (by omega) (by omega), fun c3 => exit ?_, fun c3 => next hi (isBl_t.mpr (Or.inr c3))⟩⟩
      exact rnX_z (fun _ => bf_of (fun q => (isBl_t.mp q).elim c2 c3))
theorem px_advance {d : Nat} {Q : Qt} {T : Nat → Int32} {e a : Nat} {I : Im} {J : Jm} {R : Rm} (he : e ≤ 900) (ha : a ≤ e) (hT : I 4 = T) (h4 : I 3 4 = nI e) (h5 : I 3 5 = nI a) (hJ : ∀ k, k < 22 → J 5 k = rsv.getD k 0) (hQ : ∀ I2 J2, FrW (WR wsA) VR I J I2 J2 → RdS T e a I2 J2 → I2 3 7 = I 3 6 → Q 0 0 I2 J2 R) : AM (d + 2) 62 112 [.ref 3] I J R Q := by
  refine am_X6_advance (fun P hc => sg_X6_advance_0 hc _ _ _ ?_)
  rw [rd_k (by decide), h5]
  refine rd_bl hc (I0 := I) (T := T) (a := a) he (fun I2 hF g5 g7 => ?_) (e - a + 1) a _ (by omega) ha rfl (FrW.rf.u ⟨rfl, by decide⟩) ((uI_ne (by decide)).trans hT) (by rw [rd_k (by decide)]; exact h4) (by rw [rd_k (by decide)]; exact h5) rd_eq
  have hse := (rnX_in (p := isBl) (T := T) ha)
  have htok : tok T e a = tokW T e (rnX isBl T e a) := rfl
  generalize rnX isBl T e a = s at g5 hse htok
  have hT2 : I2 4 = T := (hF.c (WR.no (by decide))).trans hT
  have h42 : I2 3 4 = nI e := (hF.i (by decide)).trans h4
  have hJ2 : ∀ k, k < 22 → J 5 k = rsv.getD k 0 := hJ
  refine sg_X6_advance_56 hc _ _ _ ?_
  have hF3 : FrW (WR wsA) VR I J (uI (uI I2 3 6 (I2 3 5)) 3 9 (-1)) J := (hF.u ⟨rfl, by decide⟩).u ⟨rfl, by decide⟩
  have m4 : uI (uI I2 3 6 (I2 3 5)) 3 9 (-1) 4 = T := (uI_ne (by decide)).trans ((uI_ne (by decide)).trans hT2)
  have m34 : uI (uI I2 3 6 (I2 3 5)) 3 9 (-1) 3 4 = nI e := by rw [rd_k (by decide), rd_k (by decide)]; exact h42
  have m35 : uI (uI I2 3 6 (I2 3 5)) 3 9 (-1) 3 5 = nI s := by rw [rd_k (by decide), rd_k (by decide)]; exact g5
  have m36 : uI (uI I2 3 6 (I2 3 5)) 3 9 (-1) 3 6 = nI s := by rw [rd_k (by decide), rd_eq]; exact g5
  have m37 : uI (uI I2 3 6 (I2 3 5)) 3 9 (-1) 3 7 = I 3 6 := by rw [rd_k (by decide), rd_k (by decide)]; exact g7
  have m39 : uI (uI I2 3 6 (I2 3 5)) 3 9 (-1) 3 9 = -1 := rd_eq
  generalize uI (uI I2 3 6 (I2 3 5)) 3 9 (-1) = M at hF3 m4 m34 m35 m36 m37 m39
  rw [m34, m35, m4, tn_nI (by omega)]
  refine ⟨fun c => ?_, fun c => ?_⟩
  · have hs : s < e := (nlt_nI (by omega) (by omega)).mp c
    -- what no letter begins
    have noL : isLe (T s) = false → P 115 112 [(0, .ref 3), (1, .int (T s))] [] M J R := fun hl => by
      have ht : tok T e a = if isDi (T s) = true then (s, (if rnX isDi T e s - s ≤ 4 then 2 else 4), diN T s (rnX isDi T e s - s), 0, rnX isDi T e s) else (s, (if isSg (T s) = true then 3 else 4), T s, 0, s + 1) := by
        rw [htok]
        unfold tokW
        rw [if_neg (by omega), if_neg (by rw [hl]; decide)]
      have noD : isDi (T s) = false → P 134 112 [(0, .ref 3), (1, .int (T s))] [] M J R := fun hd => by
        rw [if_neg (by rw [hd]; decide)] at ht
        have fin : ∀ v : Int32, v = nI (if isSg (T s) = true then 3 else 4) → Q 0 0 (uI (uI (uI M 3 8 v) 3 11 (T s)) 3 5 (((uI (uI M 3 8 v) 3 11 (T s)) 3 5) + 1)) J R := fun v hv => by
          have e5 : ((uI (uI M 3 8 v) 3 11 (T s)) 3 5) + 1 = nI (s + 1) := by rw [rd_k (by decide), rd_k (by decide), m35, nI_k1]
          rw [e5]
          refine hQ _ _ (((hF3.u ⟨rfl, by decide⟩).u ⟨rfl, by decide⟩).u ⟨rfl, by decide⟩) ?_ ?_
          · refine ⟨?_, ?_, hJ2, ?_, ?_, ?_, ?_, fun q => ?_, fun q => ?_⟩
            · exact (uI_ne (by decide)).trans ((uI_ne (by decide)).trans ((uI_ne (by decide)).trans m4))
            · rw [rd_k (by decide), rd_k (by decide), rd_k (by decide)]; exact m34
            · rw [rd_eq, ht]; rfl
            · rw [rd_k (by decide), rd_k (by decide), rd_k (by decide), ht]; exact m36
            · rw [rd_k (by decide), rd_k (by decide), rd_eq, ht]; exact hv
            · rw [rd_k (by decide), rd_k (by decide), rd_k (by decide), m39, ht]
              unfold tI
              rw [if_neg]
              show ¬ (if isSg (T s) = true then 3 else 4) = 1
              split <;> decide
            · rw [ht] at q
              change (if isSg (T s) = true then 3 else 4) = 1 at q
              split at q <;> exact absurd q (by decide)
            · rw [rd_k (by decide), rd_eq, ht]; rfl
          · rw [rd_k (by decide), rd_k (by decide), rd_k (by decide)]; exact m37
        refine sg_X6_advance_134 hc _ _ _ _ ?_
        refine ⟨fun q => fin _ ?_, fun q => ⟨fun q2 => fin _ ?_, fun q2 => ⟨fun q3 => fin _ ?_, fun q3 => ⟨fun q4 => fin _ ?_, fun q4 => fin _ ?_⟩⟩⟩⟩
        · rw [if_pos (isSg_t.mpr (Or.inl q))]; rfl
        · rw [if_pos (isSg_t.mpr (Or.inr (Or.inl q2)))]; rfl
        · rw [if_pos (isSg_t.mpr (Or.inr (Or.inr (Or.inl q3))))]; rfl
        · rw [if_neg (isSg_no q q2 q3 q4)]; rfl
        · rw [if_pos (isSg_t.mpr (Or.inr (Or.inr (Or.inr q4))))]; rfl
      refine sg_X6_advance_115 hc _ _ _ _ ⟨fun q => noD (bf_of (fun z => (isDi_t.mp z).1 q)), fun q => ⟨fun q2 => noD (bf_of (fun z => (isDi_t.mp z).2 q2)), fun q2 => ?_⟩⟩
      rw [if_pos (isDi_t.mpr ⟨q, q2⟩)] at ht
      refine px_readNumber he (Nat.le_of_lt hs) m4 m34 m35 m36 (fun I3 hF4 h5 h8 h11 => ?_)
      refine hQ _ _ (hF3.tr (hF4.up (WR.up (by decide)) nV.up)) ⟨?_, ?_, hJ2, ?_, ?_, ?_, ?_, fun q => ?_, fun q => ?_⟩ ?_
      · exact (hF4.c (WR.no (by decide))).trans m4
      · rw [hF4.i (by decide)]; exact m34
      · rw [h5, ht]; rfl
      · rw [hF4.i (by decide), ht]; exact m36
      · rw [h8, ht]; rfl
      · rw [hF4.i (by decide), m39, ht]
        unfold tI
        rw [if_neg]
        show ¬ (if rnX isDi T e s - s ≤ 4 then 2 else 4) = 1
        split <;> decide
      · rw [ht] at q
        change (if rnX isDi T e s - s ≤ 4 then 2 else 4) = 1 at q
        split at q <;> exact absurd q (by decide)
      · rw [h11, ht]; rfl
      · rw [hF4.i (by decide)]; exact m37
    refine ⟨vp_nI (by omega) (by omega), fun q => noL (bf_of (fun z => (isLe_t.mp z).1 q)), fun q => ⟨fun q2 => noL (bf_of (fun z => (isLe_t.mp z).2 q2)), fun q2 => ?_⟩⟩
    have ht : tok T e a = (s, 1, 0, leN T s (rnX isLe T e s - s), rnX isLe T e s) := by
      rw [htok]
      unfold tokW
      rw [if_neg (by omega), if_pos (isLe_t.mpr ⟨q, q2⟩)]
    refine px_readWord he (Nat.le_of_lt hs) m4 m34 m35 m36 hJ2 (fun I3 J3 hF4 h5 h8 h9 h10 => ?_)
    refine hQ _ _ (hF3.tr (hF4.up (WR.up (by decide)) (fun _ _ z => z))) ⟨?_, ?_, ?_, ?_, ?_, ?_, ?_, fun _ => ?_, fun q => ?_⟩ ?_
    · exact (hF4.c (WR.no (by decide))).trans m4
    · rw [hF4.i (by decide)]; exact m34
    · intro k hk; rw [hF4.j (by intro z; exact absurd z.1 (by decide))]; exact hJ k hk
    · rw [h5, ht]; rfl
    · rw [hF4.i (by decide), ht]; exact m36
    · rw [h8, ht]; rfl
    · rw [h9, ht]; rfl
    · rw [h10, ht]; rfl
    · rw [ht] at q
      exact absurd (show (2 : Nat) ≤ 1 from q) (by decide)
    · rw [hF4.i (by decide)]; exact m37
  · have hs : s = e := by have := ge_of (a := s) (b := e) (by omega) (by omega) c; omega
    subst hs
    have ht : tok T s a = (s, 0, 0, 0, s) := by
      rw [htok]
      unfold tokW
      rw [if_pos (Nat.le_refl _)]
    refine hQ _ _ (hF3.u ⟨rfl, by decide⟩) ⟨?_, ?_, hJ2, ?_, ?_, ?_, ?_, fun q => ?_, fun q => ?_⟩ ?_
    · exact (uI_ne (by decide)).trans m4
    · rw [rd_k (by decide)]; exact m34
    · rw [rd_k (by decide), ht]; exact m35
    · rw [rd_k (by decide), ht]; exact m36
    · rw [rd_eq, ht]; rfl
    · rw [rd_k (by decide), m39, ht]; rfl
    · rw [ht] at q
      exact absurd (show (0 : Nat) = 1 from q) (by decide)
    · rw [ht] at q
      exact absurd (show (2 : Nat) ≤ 0 from q) (by decide)
    · rw [rd_k (by decide)]; exact m37
