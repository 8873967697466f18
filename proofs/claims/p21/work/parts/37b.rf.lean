/-! ===== the reference's reader: a token more ===== -/
theorem rf_bl {d : Nat} {Q : Nat → Qt} {P : Kt} (hc : Cl (AM (d + 1)) true false 0 (fun _ => 0) 0 112 kX12_advance Q P) {T : Nat → Int32} {e a : Nat} {I0 : Im} {J : Jm} {R : Rm} (he : e ≤ 900) (hB : Byt T) (hQ : ∀ I2, FrW (WM msA) VM I0 J I2 J → I2 97 15 = nI (rnX isBl T e a) → P 58 112 [(0, .ref 97)] [] I2 J R) :
    ∀ (m i : Nat) (I : Im), e - i < m → i ≤ e → rnX isBl T e i = rnX isBl T e a → FrW (WM msA) VM I0 J I J → Txt T e I → I 97 15 = nI i → P 8 112 [(0, .ref 97)] [] I J R := by
  intro m
  induction m with
  | zero => intro i I h; omega
  | succ m ih =>
    intro i I hm h2 hr hF hT h5
    have exit : rnX isBl T e i = i → P 58 112 [(0, .ref 97)] [] I J R := fun hz => by
      rw [hz] at hr
      exact hQ _ hF (by rw [← hr]; exact h5)
    have next : i < e → isBl (T i) = true → P 8 112 [(0, .ref 97)] [] (uI I 97 15 (nI i + 1)) J R := fun hi hb => by
      rw [nI_k1]
      refine ih (i + 1) _ (by omega) (by omega) (by rw [← rnX_s (p := isBl) hi hb]; exact hr) (hF.u ⟨rfl, by decide⟩) ⟨fun j hj => ?_, ?_⟩ rd_eq
      · rw [rd_ne (by decide)]; exact hT.1 j hj
      · rw [rd_k (by decide)]; exact hT.2
    refine sg_X12_advance_8 hc _ _ _ ?_
    rw [hT.2, h5]
    refine ⟨fun c => exit ?_, fun c => ?_⟩
    · exact rnX_z (fun q => absurd ((nle_nI (by omega) (by omega)).mp c) (by omega))
    · have hi : i < e := by have := gt_of (a := e) (b := i) (by omega) (by omega) c; omega
      refine px_look2 hT he (by omega) rfl ?_
      rw [lk_c hB hi (n := 10) (by decide), h5]
      refine ⟨fun c2 => next hi (isBl_t.mpr (Or.inr c2)), fun c2 => px_look2 hT he (by omega) rfl ?_⟩
      rw [lk_c hB hi (n := 32) (by decide), h5]
      refine ⟨fun c3 => exit ?_, fun c3 => next hi (isBl_t.mpr (Or.inl c3))⟩
      exact rnX_z (fun _ => bf_of (fun q => (isBl_t.mp q).elim c3 c2))
theorem rf_wrd {d : Nat} {Q : Nat → Qt} {P : Kt} (hc : Cl (AM (d + 1)) true false 0 (fun _ => 0) 0 112 kX12_advance Q P) {T : Nat → Int32} {e s : Nat} {I0 : Im} {J0 : Jm} {R : Rm} (he : e ≤ 900) (hB : Byt T) (hQ : ∀ I2 J2, FrW (WM [16, 18]) VM I0 J0 I2 J2 → I2 97 16 = nI (rnX isLe T e s) → I2 97 18 = nI (rnX isLe T e s - s) → J2 97 19 = leR T s (rnX isLe T e s - s) → (∀ j, j < rnX isLe T e s - s → isLe (T (s + j)) = true) → Q 112 0 0 I2 J2 R) :
    ∀ (m i : Nat) (I : Im) (J : Jm), e - i < m → s ≤ i → i ≤ e → rnX isLe T e i = rnX isLe T e s → (∀ j, j < i - s → isLe (T (s + j)) = true) → FrW (WM [16, 18]) VM I0 J0 I J → Txt T e I → I 97 16 = nI i → I 97 15 = nI s → J 97 19 = leR T s (i - s) → P 109 112 [(0, .ref 97)] [] I J R := by
  intro m
  induction m with
  | zero => intro i I J h; omega
  | succ m ih =>
    intro i I J hm h1 h2 hr hall hF hT h6 h5 hJ
    refine sg_X12_advance_109 hc _ _ _ ?_
    refine px_look2 hT he (by omega) h6 (px_isLetter (fun hl _ => ⟨fun q => absurd q (by decide), fun _ => ?_⟩) (fun hl _ => ⟨fun _ => ?_, fun q => absurd rfl q⟩))
    · obtain ⟨hi, hl⟩ := (lk_le hB).mp hl
      have hd := rnX_s (p := isLe) hi hl
      have hx := (isLe_i (x := T i) rfl).mp hl
      have hT2 : Txt T e (uI I 97 16 (nI (i + 1))) := ⟨fun j hj => by rw [rd_ne (by decide)]; exact hT.1 j hj, by rw [rd_k (by decide)]; exact hT.2⟩
      have hall2 : ∀ j, j < i + 1 - s → isLe (T (s + j)) = true := fun j hj => by
        by_cases q : j = i - s
        · rw [q, show s + (i - s) = i by omega]; exact hl
        · exact hall j (by omega)
      rw [h6, h5, nI_sub (by omega) h1, nI_k1]
      have go : ∀ v, v = leR T s (i + 1 - s) → P 109 112 [(0, .ref 97)] [] (uI I 97 16 (nI (i + 1))) (uJ J 97 19 v) R := fun v hv =>
        ih (i + 1) _ _ (by omega) (by omega) (by omega) (by rw [← hd]; exact hr) hall2 ((hF.u ⟨rfl, by decide⟩).uj ⟨rfl, rfl⟩) hT2 rd_eq (by rw [rd_k (by decide)]; exact h5) (by rw [rj_eq]; exact hv)
      refine ⟨fun c => go _ ?_, fun c => px_look2 hT he (by omega) rfl ?_⟩
      · have := (nle_nI (a := 8) (by omega) (by omega)).mp c
        unfold leR
        rw [if_pos (by omega)]
      · have := gt_of (a := 8) (b := i - s) (by omega) (by omega) c
        rw [h6, nI_k1]
        refine go _ ?_
        unfold leR at hJ ⊢
        rw [if_neg (by omega)] at hJ ⊢
        rw [hJ, lk_eq hB hi (by omega), show i + 1 - s = (i - s) + 1 by omega, let_eq hx]
        rw [leN_s, if_neg (by omega), show s + (i - s) = i by omega]
    · have hz : rnX isLe T e i = i := rnX_z (fun q => bf_of (fun z => by rw [(lk_le hB).mpr ⟨q, z⟩] at hl; cases hl))
      rw [hz] at hr
      rw [h6, h5, nI_sub (by omega) h1]
      exact hQ _ _ (hF.u ⟨rfl, by decide⟩) (by rw [rd_k (by decide), ← hr]; exact h6) (by rw [rd_eq, ← hr]) (by rw [← hr]; exact hJ) (by rw [← hr]; exact hall)
theorem rf_num {d : Nat} {Q : Nat → Qt} {P : Kt} (hc : Cl (AM (d + 1)) true false 0 (fun _ => 0) 0 112 kX12_advance Q P) {T : Nat → Int32} {e s : Nat} {I0 : Im} {J : Jm} {R : Rm} (he : e ≤ 900) (hB : Byt T) (hQ : ∀ I2, FrW (WM [14, 16, 17]) nV I0 J I2 J → I2 97 16 = nI (rnX isDi T e s) → I2 97 14 = nI (if rnX isDi T e s - s ≤ 4 then 2 else 4) → (rnX isDi T e s - s ≤ 4 → I2 97 17 = diN T s (rnX isDi T e s - s)) → Q 112 0 0 I2 J R) :
    ∀ (m i : Nat) (I : Im), e - i < m → s ≤ i → i ≤ e → rnX isDi T e i = rnX isDi T e s → FrW (WM [14, 16, 17]) nV I0 J I J → Txt T e I → I 97 16 = nI i → I 97 15 = nI s → (i - s ≤ 4 → I 97 17 = diN T s (i - s)) → P 210 112 [(0, .ref 97)] [] I J R := by
  intro m
  induction m with
  | zero => intro i I h; omega
  | succ m ih =>
    intro i I hm h1 h2 hr hF hT h6 h5 h7
    refine sg_X12_advance_210 hc _ _ _ ?_
    refine px_look2 hT he (by omega) h6 (px_isDigit (fun hl _ => ⟨fun q => absurd q (by decide), fun _ => ?_⟩) (fun hl _ => ⟨fun _ => ?_, fun q => absurd rfl q⟩))
    · obtain ⟨hi, hl⟩ := (lk_di hB).mp hl
      have hd := rnX_s (p := isDi) hi hl
      have hx := (isDi_i (x := T i) rfl).mp hl
      rw [h6, h5, nI_sub (by omega) h1, nI_k1]
      refine ⟨fun c => ?_, fun c => px_look2 hT he (by omega) rfl ?_⟩
      · have := (nle_nI (a := 4) (by omega) (by omega)).mp c
        exact ih (i + 1) _ (by omega) (by omega) (by omega) (by rw [← hd]; exact hr) (hF.u ⟨rfl, by decide⟩) ⟨fun j hj => by rw [rd_ne (by decide)]; exact hT.1 j hj, by rw [rd_k (by decide)]; exact hT.2⟩ rd_eq (by rw [rd_k (by decide)]; exact h5) (fun q => by omega)
      · have := gt_of (a := 4) (b := i - s) (by omega) (by omega) c
        rw [rd_k (show ¬ 16 = 17 by decide), h6, nI_k1]
        refine ih (i + 1) _ (by omega) (by omega) (by omega) (by rw [← hd]; exact hr) ((hF.u ⟨rfl, by decide⟩).u ⟨rfl, by decide⟩) ⟨fun j hj => by rw [rd_ne (by decide), rd_ne (by decide)]; exact hT.1 j hj, by rw [rd_k (by decide), rd_k (by decide)]; exact hT.2⟩ rd_eq (by rw [rd_k (by decide), rd_k (by decide)]; exact h5) (fun q => ?_)
        rw [rd_k (by decide), rd_eq, h7 (by omega), lk_eq hB hi (by omega), dig_eq, show i + 1 - s = (i - s) + 1 by omega]
        rw [diN_s, if_neg (by omega), show s + (i - s) = i by omega]
    · have hz : rnX isDi T e i = i := rnX_z (fun q => bf_of (fun z => by rw [(lk_di hB).mpr ⟨q, z⟩] at hl; cases hl))
      rw [hz] at hr
      rw [h6, h5, nI_sub (by omega) h1]
      have key : ∀ v : Int32, v = nI (if i - s ≤ 4 then 2 else 4) → Q 112 0 0 (uI I 97 14 v) J R := fun v hv => hQ _ (hF.u ⟨rfl, by decide⟩) (by rw [rd_k (by decide), ← hr]; exact h6) (by rw [rd_eq, ← hr]; exact hv) (fun q => by rw [rd_k (by decide), ← hr]; exact h7 (by rw [← hr] at q; exact q))
      refine ⟨fun c => key _ ?_, fun c => key _ ?_⟩
      · rw [if_pos ((nle_nI (b := 4) (by omega) (by omega)).mp c)]; rfl
      · rw [if_neg (fun z => c ((nle_nI (b := 4) (by omega) (by omega)).mpr z))]; rfl
theorem px_madv {d : Nat} {Q : Qt} {T : Nat → Int32} {e a : Nat} {I : Im} {J : Jm} {R : Rm} (he : e ≤ 900) (ha : a ≤ e) (hB : Byt T) (hT : Txt T e I) (h6 : I 97 16 = nI a) (hQ : ∀ I2 J2, FrW (WM msA) VM I J I2 J2 → RmS T e a I2 J2 → Q 0 0 I2 J2 R) : AM (d + 2) 195 112 [.ref 97] I J R Q := by
  refine am_X12_advance (fun P hc => sg_X12_advance_0 hc _ _ _ ?_)
  rw [h6]
  refine rf_bl hc (I0 := I) (T := T) (a := a) he hB (fun I2 hF g5 => ?_) (e - a + 1) a _ (by omega) ha rfl (FrW.rf.u ⟨rfl, by decide⟩) ⟨fun j hj => by rw [rd_ne (by decide)]; exact hT.1 j hj, by rw [rd_k (by decide)]; exact hT.2⟩ rd_eq
  have hse := (rnX_in (p := isBl) (T := T) ha)
  have htok : tok T e a = tokW T e (rnX isBl T e a) := rfl
  generalize rnX isBl T e a = s at g5 hse htok
  refine sg_X12_advance_58 hc _ _ _ ?_
  have hF3 : FrW (WM msA) VM I J (uI I2 97 16 (I2 97 15)) J := hF.u ⟨rfl, by decide⟩
  have mT : Txt T e (uI I2 97 16 (I2 97 15)) := ⟨fun j hj => by rw [hF3.i (by intro q; exact absurd q.1 (by decide))]; exact hT.1 j hj, by rw [hF3.i (by decide)]; exact hT.2⟩
  have m5 : uI I2 97 16 (I2 97 15) 97 15 = nI s := by rw [rd_k (by decide)]; exact g5
  have m6 : uI I2 97 16 (I2 97 15) 97 16 = nI s := by rw [rd_eq]; exact g5
  generalize uI I2 97 16 (I2 97 15) = M at hF3 mT m5 m6
  rw [m5, mT.2]
  refine ⟨fun c => ?_, fun c => ?_⟩
  · have hs : s < e := (nlt_nI (by omega) (by omega)).mp c
    refine px_look2 mT he (by omega) rfl (px_isLetter (fun hl _ => ⟨fun q => absurd q (by decide), fun _ => ?_⟩) (fun hl _ => ⟨fun _ => ?_, fun q => absurd rfl q⟩))
    · have hl2 := ((lk_le hB).mp hl).2
      have ht : tok T e a = (s, 1, 0, leN T s (rnX isLe T e s - s), rnX isLe T e s) := by
        rw [htok]
        unfold tokW
        rw [if_neg (by omega), if_pos hl2]
      refine rf_wrd hc (I0 := uI M 97 14 1) (J0 := uJ J 97 19 0) (T := T) (s := s) he hB (fun I3 J3 hF4 k6 k8 kJ hall => ?_) (e - s + 1) s _ _ (by omega) (Nat.le_refl _) (Nat.le_of_lt hs) rfl (fun j hj => by omega) FrW.rf ⟨fun j hj => by rw [rd_ne (by decide)]; exact mT.1 j hj, by rw [rd_k (by decide)]; exact mT.2⟩ (by rw [rd_k (by decide)]; exact m6) (by rw [rd_k (by decide)]; exact m5) (by rw [rj_eq, Nat.sub_self]; rfl)
      have hF5 : FrW (WM msA) VM I J I3 J3 := ((hF3.u (k := 14) (v := 1) ⟨rfl, by decide⟩).uj (o := 97) (k := 19) (v := 0) ⟨rfl, rfl⟩).tr (hF4.up (WM.up (by decide)) (fun _ _ q => q))
      refine hQ _ _ hF5 ⟨⟨fun j hj => ?_, ?_⟩, ?_, ?_, ?_, fun _ => ⟨?_, ?_, ?_⟩, fun q => ?_⟩
      · rw [hF5.i (by intro q; exact absurd q.1 (by decide))]; exact hT.1 j hj
      · rw [hF5.i (by decide)]; exact hT.2
      · rw [k6, ht]; rfl
      · rw [hF4.i (by decide), rd_k (by decide), ht]; exact m5
      · rw [hF4.i (by decide), rd_eq, ht]; rfl
      all_goals have hb := rnX_in (p := isLe) (T := T) (i := s + 1) (e := e) hs
      all_goals have hb2 := rnX_s (p := isLe) (T := T) hs hl2
      · rw [kJ, ht]
        show leR T s (rnX isLe T e s - s) = if leN T s (rnX isLe T e s - s) = 0 then -1 else leN T s (rnX isLe T e s - s)
        unfold leR
        by_cases q : 8 < rnX isLe T e s - s
        · rw [if_pos q]
          have : leN T s (rnX isLe T e s - s) = 0 := by
            obtain ⟨n, hn⟩ : ∃ n, rnX isLe T e s - s = n + 1 := ⟨rnX isLe T e s - s - 1, by omega⟩
            rw [hn]; unfold leN; rw [if_pos (by omega)]
          rw [this]; rfl
        · rw [if_neg q]
          have h1 := leN_in (T := T) (s := s) (k := rnX isLe T e s - s) (by omega) hall
          rw [if_neg]
          intro z
          rw [z] at h1
          have := h1.1
          exact absurd (this.resolve_left (by omega)) (by decide)
      · rw [k8, ht]; rfl
      · rw [ht]
        show leN T s (rnX isLe T e s - s) = 0 ↔ 8 < rnX isLe T e s - s
        refine ⟨fun z => ?_, fun q => ?_⟩
        · rcases Nat.lt_or_ge 8 (rnX isLe T e s - s) with q | q
          · exact q
          · have h1 := leN_in (T := T) (s := s) (k := rnX isLe T e s - s) q hall
            rw [z] at h1
            exact absurd (h1.1.resolve_left (by omega)) (by decide)
        · obtain ⟨n, hn⟩ : ∃ n, rnX isLe T e s - s = n + 1 := ⟨rnX isLe T e s - s - 1, by omega⟩
          rw [hn]; unfold leN; rw [if_pos (by omega)]
      · rw [ht] at q
        exact absurd (show (1 : Nat) = 2 ∨ (1 : Nat) = 3 from q) (by decide)
    · have hl2 : isLe (T s) = false := bf_of (fun z => by rw [(lk_le hB).mpr ⟨hs, z⟩] at hl; cases hl)
      have ht : tok T e a = if isDi (T s) = true then (s, (if rnX isDi T e s - s ≤ 4 then 2 else 4), diN T s (rnX isDi T e s - s), 0, rnX isDi T e s) else (s, (if isSg (T s) = true then 3 else 4), T s, 0, s + 1) := by
        rw [htok]
        unfold tokW
        rw [if_neg (by omega), if_neg (by rw [hl2]; decide)]
      refine px_isDigit (fun hd _ => ⟨fun q => absurd q (by decide), fun _ => ?_⟩) (fun hd _ => ⟨fun _ => ?_, fun q => absurd rfl q⟩)
      · rw [if_pos ((lk_di hB).mp hd).2] at ht
        refine rf_num hc (I0 := uI M 97 17 0) (T := T) (s := s) he hB (fun I3 hF4 k6 k14 k17 => ?_) (e - s + 1) s _ (by omega) (Nat.le_refl _) (Nat.le_of_lt hs) rfl FrW.rf ⟨fun j hj => by rw [rd_ne (by decide)]; exact mT.1 j hj, by rw [rd_k (by decide)]; exact mT.2⟩ (by rw [rd_k (by decide)]; exact m6) (by rw [rd_k (by decide)]; exact m5) (fun _ => by rw [rd_eq, Nat.sub_self]; rfl)
        have hF5 : FrW (WM msA) VM I J I3 J := (hF3.u (k := 17) (v := 0) ⟨rfl, by decide⟩).tr (hF4.up (WM.up (by decide)) nV.up)
        refine hQ _ _ hF5 ⟨⟨fun j hj => ?_, ?_⟩, ?_, ?_, ?_, fun q => ?_, fun q => ?_⟩
        · rw [hF5.i (by intro q; exact absurd q.1 (by decide))]; exact hT.1 j hj
        · rw [hF5.i (by decide)]; exact hT.2
        · rw [k6, ht]; rfl
        · rw [hF4.i (by decide), rd_k (by decide), ht]; exact m5
        · rw [k14, ht]; rfl
        · rw [ht] at q
          change (if rnX isDi T e s - s ≤ 4 then 2 else 4) = 1 at q
          split at q <;> exact absurd q (by decide)
        · rw [ht] at q ⊢
          refine k17 ?_
          rcases Nat.lt_or_ge 4 (rnX isDi T e s - s) with z | z
          · change (if rnX isDi T e s - s ≤ 4 then 2 else 4) = 2 ∨ (if rnX isDi T e s - s ≤ 4 then 2 else 4) = 3 at q
            rw [if_neg (by omega)] at q; omega
          · exact z
      · have hd2 : isDi (T s) = false := bf_of (fun z => by rw [(lk_di hB).mpr ⟨hs, z⟩] at hd; cases hd)
        rw [if_neg (by rw [hd2]; decide)] at ht
        rw [m5, nI_k1]
        have fin : ∀ v : Int32, v = nI (if isSg (T s) = true then 3 else 4) → Q 0 0 (uI (uI (uI M 97 16 (nI (s + 1))) 97 17 (lk T e s)) 97 14 v) J R := fun v hv => by
          have hF5 : FrW (WM msA) VM I J (uI (uI (uI M 97 16 (nI (s + 1))) 97 17 (lk T e s)) 97 14 v) J := ((hF3.u ⟨rfl, by decide⟩).u ⟨rfl, by decide⟩).u ⟨rfl, by decide⟩
          refine hQ _ _ hF5 ⟨⟨fun j hj => ?_, ?_⟩, ?_, ?_, ?_, fun q => ?_, fun q => ?_⟩
          · rw [hF5.i (by intro q; exact absurd q.1 (by decide))]; exact hT.1 j hj
          · rw [hF5.i (by decide)]; exact hT.2
          · rw [rd_k (by decide), rd_k (by decide), rd_eq, ht]; rfl
          · rw [rd_k (by decide), rd_k (by decide), rd_k (by decide), ht]; exact m5
          · rw [rd_eq, ht]; exact hv
          · rw [ht] at q
            change (if isSg (T s) = true then 3 else 4) = 1 at q
            split at q <;> exact absurd q (by decide)
          · rw [ht] at q ⊢
            rw [rd_k (by decide), rd_eq]
            refine lk_eq hB hs (isSg_pos ?_)
            cases z : isSg (T s) with
            | true => rfl
            | false =>
              change (if isSg (T s) = true then 3 else 4) = 2 ∨ (if isSg (T s) = true then 3 else 4) = 3 at q
              rw [if_neg (by rw [z]; decide)] at q; omega
        refine px_isSignB (fun hq _ => ⟨fun q => absurd q (by decide), fun _ => fin _ ?_⟩) (fun hq _ => ⟨fun _ => fin _ ?_, fun q => absurd rfl q⟩)
        · rw [lk_sg hB hs] at hq
          rw [if_pos hq]; rfl
        · rw [lk_sg hB hs] at hq
          rw [if_neg (by rw [hq]; decide)]; rfl
  · have hs : s = e := by have := ge_of (a := s) (b := e) (by omega) (by omega) c; omega
    subst hs
    have ht : tok T s a = (s, 0, 0, 0, s) := by
      rw [htok]
      unfold tokW
      rw [if_pos (Nat.le_refl _)]
    have hF5 : FrW (WM msA) VM I J (uI M 97 14 0) J := hF3.u ⟨rfl, by decide⟩
    refine hQ _ _ hF5 ⟨⟨fun j hj => ?_, ?_⟩, ?_, ?_, ?_, fun q => ?_, fun q => ?_⟩
    · rw [hF5.i (by intro q; exact absurd q.1 (by decide))]; exact hT.1 j hj
    · rw [hF5.i (by decide)]; exact hT.2
    · rw [rd_k (by decide), ht]; exact m6
    · rw [rd_k (by decide), ht]; exact m5
    · rw [rd_eq, ht]; rfl
    · rw [ht] at q
      exact absurd (show (0 : Nat) = 1 from q) (by decide)
    · rw [ht] at q
      exact absurd (show (0 : Nat) = 2 ∨ (0 : Nat) = 3 from q) (by decide)
