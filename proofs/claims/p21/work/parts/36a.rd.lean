/-! ===== what stays; the scribe's reader ===== -/
noncomputable def FrW (W V : Nat → Nat → Prop) (I : Im) (J : Jm) (I2 : Im) (J2 : Jm) : Prop := (∀ o k, ¬ W o k → I2 o k = I o k) ∧ (∀ o k, ¬ V o k → J2 o k = J o k)
noncomputable abbrev nV : Nat → Nat → Prop := fun _ _ => False
noncomputable abbrev WR (ws : List Nat) : Nat → Nat → Prop := fun o k => o = 3 ∧ k ∈ ws
noncomputable abbrev VR : Nat → Nat → Prop := fun o k => o = 3 ∧ k = 10
section FRW
variable {W V W2 V2 : Nat → Nat → Prop} {I I2 I3 : Im} {J J2 J3 : Jm} {o k : Nat}
theorem FrW.rf : FrW W V I J I J := ⟨fun _ _ _ => rfl, fun _ _ _ => rfl⟩
theorem FrW.tr (h : FrW W V I J I2 J2) (h2 : FrW W V I2 J2 I3 J3) : FrW W V I J I3 J3 := ⟨fun o k q => (h2.1 o k q).trans (h.1 o k q), fun o k q => (h2.2 o k q).trans (h.2 o k q)⟩
theorem FrW.up (h : FrW W V I J I2 J2) (hW : ∀ o k, W o k → W2 o k) (hV : ∀ o k, V o k → V2 o k) : FrW W2 V2 I J I2 J2 := ⟨fun o k q => h.1 o k (fun z => q (hW o k z)), fun o k q => h.2 o k (fun z => q (hV o k z))⟩
theorem FrW.u {v : Int32} (h : FrW W V I J I2 J2) (hk : W o k) : FrW W V I J (uI I2 o k v) J2 := ⟨fun a j q => by
  rw [show uI I2 o k v a j = I2 a j from ?_]
  · exact h.1 a j q
  · by_cases q1 : a = o
    · subst q1
      exact rd_k (fun z => q (by rw [z]; exact hk))
    · exact rd_ne q1, h.2⟩
theorem FrW.uj {v : Int64} (h : FrW W V I J I2 J2) (hk : V o k) : FrW W V I J I2 (uJ J2 o k v) := ⟨h.1, fun a j q => by
  rw [show uJ J2 o k v a j = J2 a j from ?_]
  · exact h.2 a j q
  · by_cases q1 : a = o
    · subst q1
      have : ¬ j = k := fun z => q (by rw [z]; exact hk)
      simp [uJ, vp_updL, this]
    · simp [uJ, q1]⟩
theorem FrW.i (h : FrW W V I J I2 J2) (hk : ¬ W o k) : I2 o k = I o k := h.1 o k hk
theorem FrW.j (h : FrW W V I J I2 J2) (hk : ¬ V o k) : J2 o k = J o k := h.2 o k hk
theorem FrW.c (h : FrW W V I J I2 J2) (hk : ∀ k, ¬ W o k) : I2 o = I o := funext fun k => h.1 o k (hk k)
theorem FrW.cj (h : FrW W V I J I2 J2) (hk : ∀ k, ¬ V o k) : J2 o = J o := funext fun k => h.2 o k (hk k)
end FRW
theorem WR.no {ws : List Nat} {o : Nat} (h : ¬ o = 3) : ∀ k, ¬ WR ws o k := fun _ q => h q.1
theorem WR.up {ws vs : List Nat} (h : ∀ k, k ∈ ws → k ∈ vs) : ∀ o k, WR ws o k → WR vs o k := fun _ _ q => ⟨q.1, h _ q.2⟩
theorem nV.up {V : Nat → Nat → Prop} : ∀ o k, nV o k → V o k := fun _ _ q => q.elim
theorem rj_eq {J : Jm} {o j : Nat} {v : Int64} : uJ J o j v o j = v := by simp [uJ, vp_updL]
theorem rj_k {J : Jm} {o j k : Nat} {v : Int64} (h : ¬ k = j) : uJ J o j v o k = J o k := by simp [uJ, vp_updL, h]
theorem nI_ti {n : Nat} (h : n ≤ 1000) : (nI n).toInt = n := nI_toInt (by omega)
/-- two places held against each other -/
theorem nle_nI {a b : Nat} (ha : a ≤ 1000) (hb : b ≤ 1000) : (nI a ≤ nI b) ↔ a ≤ b := by
  rw [Int32.le_iff_toInt_le, nI_ti ha, nI_ti hb]; omega
theorem nlt_nI {a b : Nat} (ha : a ≤ 1000) (hb : b ≤ 1000) : (nI a < nI b) ↔ a < b := by
  rw [Int32.lt_iff_toInt_lt, nI_ti ha, nI_ti hb]; omega
theorem gt_of {a b : Nat} (ha : a ≤ 1000) (hb : b ≤ 1000) (c : ¬ nI a ≤ nI b) : b < a := Nat.lt_of_not_le (fun z => c ((nle_nI ha hb).mpr z))
theorem ge_of {a b : Nat} (ha : a ≤ 1000) (hb : b ≤ 1000) (c : ¬ nI a < nI b) : b ≤ a := Nat.le_of_not_lt (fun z => c ((nlt_nI ha hb).mpr z))
theorem nI_sub {a b : Nat} (ha : a ≤ 1000) (hb : b ≤ a) : nI a - nI b = nI (a - b) := Int32.toInt_inj.mp (by
  rw [ti_sub (nI_ti ha) (nI_ti (by omega)) (by omega), nI_ti (by omega)]; omega)
theorem vp_nI {a n : Nat} (ha : a ≤ 1000) (h : a < n) : vp_in (nI a) n := vp_of (nI_ti ha) (by omega) (by omega)
/-- digits -/
theorem rd_num {d : Nat} {Q : Nat → Qt} {P : Kt} (hc : Cl (AM d) true false 0 (fun _ => 0) 0 112 kX6_readNumber Q P) {T : Nat → Int32} {e s : Nat} {I0 : Im} {J : Jm} {R : Rm} (he : e ≤ 900) (hQ : ∀ I2, FrW (WR [5, 8, 11]) nV I0 J I2 J → I2 3 5 = nI (rnX isDi T e s) → I2 3 8 = nI (if rnX isDi T e s - s ≤ 4 then 2 else 4) → I2 3 11 = diN T s (rnX isDi T e s - s) → Q 112 0 0 I2 J R) :
    ∀ (m i : Nat) (I : Im), e - i < m → s ≤ i → i ≤ e → rnX isDi T e i = rnX isDi T e s → FrW (WR [5, 8, 11]) nV I0 J I J → I 4 = T → I 3 4 = nI e → I 3 5 = nI i → I 3 6 = nI s → I 3 11 = diN T s (i - s) → P 10 112 [(0, .ref 3), (1, .int (nI i))] [] I J R := by
  intro m
  induction m with
  | zero => intro i I h; omega
  | succ m ih =>
    intro i I hm h1 h2 hr hF hT h4 h5 h6 h11
    have exit : rnX isDi T e i = i → ((((I 3 5) - (I 3 6)) ≤ 4 → Q 112 0 0 (uI I 3 8 2) J R) ∧ (¬ ((I 3 5) - (I 3 6)) ≤ 4 → Q 112 0 0 (uI I 3 8 4) J R)) := fun hz => by
      rw [hz] at hr
      rw [h5, h6, nI_sub (by omega) h1]
      have key : ∀ v : Int32, v = nI (if i - s ≤ 4 then 2 else 4) → Q 112 0 0 (uI I 3 8 v) J R := fun v hv => hQ _ (hF.u ⟨rfl, by decide⟩) (by rw [rd_k (by decide), ← hr]; exact h5) (by rw [rd_eq, ← hr]; exact hv) (by rw [rd_k (by decide), ← hr]; exact h11)
      refine ⟨fun c => key _ ?_, fun c => key _ ?_⟩
      · rw [if_pos ((nle_nI (b := 4) (by omega) (by omega)).mp c)]; rfl
      · rw [if_neg (fun z => c ((nle_nI (b := 4) (by omega) (by omega)).mpr z))]; rfl
    refine sg_X6_readNumber_10 hc _ _ _ _ ?_
    rw [h4, hT, tn_nI (by omega)]
    refine ⟨fun c => exit ?_, fun c => ⟨vp_nI (by omega) ?_, fun c2 => exit ?_, fun c2 => ⟨vp_nI (by omega) ?_, fun c3 => exit ?_, fun c3 => ?_⟩⟩⟩
    · exact rnX_z (fun q => absurd ((nle_nI (by omega) (by omega)).mp c) (by omega))
    · have := gt_of (a := e) (b := i) (by omega) (by omega) c; omega
    · exact rnX_z (fun _ => bf_of (fun q => (isDi_t.mp q).1 c2))
    · have := gt_of (a := e) (b := i) (by omega) (by omega) c; omega
    · exact rnX_z (fun _ => bf_of (fun q => (isDi_t.mp q).2 c3))
    · have hi : i < e := by have := gt_of (a := e) (b := i) (by omega) (by omega) c; omega
      have hd := rnX_s (p := isDi) hi (isDi_t.mpr ⟨c2, c3⟩)
      rw [nI_k1, rd_eq, rd_k (show ¬ 6 = 5 by decide), h6, nI_sub (by omega) (by omega)]
      have hF2 : ∀ v, FrW (WR [5, 8, 11]) nV I0 J (uI (uI I 3 5 (nI (i + 1))) 3 11 v) J := fun v => (hF.u ⟨rfl, by decide⟩).u ⟨rfl, by decide⟩
      have go : ∀ v, v = diN T s (i + 1 - s) → P 10 112 [(0, .ref 3), (1, .int (nI (i + 1)))] [] (uI (uI I 3 5 (nI (i + 1))) 3 11 v) J R := fun v hv =>
        ih (i + 1) _ (by omega) (by omega) (by omega) (by rw [← hd]; exact hr) (hF2 v) (by rw [(FrW.rf (W := WR [5, 8, 11]) (V := nV) (I := I) (J := J)).u (o := 3) (k := 5) ⟨rfl, by decide⟩ |>.u (o := 3) (k := 11) ⟨rfl, by decide⟩ |>.c (WR.no (by decide))]; exact hT) (by rw [rd_k (by decide), rd_k (by decide)]; exact h4) (by rw [rd_k (by decide), rd_eq]) (by rw [rd_k (by decide), rd_k (by decide)]; exact h6) (by rw [rd_eq]; exact hv)
      have e1 : diN T s (i + 1 - s) = if 4 ≤ i - s then 0 else diN T s (i - s) * 10 + (T i - 48) := by
        rw [show i + 1 - s = (i - s) + 1 by omega]
        conv => lhs; unfold diN
        rw [show s + (i - s) = i by omega]
      refine ⟨fun c4 => ⟨vp_nI (by omega) (by omega), go _ ?_⟩, fun c4 => go _ ?_⟩
      · have := (nle_nI (b := 4) (by omega) (by omega)).mp c4
        rw [e1, if_neg (by omega), rd_k (by decide), h11, rd_ne (by decide), hT]
      · have := gt_of (a := i + 1 - s) (b := 4) (by omega) (by omega) c4
        rw [e1, if_pos (by omega)]
theorem px_readNumber {d : Nat} {Q : Qt} {T : Nat → Int32} {e s : Nat} {I : Im} {J : Jm} {R : Rm} (he : e ≤ 900) (hs : s ≤ e) (hT : I 4 = T) (h4 : I 3 4 = nI e) (h5 : I 3 5 = nI s) (h6 : I 3 6 = nI s) (hQ : ∀ I2, FrW (WR [5, 8, 11]) nV I J I2 J → I2 3 5 = nI (rnX isDi T e s) → I2 3 8 = nI (if rnX isDi T e s - s ≤ 4 then 2 else 4) → I2 3 11 = diN T s (rnX isDi T e s - s) → Q 0 0 I2 J R) : AM (d + 1) 64 112 [.ref 3] I J R Q := by
  refine am_X6_readNumber (fun P hc => sg_X6_readNumber_0 hc _ _ _ ?_)
  rw [rd_k (by decide), h6]
  refine rd_num hc (I0 := I) he hQ (e - s + 1) s _ (by omega) (Nat.le_refl _) hs rfl (FrW.rf.u ⟨rfl, by decide⟩) ?_ ?_ ?_ ?_ ?_
  · rw [(FrW.rf (W := WR [5, 8, 11]) (V := nV) (I := I) (J := J)).u (o := 3) (k := 11) ⟨rfl, by decide⟩ |>.c (WR.no (by decide))]; exact hT
  · rw [rd_k (by decide)]; exact h4
  · rw [rd_k (by decide)]; exact h5
  · rw [rd_k (by decide)]; exact h6
  · rw [rd_eq, Nat.sub_self]; rfl
