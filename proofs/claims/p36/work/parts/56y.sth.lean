section PT14x4
section RNF
variable {I0 I : Im} {J : Jm} {R : Rm} {Q : Qt} {M n : Nat} {r : Rn9} {m od : Int32} {s : DS} {du : Du9}
/-- the pure machine: one turn -/
theorem rn9_s {f a : Nat} {q : Nat → Int32} {x : Nat} : rn9 s m od du (f + 1) a q x r = if dL s ≤ a then (0, x, r) else
    if (dC s a).1 = 20 then (if (dC s (dM s a)).1 = 19 ∧ ¬ q (dM s a) ≤ 1 then rn9 s m od du f (dM s a + 1) (upd q (dM s a) (q (dM s a) - 1)) x r else rn9 s m od du f (a + 1) q x r) else
    if 300 ≤ x then (1, x, r) else
    if (dC s a).1 = 21 then rn9 s m od du f (dL s) q (x + 1) r else
    if (dC s a).1 = 19 then rn9 s m od du f (a + 1) (upd q a (dC s a).2.1) (x + 1) r else
    if isTs (dC s a).1 = true then (if ho9 du (dC s a) r.1 = true then rn9 s m od du f (a + 1) q (x + 1) r else rn9 s m od du f (dM s a + 1) q (x + 1) r)
    else rn9 s m od du f (a + 1) q (x + 1) (do9 m od (dC s a) r) := rfl
theorem rn9_end {f : Nat} {q : Nat → Int32} {x : Nat} (hf : 1 ≤ f) : rn9 s m od du f (dL s) q x r = (0, x, r) := by
  obtain ⟨f, rfl⟩ : ∃ f', f = f' + 1 := ⟨f - 1, by omega⟩
  rw [rn9_s, if_pos (Nat.le_refl _)]
/-- behind the last step there is: what the class's machine says of the rest -/
noncomputable abbrev KH9 (s : DS) (m od : Int32) (du : Du9) (M : Nat) (I0 : Im) (J : Jm) (n0 : Nat) (z a b : Nat) (q : Nat → Int32) (X : Int32 × Nat × Rn9) (G : Im → Prop) : Prop := ∀ (I2 : Im) (f2 : Nat) (q2 : Nat → Int32) (n2 : Nat) (r2 : Rn9), In9 M I0 J n2 r2 I2 → n0 ≤ n2 → I2 97 41 = 0 → I2 97 48 = 0 → 200 * (301 - n2) + z ≤ f2 → (∀ k, k < a → q2 k = q k) → X = rn9 s m od du f2 b q2 n2 r2 → G I2
noncomputable abbrev SH9 (M : Nat) (I0 : Im) (J : Jm) (X : Int32 × Nat × Rn9) (G : Im → Prop) : Prop := ∀ (I2 : Im) (l : Int32) (n2 : Nat) (r2 : Rn9), In9 M I0 J n2 r2 I2 → ¬ I2 97 41 = 0 → I2 97 48 = l → X = (l, n2, r2) → G I2
/-- a step that is no block -/
theorem px_one9 {D t a z f : Nat} {q : Nat → Int32} (hE : Ev9 s M m od du I0) (ht : t < dN s) (ea : dSp s t = a) (haL : a < dL s) (hc : pl9 (dC s a).1) (hI : In9 M I0 J n r I) (h41 : I 97 41 = 0) (h48 : I 97 48 = 0) (hf : 200 * (301 - n) + z ≤ f)
    (hK : KH9 s m od du M I0 J n z a (a + 1) q (rn9 s m od du f a q n r) (fun I2 => Q 0 0 I2 J R)) (hS : SH9 M I0 J (rn9 s m od du f a q n r) (fun I2 => Q 0 0 I2 J R)) : AM (D + 9) 310 112 [.ref 97, .int (nI t)] I J R Q := by
  obtain ⟨⟨em, eo, hd⟩, hm, hs, h30, hT⟩ := hE
  obtain ⟨⟨tk, tr, tx⟩, tv, tc⟩ := hT t ht
  rw [ea] at tk tr tv tc
  obtain ⟨hF, hR, hn, hB⟩ := id hI
  have ew := ew9 (t := t) (by omega)
  have hw : 54 + 9 * t + 8 < 1620 := by omega
  obtain ⟨t0, -, -, -, -, -, -, t8⟩ := tn_w hw
  obtain ⟨v0, -, -, -, -, -, -, v8⟩ := vp_w hw
  obtain ⟨n20, n19, nT⟩ := pl9_n hc
  obtain ⟨f, rfl⟩ : ∃ f', f = f' + 1 := ⟨f - 1, by omega⟩
  rw [rn9_s, if_neg (by omega), if_neg n20] at hK hS
  have e43 := hR.2.2.2.2.2
  have ek : I 102 (54 + 9 * t) = stW (dC s a).1 := by
    rw [hI.i (by omega), tk]
    exact if_neg nT
  refine am_X12_doOne (fun P hc2 => sg_X12_doOne_0 hc2 _ _ _ _ ?_)
  have e1 : nI n + 1 = nI (n + 1) := nI_s1
  rw [ew, e43, e1]
  have en : uI I 97 43 (nI (n + 1)) 102 = I 102 := uI_ne (by decide)
  rw [en, t0, ek]
  have e300 : (300 : Int32) = nI 300 := rfl
  refine ⟨fun n3 => ⟨v0, ?_⟩, fun c3 => ⟨Or.inr rfl, ?_⟩⟩
  · have n4 : ¬ n = 300 := fun z => n3 (by rw [z]; rfl)
    rw [if_neg (by omega)] at hK hS
    have hI2 : In9 M I0 J (n + 1) r (uI I 97 43 (nI (n + 1))) := ⟨hF.u (Or.inr ⟨rfl, by decide⟩), hR.nx, by omega, hB⟩
    have g41 : uI I 97 43 (nI (n + 1)) 97 41 = 0 := (rd_k (by decide)).trans h41
    have g48 : uI I 97 43 (nI (n + 1)) 97 48 = 0 := (rd_k (by decide)).trans h48
    by_cases c21 : (dC s a).1 = 21
    · rw [c21]
      rw [if_pos c21] at hS
      refine ⟨fun _ => ⟨fun _ => sg_X12_doOne_110 hc2 _ _ _ _ _ _ ⟨fun _ => ⟨fun c => absurd c (by decide), fun _ => ⟨Or.inr rfl, ?_⟩⟩, fun c => absurd c (by decide)⟩, fun c => absurd c (by decide)⟩, fun c => absurd (show (6 : Int32) ≤ stW 21 by decide) c⟩
      exact hS _ 0 (n + 1) r ⟨hI2.1.u (Or.inr ⟨rfl, by decide⟩), hI2.2.1.fl (Or.inl rfl), hI2.2.2⟩ (by rw [rd_eq]; decide) ((rd_k (by decide)).trans g48) (rn9_end (by omega))
    · have hc6 : (dC s a).1 = 9 ∨ (dC s a).1 = 10 ∨ (dC s a).1 = 11 ∨ (dC s a).1 = 12 ∨ (dC s a).1 = 13 ∨ (dC s a).1 = 14 := by
        rcases hc with y | y | y | y | y | y | y
        · exact Or.inl y
        · exact Or.inr (Or.inl y)
        · exact Or.inr (Or.inr (Or.inl y))
        · exact Or.inr (Or.inr (Or.inr (Or.inl y)))
        · exact Or.inr (Or.inr (Or.inr (Or.inr (Or.inl y))))
        · exact Or.inr (Or.inr (Or.inr (Or.inr (Or.inr y))))
        · exact absurd y c21
      have k6 : ¬ (6 : Int32) ≤ stW (dC s a).1 := by
        rcases hc6 with y | y | y | y | y | y <;> rw [y] <;> decide
      rw [if_neg c21, if_neg n19, if_neg nT] at hK
      refine ⟨fun c => absurd c k6, fun _ => ?_⟩
      refine px_mDoes (c := dC s a) (m := m) (od := od) (M := M) (n := n + 1) (r := r) hw hc6 ((congrFun en _).trans ek) (hI2.rc (by omega) tr) tv ((hI2.i (Or.inl rfl)).trans em) hm ((hI2.i (by omega)).trans eo) hB hI2.2.1 (fun I2 h2 hF2 _ => ?_)
      have e44 : uI I 97 43 (nI (n + 1)) 97 44 = r.2.2.1 := hI2.2.1.2.2.1
      rw [e44]
      have fin : ∀ y : Int32, y = b9 (ac9 m od (dC s a) r).1 → Q 0 0 (uI I2 97 44 (r.2.2.1 + y)) J R := fun y hy => by
        subst hy
        exact hK _ f q (n + 1) (do9 m od (dC s a) r) ⟨(hI2.1.tr hF2.rf).u (Or.inr ⟨rfl, by decide⟩), h2.ms, by omega, hB.dn⟩ (by omega) ((rd_k (by decide)).trans ((hF2.i (fun y => by rcases y with y | y <;> omega)).trans g41)) ((rd_k (by decide)).trans ((hF2.i (fun y => by rcases y with y | y <;> omega)).trans g48)) (by omega) (fun _ _ => rfl) rfl
      exact ⟨fun y => fin _ (if_pos y).symm, fun y => fin _ (if_neg y).symm⟩
  · have n4 : n = 300 := (nI_eq (by omega) (by omega)).mp (c3.trans e300)
    rw [if_pos (by omega)] at hS
    exact hS _ 1 n r ⟨(hF.u (Or.inr ⟨rfl, by decide⟩)).u (Or.inr ⟨rfl, by decide⟩), (hR.fl (Or.inl rfl)).fl (Or.inr rfl), hn, hB⟩ (by rw [rd_k (by decide), rd_eq]; decide) rd_eq rfl
/-- the end of a block: the class goes on behind it, or back to its loop -/
theorem rn9_wh {f a mm : Nat} {q : Nat → Int32} {x : Nat} (hf : 1 ≤ f) (hm : mm < dL s) (c20 : (dC s mm).1 = 20) (e : dM s mm = a) (n19 : ¬ ((dC s a).1 = 19 ∧ ¬ q a ≤ 1)) : rn9 s m od du f mm q x r = rn9 s m od du (f - 1) (mm + 1) q x r := by
  obtain ⟨f, rfl⟩ : ∃ f', f = f' + 1 := ⟨f - 1, by omega⟩
  rw [rn9_s, if_neg (by omega), if_pos c20, e, if_neg n19, Nat.add_sub_cancel]
theorem rn9_lp {f a mm : Nat} {q : Nat → Int32} {x : Nat} (hf : 1 ≤ f) (hm : mm < dL s) (c20 : (dC s mm).1 = 20) (e : dM s mm = a) (h19 : (dC s a).1 = 19 ∧ ¬ q a ≤ 1) : rn9 s m od du f mm q x r = rn9 s m od du (f - 1) (a + 1) (upd q a (q a - 1)) x r := by
  obtain ⟨f, rfl⟩ : ∃ f', f = f' + 1 := ⟨f - 1, by omega⟩
  rw [rn9_s, if_neg (by omega), if_pos c20, e, if_pos h19, Nat.add_sub_cancel]
/-- what is asked of a block's inside -/
noncomputable abbrev BH9 (s : DS) (m od : Int32) (du : Du9) (M : Nat) (I0 : Im) (J : Jm) (R : Rm) (D t nn a mm : Nat) : Prop := ∀ (G : Qt) (I2 : Im) (f2 z2 n2 : Nat) (q2 : Nat → Int32) (r2 : Rn9), In9 M I0 J n2 r2 I2 → I2 97 41 = 0 → I2 97 48 = 0 → 200 * (301 - n2) + z2 ≤ f2 → KH9 s m od du M I0 J n2 z2 (a + 1) mm q2 (rn9 s m od du f2 (a + 1) q2 n2 r2) (fun I3 => G 0 0 I3 J R) → SH9 M I0 J (rn9 s m od du f2 (a + 1) q2 n2 r2) (fun I3 => G 0 0 I3 J R) → AM (D + 8) 311 112 [.ref 97, .int (nI (t + 1)), .int (nI nn)] I2 J R G
theorem px_blk9 {D t a mm nn z f : Nat} {q : Nat → Int32} (hE : Ev9 s M m od du I0) (ht : t < dN s) (ea : dSp s t = a) (haL : a < dL s) (hc : bl9 (dC s a)) (enx : dNx s t = nn) (hmL : mm < dL s) (c20 : (dC s mm).1 = 20) (eM : dM s a = mm) (eM2 : dM s mm = a) (ham : a < mm) (hI : In9 M I0 J n r I) (h41 : I 97 41 = 0) (h48 : I 97 48 = 0) (hf : 200 * (301 - n) + z ≤ f) (hBd : BH9 s m od du M I0 J R D t nn a mm)
    (hK : KH9 s m od du M I0 J n z a (mm + 1) q (rn9 s m od du f a q n r) (fun I2 => Q 0 0 I2 J R)) (hS : SH9 M I0 J (rn9 s m od du f a q n r) (fun I2 => Q 0 0 I2 J R)) : AM (D + 9) 310 112 [.ref 97, .int (nI t)] I J R Q := by
  obtain ⟨⟨em, eo, hd⟩, hm, hs, h30, hT⟩ := hE
  obtain ⟨⟨tk, tr, tx⟩, tv, tc⟩ := hT t ht
  rw [ea] at tk tr tv tc
  rw [enx] at tx
  obtain ⟨hF, hR, hn, hB⟩ := id hI
  have ew := ew9 (t := t) (by omega)
  have hw : 54 + 9 * t + 8 < 1620 := by omega
  obtain ⟨t0, t1, -, -, -, -, -, t8⟩ := tn_w hw
  obtain ⟨v0, v1, -, -, -, -, -, v8⟩ := vp_w hw
  have n20 : ¬ (dC s a).1 = 20 := fun z => by
    rcases hc with y | y
    · rw [z] at y; exact absurd y (by decide)
    · rw [z] at y; exact absurd y.1 (by decide)
  have n21 : ¬ (dC s a).1 = 21 := fun z => by
    rcases hc with y | y
    · rw [z] at y; exact absurd y (by decide)
    · rw [z] at y; exact absurd y.1 (by decide)
  obtain ⟨f, rfl⟩ : ∃ f', f = f' + 1 := ⟨f - 1, by omega⟩
  rw [rn9_s, if_neg (by omega), if_neg n20] at hK hS
  have e43 := hR.2.2.2.2.2
  have ek : I 102 (54 + 9 * t) = kcR (dC s a).1 := (hI.i (by omega)).trans tk
  refine am_X12_doOne (fun P hc2 => sg_X12_doOne_0 hc2 _ _ _ _ ?_)
  have e1 : nI n + 1 = nI (n + 1) := nI_s1
  have e1t : nI t + 1 = nI (t + 1) := nI_s1
  rw [ew, e43, e1, e1t]
  have en : uI I 97 43 (nI (n + 1)) 102 = I 102 := uI_ne (by decide)
  rw [en, t0, t8, ek]
  have e300 : (300 : Int32) = nI 300 := rfl
  refine ⟨fun n3 => ⟨v0, ?_⟩, fun c3 => ⟨Or.inr rfl, ?_⟩⟩
  · have n4 : ¬ n = 300 := fun z => n3 (by rw [z]; rfl)
    rw [if_neg (by omega), if_neg n21] at hK hS
    have hI2 : In9 M I0 J (n + 1) r (uI I 97 43 (nI (n + 1))) := ⟨hF.u (Or.inr ⟨rfl, by decide⟩), hR.nx, by omega, hB⟩
    have g41 : uI I 97 43 (nI (n + 1)) 97 41 = 0 := (rd_k (by decide)).trans h41
    have g48 : uI I 97 43 (nI (n + 1)) 97 48 = 0 := (rd_k (by decide)).trans h48
    have gx : ∀ {n2 : Nat} {r2 : Rn9} {I2 : Im}, In9 M I0 J n2 r2 I2 → I2 102 (54 + 9 * t + 8) = nI nn := fun h2 => (h2.i (by omega)).trans tx
    have hM6 := hm.2
    rcases hc with hTs | ⟨c19, x1, x99⟩
    · have k6 : kcR (dC s a).1 = 6 := if_pos hTs
      have n19 : ¬ (dC s a).1 = 19 := fun z => by rw [z] at hTs; exact absurd hTs (by decide)
      rw [if_neg n19, if_pos hTs] at hK hS
      rw [k6]
      refine ⟨fun _ => ⟨fun c => absurd rfl c, fun _ => ?_⟩, fun c => absurd (show (6 : Int32) ≤ 6 by decide) c⟩
      refine px_mHold (c := dC s a) (m := m) (M := M) (r := r) (du := du) hw hTs (hI2.rc (by omega) tr) tc ((hI2.i (Or.inl rfl)).trans em) hm (hI2.dus hM6 hd) hs hB.1 hI2.2.1.1 (fun _ => ?_)
      cases y : ho9 du (dC s a) r.1 with
      | true =>
        rw [if_pos y] at hK hS
        refine ⟨fun w => absurd w (show ¬ bo9 true = 0 by decide), fun _ => ⟨v8, ?_⟩⟩
        rw [gx hI2]
        exact hBd _ _ f (z + 1) (n + 1) q r hI2 g41 g48 (by omega) (fun I3 f3 q3 n3 r3 hI3 hn3 k41 k48 hf3 hq3 eX => hK I3 (f3 - 1) q3 n3 r3 hI3 (by omega) k41 k48 (by omega) (fun k hk => hq3 k (by omega)) (eX.trans (rn9_wh (by omega) hmL c20 eM2 (fun w => n19 w.1)))) hS
      | false =>
        rw [if_neg (by rw [y]; decide)] at hK
        refine ⟨fun _ => sg_X12_doOne_110 hc2 _ _ _ _ _ _ ⟨fun _ => ⟨fun _ => ?_, fun c => absurd (show (6 : Int32) ≤ 7 by decide) c⟩, fun c => absurd c (by decide)⟩, fun w => absurd (show bo9 false = 0 from rfl) w⟩
        rw [eM] at hK
        exact hK _ f q (n + 1) r hI2 (by omega) g41 g48 (by omega) (fun _ _ => rfl) rfl
    · have k7 : kcR (dC s a).1 = 7 := by rw [c19]; rfl
      rw [if_pos c19] at hK hS
      rw [k7]
      refine ⟨fun _ => ⟨fun _ => sg_X12_doOne_110 hc2 _ _ _ _ _ _ ⟨fun c => absurd rfl c, fun _ => ?_⟩, fun c => absurd c (by decide)⟩, fun c => absurd (show (6 : Int32) ≤ 7 by decide) c⟩
      obtain ⟨X, hX, eX0⟩ : ∃ X : Nat, (1 ≤ X ∧ X ≤ 99) ∧ (dC s a).2.1 = nI X := ⟨(dC s a).2.1.toInt.toNat, by omega, Int32.toInt_inj.mp (by rw [nI_toInt (by omega)]; omega)⟩
      rw [eX0] at hK hS
      have ex1 : ∀ {n2 : Nat} {r2 : Rn9} {I2 : Im}, In9 M I0 J n2 r2 I2 → I2 102 (54 + 9 * t + 1) = nI X := fun h2 => ((h2.rc (by omega) tr).2.2.1 (Or.inr c19)).trans eX0
      have stp : ∀ (k : Nat) (I3 : Im) (l : Int32) (n3 : Nat) (r3 : Rn9), In9 M I0 J n3 r3 I3 → ¬ I3 97 41 = 0 → Q 0 0 I3 J R → P 119 112 [(0, .ref 97), (1, .int (nI t)), (2, .int (nI (54 + 9 * t))), (4, .int (nI k))] [] I3 J R := fun k I3 l n3 r3 hI3 hs3 hQ3 => sg_X12_doOne_119 hc2 _ _ _ _ _ _ ⟨v1, fun _ => hQ3, fun _ => ⟨fun _ => hQ3, fun c => absurd c hs3⟩⟩
      have L : ∀ (j k : Nat) (I3 : Im) (f3 : Nat) (q3 : Nat → Int32) (n3 : Nat) (r3 : Rn9), k + (j + 1) = X → In9 M I0 J n3 r3 I3 → n + 1 ≤ n3 → I3 97 41 = 0 → I3 97 48 = 0 → 200 * (301 - n3) + z + (j + 1) ≤ f3 → (∀ i, i < a → q3 i = q i) → q3 a = nI (j + 1) → rn9 s m od du f (a + 1) (upd q a (nI X)) (n + 1) r = rn9 s m od du f3 (a + 1) q3 n3 r3 → P 119 112 [(0, .ref 97), (1, .int (nI t)), (2, .int (nI (54 + 9 * t))), (4, .int (nI k))] [] I3 J R := by
        intro j
        induction j with
        | zero =>
          intro k I3 f3 q3 n3 r3 hk hI3 hn3 k41 k48 hf3 hq3 qa eX
          refine sg_X12_doOne_119 hc2 _ _ _ _ _ _ ?_
          have e1k : nI k + 1 = nI (k + 1) := nI_s1
          rw [t1, t8, ex1 hI3, gx hI3, e1t, e1k]
          refine ⟨v1, fun c => absurd ((nle_nI (by omega) (by omega)).mp c) (by omega), fun _ => ⟨fun c => absurd k41 c, fun _ => ⟨v8, ?_⟩⟩⟩
          refine hBd _ _ f3 (z + 1) n3 q3 r3 hI3 k41 k48 (by omega) (fun I4 f4 q4 n4 r4 hI4 hn4 j41 j48 hf4 hq4 eY => ?_) (fun I4 l n4 r4 hI4 hs4 hl eY => stp (k + 1) I4 l n4 r4 hI4 hs4 (hS I4 l n4 r4 hI4 hs4 hl (eX.trans eY)))
          have qa4 : q4 a = nI 1 := (hq4 a (by omega)).trans qa
          refine sg_X12_doOne_119 hc2 _ _ _ _ _ _ ⟨v1, fun _ => ?_, fun c => absurd ?_ c⟩
          · exact hK I4 (f4 - 1) q4 n4 r4 hI4 (by omega) j41 j48 (by omega) (fun i hi => (hq4 i (by omega)).trans (hq3 i hi)) ((eX.trans eY).trans (rn9_wh (by omega) hmL c20 eM2 (fun w => w.2 (by rw [qa4]; decide))))
          · rw [t1, ex1 hI4]
            exact (nle_nI (by omega) (by omega)).mpr (by omega)
        | succ j ih =>
          intro k I3 f3 q3 n3 r3 hk hI3 hn3 k41 k48 hf3 hq3 qa eX
          refine sg_X12_doOne_119 hc2 _ _ _ _ _ _ ?_
          have e1k : nI k + 1 = nI (k + 1) := nI_s1
          rw [t1, t8, ex1 hI3, gx hI3, e1t, e1k]
          refine ⟨v1, fun c => absurd ((nle_nI (by omega) (by omega)).mp c) (by omega), fun _ => ⟨fun c => absurd k41 c, fun _ => ⟨v8, ?_⟩⟩⟩
          refine hBd _ _ f3 (z + (j + 1 + 1)) n3 q3 r3 hI3 k41 k48 (by omega) (fun I4 f4 q4 n4 r4 hI4 hn4 j41 j48 hf4 hq4 eY => ?_) (fun I4 l n4 r4 hI4 hs4 hl eY => stp (k + 1) I4 l n4 r4 hI4 hs4 (hS I4 l n4 r4 hI4 hs4 hl (eX.trans eY)))
          have qa4 : q4 a = nI (j + 1 + 1) := (hq4 a (by omega)).trans qa
          have big : ¬ q4 a ≤ 1 := fun w => by
            rw [qa4] at w
            have := (nle_nI (b := 1) (by omega) (by omega)).mp w
            omega
          refine ih (k + 1) I4 (f4 - 1) _ n4 r4 (by omega) hI4 (by omega) j41 j48 (by omega) (fun i hi => ?_) ?_ ((eX.trans eY).trans (rn9_lp (by omega) hmL c20 eM2 ⟨c19, big⟩))
          · rw [upd_ne9 (by omega)]
            exact (hq4 i (by omega)).trans (hq3 i hi)
          · rw [upd_at9, qa4, nI_pred]
      obtain ⟨j, hj⟩ : ∃ j, X = j + 1 := ⟨X - 1, by omega⟩
      exact L j 0 _ f (upd q a (nI X)) (n + 1) r (by omega) hI2 (by omega) g41 g48 (by omega) (fun i hi => upd_ne9 (by omega)) (by rw [upd_at9, hj]) rfl
  · have n4 : n = 300 := (nI_eq (by omega) (by omega)).mp (c3.trans e300)
    rw [if_pos (by omega)] at hS
    exact hS _ 1 n r ⟨(hF.u (Or.inr ⟨rfl, by decide⟩)).u (Or.inr ⟨rfl, by decide⟩), (hR.fl (Or.inl rfl)).fl (Or.inr rfl), hn, hB⟩ (by rw [rd_k (by decide), rd_eq]; decide) rd_eq rfl
end RNF
end PT14x4
