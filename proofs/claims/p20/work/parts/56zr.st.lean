/-! ===== how many cuts and splits till there is a slice: the reference's, and what both answer ===== -/
abbrev FrL9 (I : Im) (J : Jm) (I2 : Im) (J2 : Jm) : Prop := FrW (fun c _ => c = 108) nV I J I2 J2
/-- a number that is told below d -/
def dv9 (e d : Nat) : Int32 := if e < d then nI e else -1
theorem dv9_y {e d : Nat} (h : e < d) : dv9 e d = nI e := if_pos h
theorem dv9_n {e d : Nat} (h : ¬ e < d) : dv9 e d = -1 := if_neg h
theorem n1_neg : (-1 : Int32).toInt = -1 := rfl
section RCR
variable {I : Im} {J : Jm} {R : Rm} {Q : Qt}
theorem px_lays9 {d t : Nat} (h1 : 1 ≤ t) (ht : t ≤ 30) (hQ : ∀ I2, (∀ k, k ≤ 30 → I2 108 k = dv9 (e9 t k) 30) → FrL9 I J I2 J → Q 0 0 I2 J R) : AM (d + 3) 289 112 [.ref 97, .int (nI t)] I J R Q := by
  refine am_X12_laysReach (fun P hc => sg_X12_laysReach_0 hc _ _ _ _ ?_)
  have hbn : ∀ k, k ≤ 30 → e9 t k ≤ 1000 := fun k hk => e9_m ht hk
  have L32 : ∀ (g : Nat) (M : Im), g ≤ 29 → (∀ k, k ≤ 30 → M 108 k = dv9 (e9 t k) (30 - g)) → FrL9 I J M J → P 32 112 [(0, .ref 97), (2, .int (nI (30 - g)))] [] M J R := by
    intro g
    induction g with
    | zero => intro M _ hM hF; exact sg_X12_laysReach_32 hc _ _ _ _ ⟨fun _ => hQ M hM hF, fun c => absurd ((nle_nI (a := 30) (b := 30 - 0) (by omega) (by omega)).mpr (by omega)) c⟩
    | succ g ih =>
      intro M hg hM hF
      have ed : 30 - (g + 1) = 29 - g := by omega
      rw [ed] at hM ⊢
      have L40 : ∀ (h : Nat) (M : Im), h ≤ 30 → (∀ k, k ≤ 30 → M 108 k = dv9 (e9 t k) (if k < 31 - h then 30 - g else 29 - g)) → FrL9 I J M J → P 40 112 [(0, .ref 97), (2, .int (nI (29 - g))), (3, .int (nI (31 - h)))] [] M J R := by
        intro h
        induction h with
        | zero =>
          intro M _ hM hF
          refine sg_X12_laysReach_40 hc _ _ _ _ _ ⟨fun _ => ?_, fun c => absurd ((nlt_nI (a := 30) (b := 31 - 0) (by omega) (by omega)).mpr (by omega)) c⟩
          rw [show nI (29 - g) + 1 = nI (30 - g) from by rw [nI_k1]; exact congrArg nI (by omega)]
          exact ih M (by omega) (fun k hk => (hM k hk).trans (by rw [if_pos (by omega)])) hF
        | succ h ihh =>
          intro M hh hM hF
          have eh : 31 - (h + 1) = 30 - h := by omega
          rw [eh] at hM ⊢
          have en : nI (30 - h) + 1 = nI (31 - h) := nx30 hh
          have hs := hbn (30 - h) (by omega)
          have own : M 108 (30 - h) = dv9 (e9 t (30 - h)) (29 - g) := (hM (30 - h) (by omega)).trans (by rw [if_neg (by omega)])
          refine sg_X12_laysReach_40 hc _ _ _ _ _ ⟨fun c => absurd ((nlt_nI (a := 30) (by omega) (by omega)).mp c) (by omega), fun _ => ?_⟩
          by_cases q : e9 t (30 - h) < 29 - g
          · -- it is told already
            have go := ihh M (by omega) (fun k hk => by
              rw [hM k hk]
              by_cases z : k = 30 - h
              · subst z
                rw [if_neg (by omega), if_pos (by omega), dv9_y q, dv9_y (by omega)]
              · by_cases z2 : k < 30 - h
                · rw [if_pos z2, if_pos (by omega)]
                · rw [if_neg z2, if_neg (by omega)]) hF
            refine sg_X12_laysReach_52 hc _ _ _ _ _ _ _ ⟨fun c => absurd ((nlt_nI (a := 30) (b := 1) (by omega) (by omega)).mp c) (by omega), fun _ => ⟨vp_nI (by omega) (by omega), fun _ => ⟨fun _ => ?_, fun z => absurd rfl z⟩, fun c => ?_⟩⟩
            · rw [en]; exact go
            · rw [tn_nI (by omega), own, dv9_y q] at c
              exact absurd ((nle_nI (a := 0) (by omega) (by omega)).mpr (by omega)) c
          · have ownn : M 108 (30 - h) = -1 := own.trans (dv9_n q)
            have keep : ∀ M2 : Im, (∀ k, k ≤ 30 → ¬ k = 30 - h → M2 108 k = M 108 k) → M2 108 (30 - h) = dv9 (e9 t (30 - h)) (30 - g) → ∀ k, k ≤ 30 → M2 108 k = dv9 (e9 t k) (if k < 31 - h then 30 - g else 29 - g) := fun M2 a b k hk => by
              by_cases z : k = 30 - h
              · subst z; rw [b, if_pos (by omega)]
              · rw [a k hk z, hM k hk]
                by_cases z2 : k < 30 - h
                · rw [if_pos z2, if_pos (by omega)]
                · rw [if_neg z2, if_neg (by omega)]
            have L52 : ∀ (w : Nat) (b : Bool), w ≤ 30 → (b = true → e9 t (30 - h) = 29 - g) → (b = false → ∀ p, 1 ≤ p → p < 31 - w → ¬ (cm9 (30 - h) p = true ∧ e9 t p + 1 = 29 - g)) → P 52 112 [(0, .ref 97), (2, .int (nI (29 - g))), (3, .int (nI (30 - h))), (4, .int (bl b)), (5, .int (nI (31 - w)))] [] M J R := by
              intro w
              induction w with
              | zero =>
                intro b _ hb1 hb0
                refine sg_X12_laysReach_52 hc _ _ _ _ _ _ _ ⟨fun _ => ?_, fun c => absurd ((nlt_nI (a := 30) (b := 31 - 0) (by omega) (by omega)).mpr (by omega)) c⟩
                rw [en]
                cases b with
                | false =>
                  refine ⟨fun _ => ihh M (by omega) (keep M (fun _ _ _ => rfl) ?_) hF, fun z => absurd rfl z⟩
                  rw [ownn, dv9_n]
                  intro z
                  have l0 : ¬ e9 t (30 - h) = 0 := by omega
                  obtain ⟨n1, n2, n3, n4⟩ := e9_nx ht (by omega) (by omega) l0 (by omega)
                  exact hb0 rfl _ (by omega) (by omega) ⟨n3, by omega⟩
                | true =>
                  refine ⟨fun z => absurd (show (1 : Int32) = 0 from z) (by decide), fun _ => ⟨vp_nI (by omega) (by omega), ?_⟩⟩
                  rw [tn_nI (by omega)]
                  refine ihh _ (by omega) (keep _ (fun k _ z => rd_k z) ?_) (hF.u rfl)
                  have e := hb1 rfl
                  rw [rd_eq, dv9_y (by omega), e]
              | succ w ihw =>
                intro b hw hb1 hb0
                have ew : 31 - (w + 1) = 30 - w := by omega
                rw [ew] at hb0 ⊢
                have enw : nI (30 - w) + 1 = nI (31 - w) := nx30 hw
                have hp := hbn (30 - w) (by omega)
                refine sg_X12_laysReach_52 hc _ _ _ _ _ _ _ ⟨fun c => absurd ((nlt_nI (a := 30) (by omega) (by omega)).mp c) (by omega), fun _ => ⟨vp_nI (by omega) (by omega), ?_⟩⟩
                rw [tn_nI (by omega), tn_nI (by omega), ownn, enw]
                refine ⟨fun c => absurd c (by decide), fun _ => ?_⟩
                cases b with
                | true => exact ⟨fun _ => ihw true (by omega) hb1 (fun z => by cases z), fun z => absurd (show (1 : Int32) = 0 from z) (by decide)⟩
                | false =>
                  refine ⟨fun z => absurd rfl z, fun _ => ⟨vp_nI (by omega) (by omega), ?_⟩⟩
                  have nxt : ¬ (cm9 (30 - h) (30 - w) = true ∧ e9 t (30 - w) + 1 = 29 - g) → P 52 112 [(0, .ref 97), (2, .int (nI (29 - g))), (3, .int (nI (30 - h))), (4, .int 0), (5, .int (nI (31 - w)))] [] M J R := fun z =>
                    ihw false (by omega) (fun y => by cases y) (fun _ p a c => by
                      by_cases y : p = 30 - w
                      · subst y; exact z
                      · exact hb0 rfl p a (by omega))
                  have ed1 : (nI (29 - g) - 1 : Int32).toInt = ((29 - g : Nat) : Int) - 1 := ti_sub (nI_toInt (by omega)) (show (1 : Int32).toInt = 1 from rfl) (by omega)
                  have tv : M 108 (30 - w) = nI (29 - g) - 1 ↔ e9 t (30 - w) + 1 = 29 - g := by
                    rw [hM (30 - w) (by omega), ← Int32.toInt_inj, ed1]
                    unfold dv9
                    by_cases z : e9 t (30 - w) < (if 30 - w < 30 - h then 30 - g else 29 - g)
                    · rw [if_pos z, nI_toInt (by omega)]
                      omega
                    · rw [if_neg z, n1_neg]
                      have z2 : ¬ e9 t (30 - w) < 29 - g := fun y => z (by split <;> omega)
                      omega
                  refine ⟨fun c => nxt (fun z => c (tv.mpr z.2)), fun c => ?_⟩
                  have c2 := tv.mp c
                  refine px_comR (a := 30 - h) (b := 30 - w) (by omega) (by omega) (by omega) (by omega) (fun hy _ => ⟨fun z => absurd z (by decide), fun _ => ?_⟩) (fun hy _ => ⟨fun _ => nxt (fun z => by rw [hy] at z; exact absurd z.1 (by decide)), fun z => absurd rfl z⟩)
                  have le := e9_le (t := t) (s := 30 - h) ht (by omega) (by omega) (by omega) hy
                  exact ihw true (by omega) (fun _ => by omega) (fun z => by cases z)
            exact L52 30 false (by decide) (fun z => by cases z) (fun _ p a c => by omega)
      have z0 : e9 t 0 = 1000 := ckZ9 t (by omega)
      refine sg_X12_laysReach_32 hc _ _ _ _ ⟨fun c => absurd ((nle_nI (a := 30) (b := 29 - g) (by omega) (by omega)).mp c) (by omega), fun _ => ?_⟩
      exact L40 30 M (by decide) (fun k hk => by
        rw [hM k hk]
        by_cases z : k = 0
        · subst z
          rw [if_pos (by omega), z0, dv9_n (by omega), dv9_n (by omega)]
        · rw [if_neg (by omega)]) hF
  have L2 : ∀ (f : Nat) (M : Im), f ≤ 31 → (∀ k, k < 31 - f → M 108 k = dv9 (e9 t k) 1) → FrL9 I J M J → P 2 112 [(0, .ref 97), (1, .int (nI t)), (2, .int (nI (31 - f)))] [] M J R := by
    intro f
    induction f with
    | zero =>
      intro M _ hM hF
      exact sg_X12_laysReach_2 hc _ _ _ _ _ ⟨fun _ => L32 29 M (by decide) (fun k hk => hM k (by omega)) hF, fun c => absurd ((nlt_nI (a := 30) (b := 31 - 0) (by omega) (by omega)).mpr (by omega)) c⟩
    | succ f ih =>
      intro M hf hM hF
      have ed : 31 - (f + 1) = 30 - f := by omega
      rw [ed] at hM ⊢
      have en : nI (30 - f) + 1 = nI (31 - f) := by rw [nI_k1]; exact congrArg nI (by omega)
      refine sg_X12_laysReach_2 hc _ _ _ _ _ ⟨fun c => absurd ((nlt_nI (a := 30) (by omega) (by omega)).mp c) (by omega), fun _ => ⟨fun c => ⟨vp_nI (by omega) (by omega), ?_⟩, fun c => ⟨vp_nI (by omega) (by omega), ?_⟩⟩⟩
      · rw [tn_nI (by omega), en]
        refine ih _ (by omega) (fun k hk => ?_) (hF.u rfl)
        by_cases z : k = 30 - f
        · subst z
          have z1 : ¬ e9 t (30 - f) = 0 := fun y => c (congrArg nI ((e9_0 ht (by omega)).mp y).1)
          rw [rd_eq, dv9_n (by omega)]
        · rw [rd_k z]; exact hM k (by omega)
      · rw [tn_nI (by omega), en]
        have c2 : 30 - f = t := nI_inj (by omega) (by omega) c
        refine ih _ (by omega) (fun k hk => ?_) (hF.u rfl)
        by_cases z : k = 30 - f
        · subst z
          have z1 : e9 t (30 - f) = 0 := (e9_0 ht (by omega)).mpr ⟨c2, by omega⟩
          rw [rd_eq, z1]; rfl
        · rw [rd_k z]; exact hM k (by omega)
  exact L2 31 I (by decide) (fun k hk => absurd hk (by omega)) FrW.rf
/-- the first from which it takes the fewest -/
theorem px_from9 {d t M : Nat} {s : StS9} (h1 : 1 ≤ t) (ht : t ≤ 30) (hB : BkR M s I) (hQ : ∀ I2, (∀ k, k ≤ 30 → I2 108 k = dv9 (e9 t k) 30) → FrL9 I J I2 J → Q (mn9 (fb9 (fun k => !decide (s.1 k ≤ 0)) (e9 t) 30 0)) 0 I2 J R) : AM (d + 4) 290 112 [.ref 97, .int (nI t)] I J R Q := by
  refine am_X12_reachFrom (fun P hc => sg_X12_reachFrom_0 hc _ _ _ _ ?_)
  have hbn : ∀ k, k ≤ 30 → e9 t k ≤ 1000 := fun k hk => e9_m ht hk
  have z0 : e9 t 0 = 1000 := ckZ9 t (by omega)
  refine px_lays9 h1 ht (fun A hA hF => ?_)
  have e102 : A 102 = I 102 := hF.c (fun k q => by omega)
  have fin := hQ A hA hF
  have L : ∀ (f b : Nat), f ≤ 30 → (b = 0 ∨ (1 ≤ b ∧ b ≤ t ∧ e9 t b < 1000)) → fb9 (fun k => !decide (s.1 k ≤ 0)) (e9 t) f b = fb9 (fun k => !decide (s.1 k ≤ 0)) (e9 t) 30 0 → P 9 112 [(0, .ref 97), (2, .int (mn9 b)), (3, .int (nI (31 - f)))] [] A J R := by
    intro f
    induction f with
    | zero =>
      intro b _ _ he
      have he2 : b = fb9 (fun k => !decide (s.1 k ≤ 0)) (e9 t) 30 0 := he
      rw [← he2] at fin
      exact sg_X12_reachFrom_9 hc _ _ _ _ _ ⟨fun _ => fin, fun c => absurd ((nlt_nI (a := 30) (b := 31 - 0) (by omega) (by omega)).mpr (by omega)) c⟩
    | succ f ih =>
      intro b hf hb he
      have ed : 31 - (f + 1) = 30 - f := by omega
      have he2 : fb9 (fun k => !decide (s.1 k ≤ 0)) (e9 t) f (if (!decide (s.1 (30 - f) ≤ 0)) = true ∧ e9 t (30 - f) < e9 t b then 30 - f else b) = fb9 (fun k => !decide (s.1 k ≤ 0)) (e9 t) 30 0 := he
      rw [ed]
      have en : nI (30 - f) + 1 = nI (31 - f) := nx30 hf
      have sq : sq9 (nI (30 - f)) := ⟨(nle_nI (a := 1) (by omega) (by omega)).mpr (by omega), (nle_nI (b := 30) (by omega) (by omega)).mpr (by omega)⟩
      obtain ⟨ix, vx⟩ := ix_st sq
      have nn : nn9 (nI (30 - f)) = 30 - f := tn_nI (by omega)
      rw [nn] at ix
      have est : A 102 (3 + (30 - f)) = s.1 (30 - f) := (congrFun e102 _).trans (hB.1 (30 - f) (by omega) (by omega))
      have ep := hA (30 - f) (by omega)
      have lp := hbn (30 - f) (by omega)
      have lb := hbn b (by omega)
      have no : ¬ ((!decide (s.1 (30 - f) ≤ 0)) = true ∧ e9 t (30 - f) < e9 t b) → P 9 112 [(0, .ref 97), (2, .int (mn9 b)), (3, .int (nI (31 - f)))] [] A J R := fun z => by
        rw [if_neg z] at he2
        exact ih b (by omega) hb he2
      refine sg_X12_reachFrom_9 hc _ _ _ _ _ ⟨fun c => absurd ((nlt_nI (a := 30) (by omega) (by omega)).mp c) (by omega), fun _ => ⟨vx, ?_⟩⟩
      rw [ix, est, en]
      refine ⟨fun c => no (fun z => ?_), fun c => ⟨vp_nI (by omega) (by omega), ?_⟩⟩
      · have y := z.1
        rw [decide_eq_true c] at y
        exact absurd y (by decide)
      rw [tn_nI (by omega), ep]
      have ys : (!decide (s.1 (30 - f) ≤ 0)) = true := by rw [decide_eq_false c]; rfl
      rcases e9_b (t := t) (s := 30 - f) ht (by omega) with w | w
      · rw [w, dv9_n (by omega)]
        refine ⟨fun _ => no (fun z => ?_), fun c2 => absurd (show (-1 : Int32) < 0 by decide) c2⟩
        have y := z.2
        omega
      · rw [dv9_y (by omega)]
        have tle : 30 - f ≤ t := by
          rcases Nat.lt_or_ge t (30 - f) with z | z
          · have := e9_gt ht (s := 30 - f) (by omega) z; omega
          · exact z
        have yes : e9 t (30 - f) < e9 t b → P 9 112 [(0, .ref 97), (2, .int (nI (30 - f))), (3, .int (nI (31 - f)))] [] A J R := fun z => by
          rw [if_pos ⟨ys, z⟩] at he2
          have k := ih (30 - f) (by omega) (Or.inr ⟨by omega, tle, by omega⟩) he2
          rw [show mn9 (30 - f) = nI (30 - f) from if_neg (by omega)] at k
          exact k
        refine ⟨fun c2 => absurd c2 (fun y => by have := (nlt_nI (b := 0) (by omega) (by omega)).mp y; omega), fun _ => ?_⟩
        rcases hb with hb | ⟨b1, b2, b3⟩
        · subst hb
          refine ⟨fun _ => yes (by rw [z0]; omega), fun c2 => absurd (show (-1 : Int32) < 0 by decide) c2⟩
        · have b29 : e9 t b ≤ 29 := e9_29 ht (by omega) b3
          have em : mn9 b = nI b := if_neg (by omega)
          have no2 := no
          rw [em] at no2 ⊢
          refine ⟨fun c2 => absurd c2 (fun y => by have := (nlt_nI (b := 0) (by omega) (by omega)).mp y; omega), fun _ => ⟨vp_nI (by omega) (by omega), vp_nI (by omega) (by omega), ?_⟩⟩
          rw [tn_nI (by omega), hA b (by omega), dv9_y (by omega)]
          refine ⟨fun c2 => no2 (fun z => ?_), fun c2 => yes ?_⟩
          · have y := (nle_nI lb lp).mp c2
            have y2 := z.2
            omega
          · rw [nle_nI lb lp] at c2; omega
  have k := L 30 0 (by decide) (Or.inl rfl) rfl
  exact k
end RCR
