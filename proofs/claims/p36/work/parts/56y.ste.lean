section PT14x1
section RNC
variable {I I1 : Im} {J : Jm} {R : Rm} {Q : Qt} {M v0 o p : Nat} {c0 : Int32} {r : Rn9} {m od : Int32} {s : DS}
end RNC
end PT14x1
section PT14x2
/-! ===== the class lives its days: its turns ===== -/
section RND
variable {I : Im} {J : Jm} {R : Rm} {Q : Qt} {M v0 o p : Nat} {c0 : Int32} {r : Rn9} {m od : Int32} {s : DS} {du : Du9}
theorem nle_b9 {a b : Nat} (ha : a < 2 ^ 31) (hb : b < 2 ^ 31) : nI a ≤ nI b ↔ a ≤ b := by
  rw [Int32.le_iff_toInt_le, nI_toInt ha, nI_toInt hb]; omega
theorem nI_s1 {a : Nat} : nI a + 1 = nI (a + 1) := nI_k1 a
theorem px_lStep {e a : Nat} {c : CD} (hL : isO 112 v0 4 = true) (hO : isO 112 o 0 = true) (hP : isO 112 p 2 = true) (hv : o + 5 < v0) (ha : a < 60) (ep : I p 2 = nI (dL s)) (g1 : I (p + 1) a = c.1) (g2 : I (p + 2) a = c.2.1) (g3 : I (p + 3) a = c.2.2.1) (g4 : I (p + 4) a = c.2.2.2) (g5 : I (p + 5) a = nI (dM s a)) (n20 : ¬ c.1 = 20) (hV : VC9 m c) (em : I o 4 = m) (hm : m.toInt = (M : Int) ∧ M ≤ 6) (eo : I o 1 = od) (hd : DuA o M du I) (hs : ∀ k, k < M → sh (du k).1 (du k).2) (h : LfA v0 o M c0 r I)
    (q21 : c.1 = 21 → Q (nI (dL s)) 0 I J R) (q19 : c.1 = 19 → Q (nI (a + 1)) 0 (uI I (v0 + 1) a c.2.1) J R) (qT : isTs c.1 = true → (ho9 du c r.1 = true → Q (nI (a + 1)) 0 I J R) ∧ (¬ ho9 du c r.1 = true → Q (nI (dM s a + 1)) 0 I J R)) (qA : ¬ c.1 = 21 → ¬ c.1 = 19 → ¬ isTs c.1 = true → ∀ I2, LfA v0 o M c0 (do9 m od c r) I2 → FrAc v0 o I J I2 J → Q (nI (a + 1)) 0 I2 J R) : AM (e + 5) 43 112 [.ref v0, .ref o, .ref p, .int (nI a)] I J R Q := by
  obtain ⟨a1, l1, -⟩ := fa_2_3 hP
  obtain ⟨a2, l2, -⟩ := fa_2_4 hP
  obtain ⟨a5, l5, -⟩ := fa_2_7 hP
  obtain ⟨w1, k1, -⟩ := fa_4_8 hL
  have v60 : vp_in (nI a) 60 := vp_nI (by omega) (by omega)
  have x1 : vp_in (nI a) (aL (p + 1)) := by rw [l1]; exact v60
  have x2 : vp_in (nI a) (aL (p + 2)) := by rw [l2]; exact v60
  have x5 : vp_in (nI a) (aL (p + 5)) := by rw [l5]; exact v60
  have xw : vp_in (nI a) (aL (v0 + 1)) := by rw [k1]; exact v60
  have e2 := h.2.2.1
  have T : isTs c.1 = true → AM (e + 4) 44 112 [.ref o, .ref p, .int (nI a)] I J R (fun x5 _ I5 J5 _ => (x5 = 0 ∨ x5 = 1) → ((x5 = (0 : Int32) → (bif isO 112 p 2 then (bif isA 112 (p + 5) 0 then (vp_in (nI a) (aL (p + 5)) ∧ Q ((I5 (p + 5) a) + 1) 0 I5 J5 R) else False) else False)) ∧ (¬ x5 = (0 : Int32) → Q (nI a + 1) 0 I5 J5 R))) := fun hT => by
    refine px_lHold hO hP ha g1 g2 g3 g4 hT hV em hm hd hs h.1 (fun _ => ?_)
    obtain ⟨t1, t2⟩ := qT hT
    cases z : ho9 du c r.1 with
    | true => exact ⟨fun y => absurd y (show ¬ bo9 true = 0 by decide), fun _ => by rw [nI_s1]; exact t1 z⟩
    | false => exact ⟨fun _ => bif_t hP (bif_t a5 ⟨x5, by rw [g5, nI_s1]; exact t2 (by rw [z]; decide)⟩), fun y => absurd (show bo9 false = 0 from rfl) y⟩
  have A : ¬ c.1 = 14 → ¬ c.1 = 21 → ¬ c.1 = 19 → ¬ isTs c.1 = true → AM (e + 4) 46 112 [.ref v0, .ref o, .ref p, .int (nI a)] I J R (fun x6 _ I6 J6 _ => (x6 = 0 ∨ x6 = 1) → ((x6 = (0 : Int32) → (bif isO 112 v0 4 then Q (nI a + 1) 0 (uI I6 v0 2 ((I v0 2) + 1)) J6 R else False)) ∧ (¬ x6 = (0 : Int32) → (bif isO 112 v0 4 then Q (nI a + 1) 0 (uI I6 v0 2 ((I v0 2) + 0)) J6 R else False)))) := fun n14 n21 n19 nT => by
    refine px_lAct (od := od) hL hO hP hv ha g1 g2 g3 g4 n14 em hm h (fun I2 h2 hF _ => ?_)
    have k := qA n21 n19 nT _ (LfA.ms (x := r.2.2.1) (z := (ac9 m od c r).1) hv h2) (hF.u (Or.inr ⟨rfl, by decide⟩))
    rw [e2, nI_s1]
    refine ⟨fun z => bif_t hL ?_, fun z => bif_t hL ?_⟩
    · rw [show b9 (ac9 m od c r).1 = 1 from if_pos z] at k; exact k
    · rw [show b9 (ac9 m od c r).1 = 0 from if_neg z] at k; exact k
  refine w_X4_behindStep (bif_t hP (bif_t a1 ⟨x1, ?_⟩))
  rw [tn_nI (by omega), g1]
  refine ⟨fun c14 => bif_t hL (bif_t hL (px_lAny hL hO hv em hm eo h (fun I2 h2 hF _ => ?_))), fun n14 => ⟨fun c15 => bif_t hL (bif_t hL (A n14 (by rw [c15]; decide) (by rw [c15]; decide) (by rw [c15]; decide))), fun n15 => ⟨fun c16 => T (by rw [c16]; decide), fun n16 => ⟨fun c17 => T (by rw [c17]; decide), fun n17 => ⟨fun c18 => T (by rw [c18]; decide), fun n18 => ⟨fun c19 => bif_t hL (bif_t hP (bif_t a2 ⟨x2, bif_t w1 ⟨xw, ?_⟩⟩)), fun n19 => ⟨fun c20 => absurd c20 n20, fun _ => ⟨fun c21 => bif_t hP ?_, fun n21 => bif_t hL (bif_t hL (A n14 n21 n19 (fun z => (isTs_c z).elim n16 (fun y => y.elim n17 n18))))⟩⟩⟩⟩⟩⟩⟩⟩
  · have ea : ac9 m od c r = an9 m od r := (if_neg (by rw [c14]; decide)).trans ((if_neg (by rw [c14]; decide)).trans ((if_neg (by rw [c14]; decide)).trans ((if_neg (by rw [c14]; decide)).trans (if_pos c14))))
    have k := qA (by rw [c14]; decide) (by rw [c14]; decide) (by rw [c14]; decide) (uI I2 v0 2 (r.2.2.1 + b9 (an9 m od r).1)) (by unfold do9; rw [ea]; exact LfA.ms (x := r.2.2.1) (z := (an9 m od r).1) hv h2) (hF.u (Or.inr ⟨rfl, by decide⟩))
    rw [e2, nI_s1]
    refine ⟨fun z => bif_t hL ?_, fun z => bif_t hL ?_⟩
    · rw [show b9 (an9 m od r).1 = 1 from if_pos z] at k; exact k
    · rw [show b9 (an9 m od r).1 = 0 from if_neg z] at k; exact k
  · rw [g2, nI_s1]; exact q19 c19
  · rw [ep]; exact q21 c21
theorem px_lEnd {e a : Nat} {q : Nat → Int32} (hL : isO 112 v0 4 = true) (hP : isO 112 p 2 = true) (ha : a < 60) (hS : SDc s p I) (hq : ∀ k, k < 60 → I (v0 + 1) k = q k) (h1 : a < dL s) (h2 : dM s a < a)
    (hQ : Q (if (dC s (dM s a)).1 = 19 ∧ ¬ q (dM s a) ≤ 1 then nI (dM s a + 1) else nI (a + 1)) 0 (if (dC s (dM s a)).1 = 19 ∧ ¬ q (dM s a) ≤ 1 then uI I (v0 + 1) (dM s a) (q (dM s a) - 1) else I) J R) : AM (e + 1) 42 112 [.ref v0, .ref p, .int (nI a)] I J R Q := by
  obtain ⟨a1, l1, -⟩ := fa_2_3 hP
  obtain ⟨a5, l5, -⟩ := fa_2_7 hP
  obtain ⟨w1, k1, -⟩ := fa_4_8 hL
  have v60 : vp_in (nI a) 60 := vp_nI (by omega) (by omega)
  have m60 : vp_in (nI (dM s a)) 60 := vp_nI (by omega) (by omega)
  have x5 : vp_in (nI a) (aL (p + 5)) := by rw [l5]; exact v60
  have y1 : vp_in (nI (dM s a)) (aL (p + 1)) := by rw [l1]; exact m60
  have yw : vp_in (nI (dM s a)) (aL (v0 + 1)) := by rw [k1]; exact m60
  have em : I (p + 5) a = nI (dM s a) := (hS.2 a h1).2.2.2.2
  have ec : I (p + 1) (dM s a) = (dC s (dM s a)).1 := (hS.2 (dM s a) (by omega)).1
  have eq : I (v0 + 1) (dM s a) = q (dM s a) := hq _ (by omega)
  refine am_X4_behindEnd (fun P hc => sg_X4_behindEnd_0 hc _ _ _ _ _ _ (bif_t hP (bif_t a5 ⟨x5, ?_⟩)))
  rw [tn_nI (by omega), em]
  refine ⟨fun z => absurd z (nI_pos (by omega)), fun _ => ⟨fun z => absurd ((nle_nI (by omega) (by omega)).mp z) (by omega), fun _ => ⟨fun z => absurd z (by decide), fun _ => bif_t hP (bif_t a1 ⟨y1, ?_⟩)⟩⟩⟩
  rw [tn_nI (by omega), ec, eq, nI_s1, nI_s1]
  refine ⟨fun n19 => ?_, fun c19 => bif_t hL (bif_t w1 ⟨yw, fun c => ?_, fun c => bif_t hL (bif_t w1 ⟨yw, bif_t w1 ⟨yw, ?_⟩⟩)⟩)⟩
  · rw [if_neg (fun z => n19 z.1), if_neg (fun z => n19 z.1)] at hQ; exact hQ
  · rw [if_neg (fun z => z.2 c), if_neg (fun z => z.2 c)] at hQ; exact hQ
  · rw [if_pos ⟨c19, c⟩, if_pos ⟨c19, c⟩] at hQ; exact hQ
theorem SDc.lf {I2 : Im} {J2 : Jm} (ho : o + 5 < p) (hp : p + 5 < v0) (h : SDc s p I) (hF : FrLf v0 o I J I2 J2) : SDc s p I2 := by
  have e : ∀ c, p ≤ c → c ≤ p + 5 → I2 c = I c := fun c a b => hF.c (fun k q => by rcases q with (q | q | q) | q | q <;> omega)
  refine ⟨by rw [e p (by omega) (by omega)]; exact h.1, fun k hk => ?_⟩
  rw [e (p + 1) (by omega) (by omega), e (p + 2) (by omega) (by omega), e (p + 3) (by omega) (by omega), e (p + 4) (by omega) (by omega), e (p + 5) (by omega) (by omega)]
  exact h.2 k hk
theorem DuA.lf {I2 : Im} {J2 : Jm} (ho : o + 5 < p) (hp : p + 5 < v0) (h : DuA o M du I) (hF : FrLf v0 o I J I2 J2) : DuA o M du I2 := by
  have e3 : I2 (o + 3) = I (o + 3) := hF.c (fun k q => by rcases q with (q | q | q) | q | q <;> omega)
  have e4 : I2 (o + 4) = I (o + 4) := hF.c (fun k q => by rcases q with (q | q | q) | q | q <;> omega)
  unfold DuA
  rw [e3, e4]
  exact h
theorem px_run4 {e : Nat} {sd : Int32} {st : StS9} (hL : isO 112 v0 4 = true) (hO : isO 112 o 0 = true) (hP : isO 112 p 2 = true) (ho : o + 5 < p) (hp : p + 5 < v0) (hD : DOk s) (hW : Wf9 s) (hS : SDc s p I) (hV : ∀ a, a < dL s → VC9 m (dC s a)) (em : I o 4 = m) (hm : m.toInt = (M : Int) ∧ M ≤ 6) (eo : I o 1 = od) (hd : DuA o M du I) (hs : ∀ k, k < M → sh (du k).1 (du k).2) (h : BkA o M st I)
    (hQ : ∀ I2, LfA v0 o M st.2.2 (rn9 s m od du 1000000 0 (I (v0 + 1)) 0 (st, sd, 0, 0, 0)).2.2 I2 → I2 v0 0 = 1 → I2 v0 1 = nI (rn9 s m od du 1000000 0 (I (v0 + 1)) 0 (st, sd, 0, 0, 0)).2.1 → I2 v0 6 = (rn9 s m od du 1000000 0 (I (v0 + 1)) 0 (st, sd, 0, 0, 0)).1 → FrLf v0 o I J I2 J → Q 0 0 I2 J R) : AM (e + 6) 41 112 [.ref v0, .ref o, .ref p, .int sd] I J R Q := by
  have hL60 : dL s ≤ 60 := by have := hD.1; have := hD.2.2.1; omega
  refine am_X4_run (fun P hc => sg_X4_run_0 hc _ _ _ _ _ _ _ (bif_t hL ⟨Or.inr rfl, bif_t hL (bif_t hL (bif_t hL (bif_t hL (bif_t hL (bif_t hL (bif_t hL ?_))))))⟩))
  have fin : ∀ (q : Nat → Int32) (f t a n : Nat) (r : Rn9) (M1 : Im), t ≤ 1000000 → (∀ k, k < 60 → M1 (v0 + 1) k = q k) → n ≤ 300 → FrLf v0 o I J M1 J → M1 v0 0 = 1 → M1 v0 1 = nI n → LfA v0 o M st.2.2 r M1 → (∀ I2, LfA v0 o M st.2.2 r I2 → I2 v0 0 = 1 → I2 v0 1 = nI n → I2 v0 6 = 1 → FrLf v0 o I J I2 J → Q 0 0 I2 J R) → P 46 112 [(0, .ref v0), (1, .ref o), (2, .ref p), (4, .int (nI a)), (5, .int (nI t))] [] (uI M1 v0 6 1) J R := by
    intro q f t a n r M1 ht hq hn hF e0 e1 hA hQ1
    have k : Q 0 0 (uI M1 v0 6 1) J R := hQ1 _ ⟨hA.1.lf (by omega), (rd_k (by decide)).trans hA.2.1, (rd_k (by decide)).trans hA.2.2.1, (rd_k (by decide)).trans hA.2.2.2.1, (rd_k (by decide)).trans hA.2.2.2.2.1, (rd_k (by decide)).trans hA.2.2.2.2.2⟩ ((rd_k (by decide)).trans e0) ((rd_k (by decide)).trans e1) rd_eq (hF.u (Or.inr (Or.inl rfl)))
    refine sg_X4_run_46 hc _ _ _ _ _ _ _ _ ⟨fun _ => k, fun _ => bif_t hL ⟨fun _ => k, fun z => ?_⟩⟩
    rw [rd_eq] at z
    exact absurd z (by decide)
  have L : ∀ (f t a : Nat) (q : Nat → Int32) (n : Nat) (r : Rn9) (M1 : Im), t + f = 1000000 → a ≤ dL s → (∀ k, k < 60 → M1 (v0 + 1) k = q k) → n ≤ 300 → FrLf v0 o I J M1 J → M1 v0 0 = 1 → M1 v0 1 = nI n → M1 v0 6 = 0 → LfA v0 o M st.2.2 r M1 → (∀ I2, LfA v0 o M st.2.2 (rn9 s m od du f a q n r).2.2 I2 → I2 v0 0 = 1 → I2 v0 1 = nI (rn9 s m od du f a q n r).2.1 → I2 v0 6 = (rn9 s m od du f a q n r).1 → FrLf v0 o I J I2 J → Q 0 0 I2 J R) → P 46 112 [(0, .ref v0), (1, .ref o), (2, .ref p), (4, .int (nI a)), (5, .int (nI t))] [] M1 J R := by
    intro f
    induction f with
    | zero =>
      intro t a q n r M1 ht ha hq hn hF e0 e1 e6 hA hQ1
      exact sg_X4_run_46 hc _ _ _ _ _ _ _ _ ⟨fun _ => hQ1 M1 hA e0 e1 e6 hF, fun c => absurd ((nle_b9 (a := 1000000) (by omega) (by omega)).mpr (by omega)) c⟩
    | succ f ih =>
      intro t a q n r M1 ht ha hq hn hF e0 e1 e6 hA hQ1
      have hS1 := hS.lf ho hp hF
      have em1 : M1 o 4 = m := (hF.i (fun q => by rcases q with (q | q | q) | q | q <;> omega)).trans em
      have eo1 : M1 o 1 = od := (hF.i (fun q => by rcases q with (q | q | q) | q | q <;> omega)).trans eo
      have hd1 := hd.lf ho hp hF
      have er : rn9 s m od du (f + 1) a q n r = if dL s ≤ a then (0, n, r) else
        if (dC s a).1 = 20 then (if (dC s (dM s a)).1 = 19 ∧ ¬ q (dM s a) ≤ 1 then rn9 s m od du f (dM s a + 1) (upd q (dM s a) (q (dM s a) - 1)) n r else rn9 s m od du f (a + 1) q n r) else
        if 300 ≤ n then (1, n, r) else
        if (dC s a).1 = 21 then rn9 s m od du f (dL s) q (n + 1) r else
        if (dC s a).1 = 19 then rn9 s m od du f (a + 1) (upd q a (dC s a).2.1) (n + 1) r else
        if isTs (dC s a).1 = true then (if ho9 du (dC s a) r.1 = true then rn9 s m od du f (a + 1) q (n + 1) r else rn9 s m od du f (dM s a + 1) q (n + 1) r)
        else rn9 s m od du f (a + 1) q (n + 1) (do9 m od (dC s a) r) := rfl
      refine sg_X4_run_46 hc _ _ _ _ _ _ _ _ ⟨fun c => absurd ((nle_b9 (a := 1000000) (by omega) (by omega)).mp c) (by omega), fun _ => bif_t hL ⟨fun c => absurd e6 c, fun _ => ⟨fun c => absurd c (nI_pos (by omega)), fun _ => bif_t hP ?_⟩⟩⟩
      rw [hS1.1]
      refine ⟨fun c => ?_, fun c => ?_⟩
      · have c2 : dL s ≤ a := (nle_nI (by omega) (by omega)).mp c
        rw [er, if_pos c2] at hQ1
        exact hQ1 M1 hA e0 e1 e6 hF
      have c2 : ¬ dL s ≤ a := fun z => c ((nle_nI (by omega) (by omega)).mpr z)
      rw [er, if_neg c2] at hQ1
      obtain ⟨g1, g2, g3, g4, g5⟩ := hS1.2 a (by omega)
      obtain ⟨a1, l1, -⟩ := fa_2_3 hP
      have x1 : vp_in (nI a) (aL (p + 1)) := by rw [l1]; exact vp_nI (by omega) (by omega)
      obtain ⟨m1, m2, -⟩ := hW.2.2.2 a (by omega)
      refine bif_t hP (bif_t a1 ⟨x1, ?_⟩)
      rw [tn_nI (by omega), g1]
      refine ⟨fun n20 => bif_t hL ?_, fun c20 => bif_t hL ?_⟩
      · rw [if_neg n20] at hQ1
        rw [e1]
        refine ⟨fun c3 => bif_t hL (bif_t hL (bif_t hL ?_)), fun c3 => bif_t hL ?_⟩
        · have c4 : n < 300 := (nlt_nI (b := 300) (by omega) (by omega)).mp c3
          rw [if_neg (by omega : ¬ 300 ≤ n)] at hQ1
          rw [nI_s1]
          have hF2 : FrLf v0 o I J (uI M1 v0 1 (nI (n + 1))) J := hF.u (Or.inr (Or.inl rfl))
          have hS2 := hS.lf ho hp hF2
          obtain ⟨g1, g2, g3, g4, g5⟩ := hS2.2 a (by omega)
          have em2 : uI M1 v0 1 (nI (n + 1)) o 4 = m := (rd_ne (by first | decide | omega)).trans em1
          have eo2 : uI M1 v0 1 (nI (n + 1)) o 1 = od := (rd_ne (by first | decide | omega)).trans eo1
          have hd2 := hd.lf ho hp hF2
          have hA2 : LfA v0 o M st.2.2 r (uI M1 v0 1 (nI (n + 1))) := ⟨hA.1.lf (by omega), (rd_k (by decide)).trans hA.2.1, (rd_k (by decide)).trans hA.2.2.1, (rd_k (by decide)).trans hA.2.2.2.1, (rd_k (by decide)).trans hA.2.2.2.2.1, (rd_k (by decide)).trans hA.2.2.2.2.2⟩
          have f0 : uI M1 v0 1 (nI (n + 1)) v0 0 = 1 := (rd_k (by decide)).trans e0
          have f1 : uI M1 v0 1 (nI (n + 1)) v0 1 = nI (n + 1) := rd_eq
          have f6 : uI M1 v0 1 (nI (n + 1)) v0 6 = 0 := (rd_k (by decide)).trans e6
          have fq : ∀ k, k < 60 → uI M1 v0 1 (nI (n + 1)) (v0 + 1) k = q k := fun k hk => (rd_ne (by first | decide | omega)).trans (hq k hk)
          generalize uI M1 v0 1 (nI (n + 1)) = A at hF2 g1 g2 g3 g4 g5 em2 eo2 hd2 hA2 f0 f1 f6 fq hS2
          refine px_lStep hL hO hP (by omega) (by omega) hS2.1 g1 g2 g3 g4 g5 n20 (hV a (by omega)) em2 hm eo2 hd2 hs hA2 (fun c21 => ?_) (fun c19 => ?_) (fun hT => ?_) (fun n21 n19 nT I2 h2 hF3 => ?_)
          · rw [nI_s1]
            rw [if_pos c21] at hQ1
            exact ih (t + 1) (dL s) q (n + 1) r A (by omega) (Nat.le_refl _) fq (by omega) hF2 f0 f1 f6 hA2 hQ1
          · rw [nI_s1]
            rw [if_neg (by rw [c19]; decide), if_pos c19] at hQ1
            refine ih (t + 1) (a + 1) _ (n + 1) r _ (by omega) (by omega) (fun k hk => ?_) (by omega) (hF2.u (Or.inr (Or.inr rfl))) ((rd_ne (by first | decide | omega)).trans f0) ((rd_ne (by first | decide | omega)).trans f1) ((rd_ne (by first | decide | omega)).trans f6) ⟨hA2.1.lf (by omega), (rd_ne (by first | decide | omega)).trans hA2.2.1, (rd_ne (by first | decide | omega)).trans hA2.2.2.1, (rd_ne (by first | decide | omega)).trans hA2.2.2.2.1, (rd_ne (by first | decide | omega)).trans hA2.2.2.2.2.1, (rd_ne (by first | decide | omega)).trans hA2.2.2.2.2.2⟩ hQ1
            by_cases z : k = a
            · subst z; rw [rd_eq]; exact upd_at9.symm
            · rw [rd_k z]; exact (fq k hk).trans (upd_ne9 z).symm
          · rw [nI_s1]
            have b21 : ¬ (dC s a).1 = 21 := fun z => by rw [z] at hT; exact absurd hT (by decide)
            have b19 : ¬ (dC s a).1 = 19 := fun z => by rw [z] at hT; exact absurd hT (by decide)
            rw [if_neg b21, if_neg b19, if_pos hT] at hQ1
            refine ⟨fun z => ?_, fun z => ?_⟩
            · rw [if_pos z] at hQ1
              exact ih (t + 1) (a + 1) q (n + 1) r A (by omega) (by omega) fq (by omega) hF2 f0 f1 f6 hA2 hQ1
            · rw [if_neg z] at hQ1
              exact ih (t + 1) (dM s a + 1) q (n + 1) r A (by omega) (by omega) fq (by omega) hF2 f0 f1 f6 hA2 hQ1
          · rw [nI_s1]
            rw [if_neg n21, if_neg n19, if_neg nT] at hQ1
            have o0 : ∀ k, k = 0 ∨ k = 1 ∨ k = 6 → I2 v0 k = A v0 k := fun k hk => hF3.i (fun q => by rcases q with (q | q | q) | q <;> omega)
            refine ih (t + 1) (a + 1) q (n + 1) _ I2 (by omega) (by omega) (fun k hk => (hF3.i (fun q => by rcases q with (q | q | q) | q <;> omega)).trans (fq k hk)) (by omega) (hF2.tr hF3.lf) ((o0 0 (by omega)).trans f0) ((o0 1 (by omega)).trans f1) ((o0 6 (by omega)).trans f6) h2 hQ1
        · have c4 : 300 ≤ n := by
            rcases Nat.lt_or_ge n 300 with z | z
            · exact absurd ((nlt_nI (b := 300) (by omega) (by omega)).mpr z) c3
            · exact z
          rw [if_pos c4] at hQ1
          rw [nI_s1]
          exact fin q f (t + 1) a n r M1 (by omega) hq hn hF e0 e1 hA hQ1
      · rw [if_pos c20] at hQ1
        refine px_lEnd hL hP (by omega) hS1 hq (by omega) (m2 c20) ?_
        rw [nI_s1]
        by_cases z : (dC s (dM s a)).1 = 19 ∧ ¬ q (dM s a) ≤ 1
        · rw [if_pos z] at hQ1
          rw [if_pos z, if_pos z]
          have m3 := m2 c20
          refine ih (t + 1) (dM s a + 1) _ n r _ (by omega) (by omega) (fun k hk => ?_) hn (hF.u (Or.inr (Or.inr rfl))) ((rd_ne (by first | decide | omega)).trans e0) ((rd_ne (by first | decide | omega)).trans e1) ((rd_ne (by first | decide | omega)).trans e6) ⟨hA.1.lf (by omega), (rd_ne (by first | decide | omega)).trans hA.2.1, (rd_ne (by first | decide | omega)).trans hA.2.2.1, (rd_ne (by first | decide | omega)).trans hA.2.2.2.1, (rd_ne (by first | decide | omega)).trans hA.2.2.2.2.1, (rd_ne (by first | decide | omega)).trans hA.2.2.2.2.2⟩ hQ1
          by_cases y : k = dM s a
          · subst y; rw [rd_eq]; exact upd_at9.symm
          · rw [rd_k y]; exact (hq k hk).trans (upd_ne9 y).symm
        · rw [if_neg z] at hQ1
          rw [if_neg z, if_neg z]
          exact ih (t + 1) (a + 1) q n r M1 (by omega) (by omega) hq hn hF e0 e1 e6 hA hQ1
  have hFs : FrLf v0 o I J (uI (uI (uI (uI (uI (uI (uI (uI I v0 0 1) v0 1 0) v0 2 0) v0 3 0) v0 4 0) v0 5 0) v0 6 0) v0 7 sd) J := (((((((FrW.rf.u (Or.inr (Or.inl rfl))).u (Or.inr (Or.inl rfl))).u (Or.inr (Or.inl rfl))).u (Or.inr (Or.inl rfl))).u (Or.inr (Or.inl rfl))).u (Or.inr (Or.inl rfl))).u (Or.inr (Or.inl rfl))).u (Or.inr (Or.inl rfl))
  refine L 1000000 0 0 (I (v0 + 1)) 0 (st, sd, 0, 0, 0) _ (by omega) (by omega) (fun k _ => ?_) (by omega) hFs ?_ ?_ ?_ ⟨?_, rd_eq, ?_, ?_, ?_, ?_⟩ hQ
  · rw [rd_ne (by first | decide | omega), rd_ne (by first | decide | omega), rd_ne (by first | decide | omega), rd_ne (by first | decide | omega), rd_ne (by first | decide | omega), rd_ne (by first | decide | omega), rd_ne (by first | decide | omega), rd_ne (by first | decide | omega)]
  · rw [rd_k (by decide), rd_k (by decide), rd_k (by decide), rd_k (by decide), rd_k (by decide), rd_k (by decide), rd_k (by decide), rd_eq]
  · show _ = (0 : Int32)
    rw [rd_k (by decide), rd_k (by decide), rd_k (by decide), rd_k (by decide), rd_k (by decide), rd_k (by decide), rd_eq]
  · rw [rd_k (by decide), rd_eq]
  · exact (((((((h.lf (by omega)).lf (by omega)).lf (by omega)).lf (by omega)).lf (by omega)).lf (by omega)).lf (by omega)).lf (by omega)
  · show _ = (0 : Int32)
    rw [rd_k (by decide), rd_k (by decide), rd_k (by decide), rd_k (by decide), rd_k (by decide), rd_eq]
  · show _ = (0 : Int32)
    rw [rd_k (by decide), rd_k (by decide), rd_k (by decide), rd_eq]
  · show _ = (0 : Int32)
    rw [rd_k (by decide), rd_k (by decide), rd_eq]
  · show _ = st.2.2 - st.2.2
    rw [rd_k (by decide), rd_k (by decide), rd_k (by decide), rd_k (by decide), rd_eq, Int32.sub_self]
end RND
end PT14x2
