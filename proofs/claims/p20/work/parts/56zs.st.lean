/-! ===== reach(), reachAt(): what they answer ===== -/
theorem nI_m1 {f : Nat} (h : f + 1 ≤ 1000) : nI (f + 1) + (-1) = nI f := by
  have k : (nI (f + 1) + (-1) : Int32).toInt = ((f + 1 : Nat) : Int) + (-1) := ti_add (nI_toInt (by omega)) (show (-1 : Int32).toInt = -1 from rfl) (by omega)
  exact Int32.toInt_inj.mp (by rw [k, nI_toInt (by omega)]; omega)
theorem inS_or9 {x : Int32} {d k : Nat} (hx : 0 ≤ x.toInt ∧ x.toInt < 1073741824) (d1 : 1 ≤ d) (d2 : d ≤ 30) (k1 : 1 ≤ k) (k2 : k ≤ 30) : inS (x ||| biS (nI d)) (nI k) = (inS x (nI k) || decide (k = d)) := by
  have a1 : (1 : Int32) ≤ nI d := (nle_nI (a := 1) (by omega) (by omega)).mpr d1
  have a2 : nI d ≤ (30 : Int32) := (nle_nI (b := 30) (by omega) (by omega)).mpr d2
  have hb := bi_in hx a1 a2
  have hd : (nI d - 1).toInt = ((d - 1 : Nat) : Int) := by
    rw [show nI d - 1 = nI (d - 1) from nI_sub (b := 1) (by omega) d1]
    exact nI_toInt (by omega)
  have hk : (nI k - 1).toInt = ((k - 1 : Nat) : Int) := by
    rw [show nI k - 1 = nI (k - 1) from nI_sub (b := 1) (by omega) k1]
    exact nI_toInt (by omega)
  rw [inS_tb hb.1 (show k - 1 < 30 by omega) hk, inS_tb hx.1 (show k - 1 < 30 by omega) hk, or_tb hx (show d - 1 < 30 by omega) hd]
  by_cases q : k = d
  · subst q
    rw [tb_or2, decide_eq_true rfl, Bool.or_true]
  · rw [tb_ne (by omega), decide_eq_false q, Bool.or_false]
theorem stR_in9 {S : Nat → Int32} {k : Nat} (k1 : 1 ≤ k) (k2 : k ≤ 30) : ∀ (f : Nat) (x : Int32), f ≤ 30 → 0 ≤ x.toInt ∧ x.toInt < 1073741824 → inS (stR S f x) (nI k) = (inS x (nI k) || (decide (31 - f ≤ k) && !decide (S k ≤ 0))) := by
  intro f
  induction f with
  | zero =>
    intro x _ _
    rw [decide_eq_false (show ¬ 31 - 0 ≤ k by omega), Bool.false_and, Bool.or_false]; rfl
  | succ f ih =>
    intro x hf hx
    show inS (stR S f (if S (30 - f) ≤ 0 then x else x ||| biS (nI (30 - f)))) (nI k) = _
    have hx2 : 0 ≤ (if S (30 - f) ≤ 0 then x else x ||| biS (nI (30 - f))).toInt ∧ (if S (30 - f) ≤ 0 then x else x ||| biS (nI (30 - f))).toInt < 1073741824 := by
      split
      · exact hx
      · exact bi_in hx ((nle_nI (a := 1) (by omega) (by omega)).mpr (by omega)) ((nle_nI (b := 30) (by omega) (by omega)).mpr (by omega))
    rw [ih _ (by omega) hx2]
    by_cases q : k = 30 - f
    · subst q
      rw [decide_eq_false (show ¬ 31 - f ≤ 30 - f by omega), decide_eq_true (show 31 - (f + 1) ≤ 30 - f by omega), Bool.false_and, Bool.or_false, Bool.true_and]
      by_cases z : S (30 - f) ≤ 0
      · rw [if_pos z, decide_eq_true z, Bool.not_true, Bool.or_false]
      · rw [if_neg z, decide_eq_false z, inS_or9 hx (by omega) (by omega) k1 k2, decide_eq_true rfl, Bool.or_true, Bool.not_false, Bool.or_true]
    · have e : inS (if S (30 - f) ≤ 0 then x else x ||| biS (nI (30 - f))) (nI k) = inS x (nI k) := by
        split
        · rfl
        · rw [inS_or9 hx (by omega) (by omega) k1 k2, decide_eq_false q, Bool.or_false]
      rw [e]
      by_cases z : 31 - f ≤ k
      · rw [decide_eq_true z, decide_eq_true (show 31 - (f + 1) ≤ k by omega)]
      · rw [decide_eq_false z, decide_eq_false (show ¬ 31 - (f + 1) ≤ k by omega)]
theorem fb9_congr {st st2 : Nat → Bool} {E : Nat → Nat} (h : ∀ k, 1 ≤ k → k ≤ 30 → st k = st2 k) : ∀ f b, f ≤ 30 → fb9 st E f b = fb9 st2 E f b := by
  intro f
  induction f with
  | zero => intro b _; rfl
  | succ f ih =>
    intro b hf
    show fb9 st E f (if st (30 - f) = true ∧ E (30 - f) < E b then 30 - f else b) = fb9 st2 E f (if st2 (30 - f) = true ∧ E (30 - f) < E b then 30 - f else b)
    rw [h (30 - f) (by omega) (by omega)]
    exact ih _ (by omega)
def rb9 (I : Im) (t : Nat) : Nat := fb9 (fun k => !decide ((s9 I).1 k ≤ 0)) (e9 t) 30 0
theorem rb9_c {I : Im} {t : Nat} : fb9 (st9 (stR (s9 I).1 30 0)) (e9 t) 30 0 = rb9 I t :=
  fb9_congr (fun k a b => by
    show inS (stR (s9 I).1 30 0) (nI k) = !decide ((s9 I).1 k ≤ 0)
    rw [stR_in9 a b 30 0 (by decide) (by decide), decide_eq_true (show 31 - 30 ≤ k by omega), Bool.true_and, show inS 0 (nI k) = false from by
      unfold inS
      rw [Int32.zero_and]; rfl, Bool.false_or]) 30 0 (by decide)
theorem rb9_in {I : Im} {t : Nat} (ht : t ≤ 30) : rb9 I t = 0 ∨ (1 ≤ rb9 I t ∧ rb9 I t ≤ t ∧ e9 t (rb9 I t) ≤ 29) := by
  rcases fb9_in (st := fun k => !decide ((s9 I).1 k ≤ 0)) (E := e9 t) ht (fun s a b => e9_gt ht b a) (fun s a => e9_m ht a) 30 0 (by decide) (Or.inl rfl) with q | ⟨q1, q2, q3⟩
  · exact Or.inl q
  · have e : fb9 (fun k => !decide ((s9 I).1 k ≤ 0)) (e9 t) 30 0 = rb9 I t := rfl
    rw [e] at q1 q2 q3
    exact Or.inr ⟨q1, q2, e9_29 ht (by omega) q3⟩
def rcX9 (I : Im) (v : Int32) : Int32 := if sq9 v then (if rb9 I (nn9 v) = 0 then -1 else nI (e9 (nn9 v) (rb9 I (nn9 v)))) else -1
def raX9 (I : Im) (v w : Int32) : Int32 := if sq9 v then (if rb9 I (nn9 v) = 0 then -1 else if 0 ≤ w.toInt ∧ w.toInt ≤ (e9 (nn9 v) (rb9 I (nn9 v)) : Int) then nI (lnk9 (nn9 v) (rb9 I (nn9 v)) w.toInt.toNat) else -1) else -1
theorem lnk9_in {t b : Nat} (ht : t ≤ 30) (b1 : 1 ≤ b) (b2 : b ≤ t) (hb : e9 t b ≤ 29) : ∀ j, j ≤ e9 t b → 1 ≤ lnk9 t b j ∧ lnk9 t b j ≤ t ∧ e9 t (lnk9 t b j) + j = e9 t b := by
  intro j
  induction j with
  | zero => intro _; exact ⟨b1, b2, rfl⟩
  | succ j ih =>
    intro hj
    obtain ⟨a1, a2, a3⟩ := ih (by omega)
    obtain ⟨n1, n2, -, n4⟩ := e9_nx ht (by omega) a1 (by omega) (by omega)
    rw [lnk9_s]
    exact ⟨by omega, n2, by omega⟩
section W9C
variable {I I1 : Im} {J J1 : Jm} {R : Rm} {v w : Int32}
theorem sq_t9 (hd : sq9 v) : ∃ t, v = nI t ∧ nn9 v = t ∧ 1 ≤ t ∧ t ≤ 30 := ⟨nn9 v, (sq_nI hd).symm, rfl, (sq_nn hd).2.1, (sq_nn hd).2.2⟩
theorem cx_reach9 {d : Nat} (hR : RI R) (h : W9 I R) : AM (d + 5) 136 112 [.ref 1, .int v] I J R (fun x _ _ _ _ => x = rcX9 I v) := by
  have hO := hR.now.1
  refine w_X11_reach (px_sl9 (fun hd _ => ⟨fun _ => ⟨hR.now.2, bif_t hO (px_stockSet hO h.hs.1 ?_)⟩, fun z => absurd z (by decide)⟩) (fun hd _ => ⟨fun z => absurd rfl z, fun _ => w_X11_refuse (if_neg hd).symm⟩))
  have e1 : rcX9 I v = if rb9 I (nn9 v) = 0 then -1 else nI (e9 (nn9 v) (rb9 I (nn9 v))) := if_pos hd
  rw [e1]
  obtain ⟨t, ev, et, t1, t2⟩ := sq_t9 hd
  rw [et]
  clear e1 hd et
  subst ev
  refine px_find9 t1 t2 (fun h0 I2 _ _ => ⟨fun z => absurd rfl z, fun _ => w_X11_refuse ?_⟩) (fun b hb b1 b2 b29 I2 a1 a2 _ _ => ⟨fun _ => ?_, fun z => absurd z (by decide)⟩)
  · rw [rb9_c] at h0
    rw [if_pos h0]
  · rw [rb9_c] at hb
    have e2 : nI (e9 t b + 1) - 1 = nI (e9 t b) := nI_sub (b := 1) (by omega) (by omega)
    rw [a1, e2]
    refine w_X11_answer ?_
    rw [hb, if_neg (by omega)]
theorem cx_reachAt9 {d : Nat} (hR : RI R) (h : W9 I R) : AM (d + 5) 137 112 [.ref 1, .int v, .int w] I J R (fun x _ _ _ _ => x = raX9 I v w) := by
  have hO := hR.now.1
  have z0 : (0 : Int32).toInt = 0 := rfl
  refine w_X11_reachAt (px_sl9 (fun hd _ => ⟨fun _ => ⟨hR.now.2, bif_t hO (px_stockSet hO h.hs.1 ?_)⟩, fun z => absurd z (by decide)⟩) (fun hd _ => ⟨fun z => absurd rfl z, fun _ => w_X11_refuse (if_neg hd).symm⟩))
  have e1 : raX9 I v w = if rb9 I (nn9 v) = 0 then -1 else if 0 ≤ w.toInt ∧ w.toInt ≤ (e9 (nn9 v) (rb9 I (nn9 v)) : Int) then nI (lnk9 (nn9 v) (rb9 I (nn9 v)) w.toInt.toNat) else -1 := if_pos hd
  rw [e1]
  obtain ⟨t, ev, et, t1, t2⟩ := sq_t9 hd
  rw [et]
  clear e1 hd et
  subst ev
  refine px_find9 t1 t2 (fun h0 I2 _ _ => ⟨fun _ => w_X11_refuse ?_, fun z => absurd rfl z⟩) (fun b hb b1 b2 b29 I2 a1 a2 _ _ => ⟨fun z => absurd z (by decide), fun _ => ?_⟩)
  · rw [rb9_c] at h0
    rw [if_pos h0]
  · rw [rb9_c] at hb
    rw [hb, if_neg (show ¬ b = 0 by omega), a1]
    have tl : (nI (e9 t b + 1)).toInt = ((e9 t b + 1 : Nat) : Int) := nI_toInt (by omega)
    refine ⟨fun c => w_X11_refuse ?_, fun c => ⟨fun c2 => ⟨?_, ?_⟩, fun c2 => w_X11_refuse ?_⟩⟩
    · rw [Int32.lt_iff_toInt_lt, z0] at c
      rw [if_neg (by omega)]
    · rw [Int32.lt_iff_toInt_lt, z0] at c
      rw [Int32.lt_iff_toInt_lt, tl] at c2
      exact vp_of (a := w.toInt) rfl (by omega) (by omega)
    · rw [Int32.lt_iff_toInt_lt, z0] at c
      rw [Int32.lt_iff_toInt_lt, tl] at c2
      have e3 : Int32.toNatClampNeg w = w.toInt.toNat := rfl
      rw [e3, a2 _ (by omega)]
      refine w_X11_answer ?_
      rw [if_pos (by omega)]
    · rw [Int32.lt_iff_toInt_lt, tl] at c2
      rw [if_neg (by omega)]
theorem mx_reach9 {d : Nat} (h : W9 I R) (e : I1 102 = I 102) : AM (d + 6) 291 112 [.ref 97, .int v] I1 J1 R (fun x _ _ _ _ => x = rcX9 I v) := by
  have b : uI (uI I1 97 1 0) 97 0 0 102 = I 102 := by rw [uI_ne (by decide), uI_ne (by decide)]; exact e
  have hr : BkR (mnN (I 102)) (s9 I) (uI (uI I1 97 1 0) 97 0 0) := by
    unfold BkR
    rw [b]
    exact h.hs.2.1
  refine w_X12_reach (px_mSlQ (fun hd _ => ⟨fun _ => ?_, fun z => absurd z (by decide)⟩) (fun hd _ => ⟨fun z => absurd rfl z, fun _ => w_X12_refuse (if_neg hd).symm⟩))
  have hd9 : sq9 v := hd
  have e1 : rcX9 I v = if rb9 I (nn9 v) = 0 then -1 else nI (e9 (nn9 v) (rb9 I (nn9 v))) := if_pos hd9
  rw [e1]
  obtain ⟨t, ev, et, t1, t2⟩ := sq_t9 hd9
  rw [et]
  clear e1 hd hd9 et
  subst ev
  refine px_from9 t1 t2 hr (fun I2 a _ => ?_)
  have eb : fb9 (fun k => !decide ((s9 I).1 k ≤ 0)) (e9 t) 30 0 = rb9 I t := rfl
  rw [eb]
  rcases rb9_in (I := I) t2 with q | ⟨q1, q2, q3⟩
  · rw [q]
    exact ⟨fun z => absurd z (by decide), fun _ => w_X12_refuse (if_pos rfl).symm⟩
  · rw [show mn9 (rb9 I t) = nI (rb9 I t) from if_neg (by omega)]
    refine ⟨fun _ => ⟨vp_nI (by omega) (by omega), ?_⟩, fun c => absurd ((nle_nI (a := 0) (by omega) (by omega)).mpr (Nat.zero_le _)) c⟩
    rw [tn_nI (by omega), a _ (by omega), dv9_y (by omega), if_neg (by omega)]
theorem mx_reachAt9 {d : Nat} (h : W9 I R) (e : I1 102 = I 102) : AM (d + 6) 292 112 [.ref 97, .int v, .int w] I1 J1 R (fun x _ _ _ _ => x = raX9 I v w) := by
  have b : uI (uI I1 97 1 0) 97 0 0 102 = I 102 := by rw [uI_ne (by decide), uI_ne (by decide)]; exact e
  have hr : BkR (mnN (I 102)) (s9 I) (uI (uI I1 97 1 0) 97 0 0) := by
    unfold BkR
    rw [b]
    exact h.hs.2.1
  have z0 : (0 : Int32).toInt = 0 := rfl
  refine am_X12_reachAt (fun P hc => sg_X12_reachAt_0 hc _ _ _ _ _ (px_mSlQ (fun hd _ => ⟨fun _ => ?_, fun z => absurd z (by decide)⟩) (fun hd _ => ⟨fun z => absurd rfl z, fun _ => w_X12_refuse (if_neg hd).symm⟩)))
  have hd9 : sq9 v := hd
  have e1 : raX9 I v w = if rb9 I (nn9 v) = 0 then -1 else if 0 ≤ w.toInt ∧ w.toInt ≤ (e9 (nn9 v) (rb9 I (nn9 v)) : Int) then nI (lnk9 (nn9 v) (rb9 I (nn9 v)) w.toInt.toNat) else -1 := if_pos hd9
  obtain ⟨t, ev, et, t1, t2⟩ := sq_t9 hd9
  rw [et] at e1
  have ev2 := ev
  rw [ev]
  refine px_from9 t1 t2 hr (fun A a _ => ?_)
  have eb : fb9 (fun k => !decide ((s9 I).1 k ≤ 0)) (e9 t) 30 0 = rb9 I t := rfl
  rw [eb]
  rcases rb9_in (I := I) t2 with q | ⟨q1, q2, q3⟩
  · rw [q]
    refine ⟨fun _ => w_X12_refuse ?_, fun z => absurd (show (-1 : Int32) < 0 by decide) z⟩
    rw [← ev2, e1, if_pos q]
  · rw [show mn9 (rb9 I t) = nI (rb9 I t) from if_neg (by omega)]
    refine ⟨fun c => absurd c (fun y => by have := (nlt_nI (b := 0) (by omega) (by omega)).mp y; omega), fun _ => ⟨vp_nI (by omega) (by omega), ?_⟩⟩
    have ab := a (rb9 I t) (by omega)
    rw [tn_nI (by omega), ab, dv9_y (by omega)]
    generalize rb9 I t = bb at e1 q1 q2 q3 ab
    have tb : (nI (e9 t bb)).toInt = (e9 t bb : Int) := nI_toInt (by omega)
    refine px_isInI (lo := 0) (hi := nI (e9 t bb)) (fun l1 l2 _ => ⟨fun _ => ?_, fun z => absurd z (by decide)⟩) (fun m1 _ => ⟨fun z => absurd rfl z, fun _ => w_X12_refuse ?_⟩)
    · rw [le_i, z0] at l1
      rw [le_i, tb] at l2
      have eW : w = nI w.toInt.toNat := Int32.toInt_inj.mp (by rw [nI_toInt (by omega)]; omega)
      have fin : raX9 I v w = nI (lnk9 t bb w.toInt.toNat) := by rw [e1, if_neg (by omega), if_pos ⟨l1, l2⟩]
      have hW : w.toInt.toNat ≤ e9 t bb := by omega
      generalize w.toInt.toNat = W at eW fin hW
      have L59 : ∀ (g : Nat), g ≤ W → P 59 112 [(0, .ref 97), (2, .int w), (3, .int (nI (lnk9 t bb (W - g)))), (4, .int (nI (W - g)))] [] A J1 R := by
        intro g
        induction g with
        | zero =>
          intro _
          refine sg_X12_reachAt_59 hc _ _ _ _ _ _ ⟨fun _ => fin.symm, fun c => ?_⟩
          rw [eW] at c
          exact absurd ((nle_nI (b := W - 0) (by omega) (by omega)).mpr (by omega)) c
        | succ g ih =>
          intro hg
          obtain ⟨s1, s2, s3⟩ := lnk9_in t2 q1 q2 q3 (W - (g + 1)) (by omega)
          have es : lnk9 t bb (W - g) = nx9 t (lnk9 t bb (W - (g + 1))) := by
            rw [show W - g = W - (g + 1) + 1 by omega]; rfl
          have en : nI (W - (g + 1)) + 1 = nI (W - g) := by rw [nI_k1]; exact congrArg nI (by omega)
          generalize lnk9 t bb (W - (g + 1)) = sl at s1 s2 s3 es
          have e0 : ¬ e9 t sl = 0 := by omega
          have eN : ¬ e9 t sl = 1000 := by omega
          obtain ⟨n1, n2, n3, n4⟩ := e9_nx t2 (by omega) s1 e0 eN
          have asl := a sl (by omega)
          rw [dv9_y (show e9 t sl < 30 by omega)] at asl
          have ts : (nI (e9 t sl) - 1 : Int32).toInt = (e9 t sl : Int) - 1 := ti_sub (nI_toInt (by omega)) (show (1 : Int32).toInt = 1 from rfl) (by omega)
          have L72 : ∀ (f c : Nat), f ≤ 30 → (∀ p, f < p → p ≤ 30 → cm9 sl p = true → e9 t p + 1 = e9 t sl → ¬ c = 0 ∧ c ≤ p) → (¬ c = 0 → f < c ∧ c ≤ 30 ∧ cm9 sl c = true ∧ e9 t c + 1 = e9 t sl) → P 72 112 [(0, .ref 97), (2, .int w), (3, .int (nI sl)), (4, .int (nI (W - (g + 1)))), (5, .int (mn9 c)), (6, .int (nI f))] [] A J1 R := by
            intro f
            induction f with
            | zero =>
              intro c _ k1 k2
              obtain ⟨c0, cl⟩ := k1 (nx9 t sl) (by omega) (by omega) n3 n4
              obtain ⟨-, c2, c3, c4⟩ := k2 c0
              have le := e9_mn (s := sl) t2 (by omega) (by omega) c2 c3 c4 eN
              have ec : c = nx9 t sl := by omega
              refine sg_X12_reachAt_72 hc _ _ _ _ _ _ _ _ ⟨fun _ => ?_, fun z => absurd ((nlt_nI (a := 0) (b := 1) (by omega) (by omega)).mpr (by omega)) z⟩
              rw [en, show mn9 c = nI c from if_neg c0, ec, ← es]
              exact ih (by omega)
            | succ f ihf =>
              intro c hf k1 k2
              have ef : nI (f + 1) + (-1) = nI f := nI_m1 (Nat.le_trans hf (by decide))
              have no : ¬ (cm9 sl (f + 1) = true ∧ e9 t (f + 1) + 1 = e9 t sl) → P 72 112 [(0, .ref 97), (2, .int w), (3, .int (nI sl)), (4, .int (nI (W - (g + 1)))), (5, .int (mn9 c)), (6, .int (nI f))] [] A J1 R := fun z =>
                ihf c (by omega) (fun p a1 a2 a3 a4 => by
                  by_cases y : p = f + 1
                  · subst y; exact absurd ⟨a3, a4⟩ z
                  · exact k1 p (by omega) a2 a3 a4) (fun c0 => ⟨by have := (k2 c0).1; omega, (k2 c0).2⟩)
              have tp : A 108 (f + 1) = nI (e9 t sl) - 1 ↔ e9 t (f + 1) + 1 = e9 t sl := by
                rw [a (f + 1) (by omega), ← Int32.toInt_inj, ts]
                rcases e9_b (t := t) (s := f + 1) t2 (by omega) with y | y
                · rw [y, dv9_n (by omega), n1_neg]; omega
                · rw [dv9_y (by omega), nI_toInt (by omega)]; omega
              refine sg_X12_reachAt_72 hc _ _ _ _ _ _ _ _ ⟨fun z => absurd ((nlt_nI (b := 1) (by omega) (by omega)).mp z) (by omega), fun _ => ⟨vp_nI (by omega) (by omega), vp_nI (by omega) (by omega), ?_⟩⟩
              rw [tn_nI (by omega), tn_nI (by omega), asl, ef]
              refine ⟨fun z => no (fun y => z (tp.mpr y.2)), fun z => px_comR (a := sl) (b := f + 1) s1 (by omega) (by omega) (by omega) (fun hy _ => ⟨fun y => absurd y (by decide), fun _ => ?_⟩) (fun hy _ => ⟨fun _ => no (fun y => by rw [hy] at y; exact absurd y.1 (by decide)), fun y => absurd rfl y⟩)⟩
              have k := ihf (f + 1) (by omega) (fun p a1 a2 a3 a4 => ⟨by omega, by omega⟩) (fun _ => ⟨by omega, by omega, hy, tp.mp z⟩)
              rw [show mn9 (f + 1) = nI (f + 1) from if_neg (by omega)] at k
              exact k
          refine sg_X12_reachAt_59 hc _ _ _ _ _ _ ⟨fun c => ?_, fun _ => ?_⟩
          · rw [eW] at c
            exact absurd ((nle_nI (by omega) (by omega)).mp c) (by omega)
          · exact L72 30 0 (by decide) (fun p a1 a2 _ _ => absurd a2 (by omega)) (fun z => absurd rfl z)
      have k := L59 W (Nat.le_refl _)
      rw [Nat.sub_self] at k
      exact k
    · rw [← ev2, e1, if_neg (by omega), if_neg]
      intro z
      rcases m1 with m1 | m1
      · rw [Int32.lt_iff_toInt_lt, z0] at m1; omega
      · rw [le_i, tb] at m1; omega
end W9C
