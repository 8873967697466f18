/-! ===== the class's rows of slices, exactly ===== -/
theorem tl_mul9 {x y : Int64} {a b : Int} (hx : x.toInt = a) (hy : y.toInt = b) (h : -9223372036854775808 ≤ a * b ∧ a * b < 9223372036854775808) : (x * y).toInt = a * b := by rw [Int64.toInt_mul, hx, hy]; exact tl_bmod h.1 h.2
set_option maxRecDepth 100000 in
theorem ptL : ∀ d : Nat, d < 31 → 1 ≤ d → (Int32.toInt64 1 * (2329089562800 / Int32.toInt64 (nI d))).toInt = pt d ∧ (2329089562800 / Int32.toInt64 (nI d)).toInt = pt d ∧ ¬ Int32.toInt64 (nI d) = 0 := by decide +kernel
theorem inLow : ∀ x : Nat, x < 31 → ∀ d : Nat, d < 31 → 1 ≤ x → 1 ≤ d → (((1 : Int32) <<< ((nI x - 1) &&& 31)) - 1) &&& ((1 : Int32) <<< ((nI d - 1) &&& 31)) = if d < x then (1 : Int32) <<< ((nI d - 1) &&& 31) else 0 := by decide +kernel
theorem inS_low {a : Int32} {x d : Nat} (h1 : 1 ≤ x) (h2 : x ≤ 30) (h3 : 1 ≤ d) (h4 : d ≤ 30) : inS (a &&& (((1 : Int32) <<< ((nI x - 1) &&& 31)) - 1)) (nI d) = (inS a (nI d) && decide (d < x)) := by
  unfold inS
  rw [Int32.and_assoc, inLow x (by omega) d (by omega) h1 h3]
  by_cases q : d < x
  · rw [if_pos q, decide_eq_true q, Bool.and_true]
  · rw [if_neg q, decide_eq_false q, Bool.and_false, Int32.and_zero]; rfl
theorem nI_sub9 {a b : Nat} (h : a + b ≤ 1000) : nI (a + b) - nI a = nI b :=
  Int32.toInt_inj.mp (by rw [ti_sub (nI_toInt (by omega)) (nI_toInt (by omega)) (by omega), nI_toInt (by omega)]; omega)
abbrev WRo : Nat → Nat → Prop := fun c _ => c = 35 ∨ c = 36 ∨ c = 37 ∨ c = 38
abbrev FrO (I : Im) (J : Jm) (I2 : Im) (J2 : Jm) : Prop := FrW WRo nV I J I2 J2
def bl (b : Bool) : Int32 := if b = true then 1 else 0
theorem bl_01 {b : Bool} : (bl b : Int32) = 0 ∨ (bl b : Int32) = 1 := by cases b <;> decide
def SA (A : Int32) (d : Nat) : Bool := inS A (nI d)
def RwI (g : Nat) (A : Int32) (z : Nat) (s : RwS) (I : Im) : Prop := I 35 0 = nI g ∧ (∀ d : Nat, 1 ≤ d → d ≤ 30 → inS (I 35 1) (nI d) = (SA A d && decide (d < s.1))) ∧ I 35 2 = nI z ∧ I 35 5 = nI s.2.1.length ∧ (∀ i, i < s.2.1.length → I 37 i = nI (s.2.1.getD i 0)) ∧ I 35 6 = nI s.2.2.1 ∧ (∀ d : Nat, d ≤ 30 → I 38 d = nI (s.2.2.2 d)) ∧ (g = 2 ∨ s.1 = 31) ∧ g ≤ 2
def RwP (r : List Nat) (I : Im) : Prop := ∀ i, i < r.length → I 36 i = nI (r.getD i 0)
theorem getD_ne {r : List Nat} (hm : ∀ x, x ∈ r → 1 ≤ x ∧ x ≤ 30) {i : Nat} (hi : i < r.length) : 1 ≤ r.getD i 0 ∧ r.getD i 0 ≤ 30 := by
  rw [List.getD_eq_getElem?_getD, List.getElem?_eq_getElem hi]
  exact hm _ (List.getElem_mem hi)
theorem cI_a9 {I : Im} {a0 a1 m k : Nat} (h : k < m) : cI I a0 a1 0 0 m a1 k = I a0 k := by
  unfold cI va_cpy
  rw [if_pos rfl, if_pos (by omega)]
  exact congrArg (I a0) (by omega)
section CRW
variable {d : Nat} {I : Im} {J : Jm} {R : Rm} {Q : Qt}
theorem px_cr1 {n : Nat} (h1 : 1 ≤ n) (h2 : n ≤ 30) (hQ : ∀ y : Int64, y.toInt = pt n → Q 0 y I J R) : AM (d + 1) 167 112 [.int 1, .int (nI n)] I J R Q :=
  w_X11_crumbs ⟨fun _ => ⟨(ptL n (by omega) h1).2.2, hQ _ (ptL n (by omega) h1).1⟩, fun c => absurd ((nle_nI (a := 1) (by omega) (by omega)).mpr h1) c⟩
theorem px_meet {g z : Nat} {A : Int32} {s : RwS} {r : List Nat} (h : RwI g A z s I) (hr : RwP r I) (hl : r.length = z) (h1 : 1 ≤ z) (h5 : z ≤ 5) (hm : ∀ x, x ∈ r → 1 ≤ x ∧ x ≤ 30) (hL : g = 2 → lastN r < s.1) (hQ : ∀ I2, RwI g A z (rwStep g s r).1 I2 → I2 36 = I 36 → FrO I J I2 J → Q (bl (rwStep g s r).2) 0 I2 J R) : AM (d + 2) 84 112 [.ref 35, .int (nI (lastN r))] I J R Q := by
  obtain ⟨e0, e1, e2, e5, e7, e6, e8, eb, hg⟩ := h
  have hlast : 1 ≤ lastN r ∧ lastN r ≤ 30 := by
    cases r with
    | nil => rw [List.length_nil] at hl; omega
    | cons x r => exact hm _ lastN_mem
  have tz : Int32.toNatClampNeg (I 35 2) = z := by rw [e2, tn_nI (by omega)]
  have t0 : Int32.toNatClampNeg 0 = 0 := rfl
  have c1 : ∀ c, ¬ c = 37 → cI I 36 37 (Int32.toNatClampNeg 0) (Int32.toNatClampNeg 0) (Int32.toNatClampNeg (I 35 2)) c = I c := fun c q => if_neg q
  have c2 : ∀ k, k < z → cI I 36 37 (Int32.toNatClampNeg 0) (Int32.toNatClampNeg 0) (Int32.toNatClampNeg (I 35 2)) 37 k = I 36 k := fun k hk => by
    rw [tz]; exact cI_a9 hk
  generalize eC : cI I 36 37 (Int32.toNatClampNeg 0) (Int32.toNatClampNeg 0) (Int32.toNatClampNeg (I 35 2)) = C at c1 c2
  have hFC : FrO I J C J := ⟨fun o k q => congrFun (c1 o (fun z => q (Or.inr (Or.inr (Or.inl z))))) k, fun _ _ _ => rfl⟩
  have c35 : C 35 = I 35 := c1 35 (by decide)
  have bd : ¬ (0 : Int32) < 0 ∧ ¬ (0 : Int32) < 0 ∧ ¬ (I 35 2 : Int32) < 0 ∧ Int32.toNatClampNeg 0 + Int32.toNatClampNeg (I 35 2) ≤ 5 ∧ Int32.toNatClampNeg 0 + Int32.toNatClampNeg (I 35 2) ≤ 5 := by
    rw [tz, t0]
    exact ⟨by decide, by decide, by rw [e2]; exact nI_pos (by omega), by omega, by omega⟩
  have m5 : ∀ v : Int32, uI (uI C 35 5 (C 35 2)) 35 1 v 35 0 = nI g := fun v => by rw [rd_k (by decide), rd_k (by decide), c35]; exact e0
  -- what is written of the best
  have best : ∀ (v : Int32) (L : Nat), (∀ d : Nat, 1 ≤ d → d ≤ 30 → inS v (nI d) = (SA A d && decide (d < L))) → (g = 2 ∨ L = 31) → RwI g A z (L, r, s.2.2.1, s.2.2.2) (uI (uI C 35 5 (C 35 2)) 35 1 v) := fun v L hv hb => by
    refine ⟨m5 v, fun d a b => ?_, ?_, ?_, fun i hi => ?_, ?_, fun d hd => ?_, hb, hg⟩
    · rw [rd_eq]; exact hv d a b
    · rw [rd_k (by decide), rd_k (by decide), c35]; exact e2
    · rw [rd_k (by decide), rd_eq, c35, e2, ← hl]
    · rw [rd_ne (by decide), rd_ne (by decide), c2 i (by rw [← hl]; exact hi)]; exact hr i hi
    · rw [rd_k (by decide), rd_k (by decide), c35]; exact e6
    · rw [rd_ne (by decide), rd_ne (by decide), c1 38 (by decide)]; exact e8 d hd
  have hFb : ∀ v : Int32, FrO I J (uI (uI C 35 5 (C 35 2)) 35 1 v) J := fun v => (hFC.u (Or.inl rfl)).u (Or.inl rfl)
  have h36 : ∀ v : Int32, uI (uI C 35 5 (C 35 2)) 35 1 v 36 = I 36 := fun v => by rw [uI_ne (by decide), uI_ne (by decide), c1 36 (by decide)]
  refine am_X7_meet (fun P hc => sg_X7_meet_0 hc _ _ _ _ ⟨fun n1 => ⟨bd, ?_⟩, fun n1 => ?_⟩)
  · rw [eC]
    have g1 : ¬ g = 1 := fun q => n1 (by rw [e0, q]; rfl)
    have k2 : uI C 35 5 (C 35 2) 35 0 = nI g := by rw [rd_k (by decide), c35]; exact e0
    have k1 : uI C 35 5 (C 35 2) 35 1 = I 35 1 := by rw [rd_k (by decide), c35]
    refine ⟨fun n2 => ?_, fun n2 => ?_⟩
    · have g0 : g = 0 := by
        have : ¬ g = 2 := fun q => n2 (by rw [k2, q]; rfl)
        omega
      subst g0
      refine ⟨fun n3 => absurd (m5 _) n3, fun _ => ⟨Or.inr rfl, ?_⟩⟩
      rw [k1]
      exact hQ _ (best _ _ e1 eb) (h36 _) (hFb _)
    · have g2 : g = 2 := by
        rw [k2] at n2
        exact (nK (a := g) (b := 2) (by omega) (by omega)).mp n2
      subst g2
      have hl2 := hL rfl
      refine w_X11_bit ⟨fun _ => ⟨Or.inl rfl, ?_⟩, fun n3 => ?_⟩
      · have es : rwStep 2 s r = ((lastN r, r, s.2.2.1, s.2.2.2), false) := by
          unfold rwStep
          rw [if_neg (by decide), if_neg (by decide), if_pos hl2]
        rw [es] at hQ
        refine hQ _ ?_ (h36 _) (hFb _)
        rw [k1]
        refine best _ _ (fun d a b => ?_) (Or.inl rfl)
        rw [inS_low hlast.1 hlast.2 a b, e1 d a b]
        by_cases q : d < lastN r
        · rw [decide_eq_true q, decide_eq_true (show d < s.1 by omega), Bool.and_true, Bool.and_true]
        · rw [decide_eq_false q, Bool.and_false, Bool.and_false]
      · rw [m5] at n3
        exact absurd n3 (by decide)
  · have g1 : g = 1 := by
      rw [e0] at n1
      exact (nK (a := g) (b := 1) (by omega) (by omega)).mp n1
    subst g1
    have b31 : s.1 = 31 := eb.resolve_left (by decide)
    have L20 : ∀ (t q : List Nat) (M : Im), r = q ++ t → FrO I J M J → M 36 = I 36 → (∀ k, ¬ k = 6 → M 35 k = I 35 k) → M 37 = I 37 → M 35 6 = nI (s.2.2.1 + 1) → (∀ d : Nat, d ≤ 30 → M 38 d = nI (s.2.2.2 d + q.count d)) → P 20 112 [(0, .ref 35), (2, .int (nI q.length))] [] M J R := by
      intro t
      induction t with
      | nil =>
        intro q M hq hF h36 h35 h37 h6 h8
        rw [List.append_nil] at hq
        subst hq
        refine sg_X7_meet_20 hc _ _ _ _ ⟨fun _ => ⟨Or.inl rfl, ?_⟩, fun c => ?_⟩
        · refine hQ M ⟨(h35 0 (by decide)).trans e0, fun d a b => ?_, (h35 2 (by decide)).trans e2, (h35 5 (by decide)).trans e5, fun i hi => by rw [h37]; exact e7 i hi, h6, h8, eb, hg⟩ h36 hF
          rw [h35 1 (by decide)]; exact e1 d a b
        · rw [h35 2 (by decide), e2, ← hl] at c
          exact absurd ((nle_nI (by omega) (by omega)).mpr (Nat.le_refl _)) c
      | cons x t ih =>
        intro q M hq hF h36 h35 h37 h6 h8
        have hlen : r.length = q.length + (t.length + 1) := by rw [hq, List.length_append, List.length_cons]
        have hx := hm x (by rw [hq]; exact List.mem_append_right _ (List.mem_cons_self ..))
        have hgx : r.getD q.length 0 = x := by
          rw [hq, List.getD_eq_getElem?_getD, List.getElem?_append_right (Nat.le_refl _), Nat.sub_self]
          rfl
        have hrow : M 36 q.length = nI x := by rw [h36, hr q.length (by omega), hgx]
        refine sg_X7_meet_20 hc _ _ _ _ ⟨fun c => ?_, fun _ => ⟨vp_nI (by omega) (by omega), ?_⟩⟩
        · rw [h35 2 (by decide), e2, ← hl] at c
          have := (nle_nI (by omega) (by omega)).mp c
          omega
        · rw [tn_nI (by omega), hrow, tn_nI (by omega), nI_k1]
          refine ⟨vp_nI (by omega) (by omega), vp_nI (by omega) (by omega), ?_⟩
          have eq2 : r = (q ++ [x]) ++ t := by rw [hq, List.append_assoc]; rfl
          have elen : (q ++ [x]).length = q.length + 1 := by rw [List.length_append]; rfl
          rw [← elen]
          refine ih (q ++ [x]) _ eq2 (hF.u (Or.inr (Or.inr (Or.inr rfl)))) ((uI_ne (by decide)).trans h36) (fun k hk => (rd_ne (by decide)).trans (h35 k hk)) ((uI_ne (by decide)).trans h37) ((rd_ne (by decide)).trans h6) (fun d hd => ?_)
          rw [List.count_append, List.count_singleton]
          by_cases qd : d = x
          · subst qd
            rw [rd_eq, h8 d hd, nI_k1, if_pos (by rw [beq_self_eq_true])]
            exact congrArg nI (by omega)
          · rw [rd_k qd, h8 d hd, if_neg (by intro z; exact qd (beq_iff_eq.mp z).symm)]
            rfl
    refine L20 r [] _ rfl (FrW.rf.u (Or.inl rfl)) (uI_ne (by decide)) (fun k hk => rd_k hk) (uI_ne (by decide)) ?_ (fun d hd => ?_)
    · rw [rd_eq, e6, nI_k1]
    · rw [rd_ne (by decide), e8 d hd]
      rfl
end CRW
