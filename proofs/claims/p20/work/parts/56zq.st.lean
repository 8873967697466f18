/-! ===== how many cuts and splits till there is a slice: the scribe's ===== -/
abbrev FrE9 (I : Im) (J : Jm) (I2 : Im) (J2 : Jm) : Prop := FrW (fun c _ => c = 42 ∨ c = 43 ∨ c = 44) nV I J I2 J2
/-- the first slice of a set from which it takes the fewest -/
def fb9 (st : Nat → Bool) (E : Nat → Nat) : Nat → Nat → Nat
  | 0, b => b
  | f + 1, b => fb9 st E f (if st (30 - f) = true ∧ E (30 - f) < E b then 30 - f else b)
def mn9 (b : Nat) : Int32 := if b = 0 then -1 else nI b
theorem fb9_id {st : Nat → Bool} {E : Nat → Nat} : ∀ f b, f ≤ 30 → (∀ s, 31 - f ≤ s → s ≤ 30 → E s = 1000) → E b ≤ 1000 → fb9 st E f b = b := by
  intro f
  induction f with
  | zero => intro b _ _ _; rfl
  | succ f ih =>
    intro b hf h hb
    have e : E (30 - f) = 1000 := h _ (by omega) (by omega)
    show fb9 st E f (if st (30 - f) = true ∧ E (30 - f) < E b then 30 - f else b) = b
    rw [if_neg (fun z => by have := z.2; omega)]
    exact ih b (by omega) (fun s a c => h s (by omega) c) hb
/-- it is one of them -/
theorem fb9_in {st : Nat → Bool} {E : Nat → Nat} {t : Nat} (ht : t ≤ 30) (h0 : ∀ s, t < s → s ≤ 30 → E s = 1000) (h1 : ∀ s, s ≤ 30 → E s ≤ 1000) : ∀ f b, f ≤ 30 → (b = 0 ∨ (1 ≤ b ∧ b ≤ t ∧ E b < 1000)) → (fb9 st E f b = 0 ∨ (1 ≤ fb9 st E f b ∧ fb9 st E f b ≤ t ∧ E (fb9 st E f b) < 1000)) := by
  intro f
  induction f with
  | zero => intro b _ h; exact h
  | succ f ih =>
    intro b hf hb
    show fb9 st E f (if st (30 - f) = true ∧ E (30 - f) < E b then 30 - f else b) = 0 ∨ _
    have e : fb9 st E (f + 1) b = fb9 st E f (if st (30 - f) = true ∧ E (30 - f) < E b then 30 - f else b) := rfl
    rw [e]
    refine ih _ (by omega) ?_
    split
    · rename_i q
      have q2 := q.2
      have b1 : E b ≤ 1000 := h1 b (by omega)
      refine Or.inr ⟨by omega, ?_, by omega⟩
      rcases Nat.lt_or_ge t (30 - f) with z | z
      · have := h0 _ z (by omega); omega
      · exact z
    · exact hb
theorem e9_m {t s : Nat} (ht : t ≤ 30) (hs : s ≤ 30) : e9 t s ≤ 1000 := by
  rcases e9_b ht hs with z | z <;> omega
theorem e9_29 {t s : Nat} (ht : t ≤ 30) (hs : s ≤ 30) (h : e9 t s < 1000) : e9 t s ≤ 29 := by
  rcases e9_b ht hs with z | z <;> omega
section RCC
variable {I : Im} {J : Jm} {R : Rm} {Q : Qt}
theorem px_steps9 {d t : Nat} (h1 : 1 ≤ t) (ht : t ≤ 30) (hQ : ∀ I2, (∀ k, 1 ≤ k → k ≤ t → I2 43 k = nI (e9 t k)) → FrE9 I J I2 J → Q 0 0 I2 J R) : AM (d + 2) 55 112 [.ref 42, .int (nI t)] I J R Q := by
  refine am_X5_countSteps (fun P hc => ?_)
  have L11 : ∀ (f : Nat) (M : Im), f < t → (∀ k, f < k → k ≤ t → M 43 k = nI (e9 t k)) → FrE9 I J M J → P 11 112 [(0, .ref 42), (1, .int (nI t)), (2, .int (nI f))] [] M J R := by
    intro f
    induction f with
    | zero => intro M _ hM hF; exact sg_X5_countSteps_11 hc _ _ _ _ _ ⟨fun _ => hQ M (fun k a b => hM k (by omega) b) hF, fun c => absurd ((nlt_nI (a := 0) (b := 1) (by omega) (by omega)).mpr (by omega)) c⟩
    | succ f ih =>
      intro M hf hM hF
      have L29 : ∀ (g v : Nat) (M : Im), g + (f + 1) ≤ t → v ≤ 1000 → M 43 (f + 1) = nI v → (∀ k, f + 1 < k → k ≤ t → M 43 k = nI (e9 t k)) → FrE9 I J M J → inC9 t (f + 1) g v = e9 t (f + 1) → P 29 112 [(0, .ref 42), (1, .int (nI t)), (2, .int (nI (f + 1))), (3, .int (nI (t + 1 - g)))] [] M J R := by
        intro g
        induction g with
        | zero =>
          intro v M _ hv e1 hM hF hi
          have hi2 : v = e9 t (f + 1) := hi
          refine sg_X5_countSteps_29 hc _ _ _ _ _ _ ⟨fun _ => ?_, fun c => absurd ((nlt_nI (b := t + 1 - 0) (by omega) (by omega)).mpr (by omega)) c⟩
          have ef : nI (f + 1) + (-1) = nI f := by
            have k : (nI (f + 1) + (-1) : Int32).toInt = ((f + 1 : Nat) : Int) + (-1) := ti_add (nI_toInt (by omega)) (show (-1 : Int32).toInt = -1 from rfl) (by omega)
            exact Int32.toInt_inj.mp (by rw [k, nI_toInt (by omega)]; omega)
          rw [ef]
          refine ih M (by omega) (fun k a b => ?_) hF
          by_cases q : k = f + 1
          · subst q; rw [e1, hi2]
          · exact hM k (by omega) b
        | succ g ihg =>
          intro v M hg hv e1 hM hF hi
          have ed : t + 1 - (g + 1) = t - g := by omega
          have hi2 : inC9 t (f + 1) g (if cm9 (f + 1) (t - g) = true then (if e9 t (t - g) + 1 < v then e9 t (t - g) + 1 else v) else v) = e9 t (f + 1) := hi
          have en : nI (t - g) + 1 = nI (t + 1 - g) := by rw [nI_k1]; exact congrArg nI (by omega)
          have ep := hM (t - g) (by omega) (by omega)
          have eb : e9 t (t - g) ≤ 1000 := e9_m ht (by omega)
          rw [ed]
          refine sg_X5_countSteps_29 hc _ _ _ _ _ _ ⟨fun c => absurd ((nlt_nI (by omega) (by omega)).mp c) (by omega), fun _ => px_comC (a := f + 1) (b := t - g) (by omega) (by omega) (by omega) (by omega) (fun hc9 _ => ⟨fun z => absurd z (by decide), fun _ => ⟨vp_nI (by omega) (by omega), vp_nI (by omega) (by omega), vp_nI (by omega) (by omega), ?_⟩⟩) (fun hc9 _ => ⟨fun _ => ?_, fun z => absurd rfl z⟩)⟩
          · rw [if_pos hc9] at hi2
            rw [tn_nI (by omega), tn_nI (by omega), ep, e1, en, nI_k1]
            have ev : (if nI (e9 t (t - g) + 1) < nI v then nI (e9 t (t - g) + 1) else nI v) = nI (if e9 t (t - g) + 1 < v then e9 t (t - g) + 1 else v) := by
              by_cases q : e9 t (t - g) + 1 < v
              · rw [if_pos q, if_pos ((nlt_b9 (by omega) (by omega)).mpr q)]
              · rw [if_neg q, if_neg (fun z => q ((nlt_b9 (by omega) (by omega)).mp z))]
            rw [ev]
            refine ihg _ _ (by omega) ?_ rd_eq (fun k a b => (rd_k (by omega)).trans (hM k a b)) (hF.u (Or.inr (Or.inl rfl))) hi2
            split <;> omega
          · rw [if_neg (by rw [hc9]; decide)] at hi2
            rw [en]
            exact ihg v M (by omega) hv e1 hM hF hi2
      refine sg_X5_countSteps_11 hc _ _ _ _ _ ⟨fun c => absurd ((nlt_nI (b := 1) (by omega) (by omega)).mp c) (by omega), fun _ => ⟨vp_nI (by omega) (by omega), ?_⟩⟩
      have k := L29 (t - (f + 1)) 1000 (uI M 43 (f + 1) 1000) (by omega) (by decide) rd_eq (fun k a b => (rd_k (by omega)).trans (hM k (by omega) b)) (hF.u (Or.inr (Or.inl rfl))) (e9_in ht (by omega) hf)
      rw [show t + 1 - (t - (f + 1)) = f + 1 + 1 by omega, ← nI_k1 (f + 1)] at k
      rw [tn_nI (by omega)]
      exact k
  refine sg_X5_countSteps_0 hc _ _ _ _ ⟨vp_nI (by omega) (by omega), ?_⟩
  have e1 : nI t - 1 = nI (t - 1) := nI_sub (b := 1) (by omega) (by omega)
  rw [e1, tn_nI (by omega)]
  refine L11 (t - 1) _ (by omega) (fun k a b => ?_) (FrW.rf.u (Or.inr (Or.inl rfl)))
  have q : k = t := by omega
  subst q
  rw [rd_eq, (e9_0 ht ht).mpr ⟨rfl, by omega⟩]
  rfl
theorem lnk9_s {t s i : Nat} : lnk9 t s (i + 1) = nx9 t (lnk9 t s i) := rfl
theorem px_follow9 {d t s : Nat} (ht : t ≤ 30) (h1 : 1 ≤ s) (hs : s ≤ t) (he : e9 t s < 1000) (hI : ∀ k, 1 ≤ k → k ≤ t → I 43 k = nI (e9 t k)) (hQ : ∀ I2, I2 42 2 = nI (e9 t s + 1) → (∀ i, i ≤ e9 t s → I2 44 i = nI (lnk9 t s i)) → FrE9 I J I2 J → Q 0 0 I2 J R) : AM (d + 2) 56 112 [.ref 42, .int (nI s), .int (nI t)] I J R Q := by
  refine am_X5_follow (fun P hc => ?_)
  have hb : e9 t s ≤ 29 := e9_29 ht (by omega) he
  have L : ∀ (g sl j : Nat) (M : Im), g ≤ t → sl = lnk9 t s j → 1 ≤ sl → sl < t + 1 - g → e9 t sl + j = e9 t s → M 42 2 = nI (j + 1) → (∀ i, i ≤ j → M 44 i = nI (lnk9 t s i)) → (∀ k, 1 ≤ k → k ≤ t → M 43 k = nI (e9 t k)) → FrE9 I J M J → (∀ q, sl < q → q < t + 1 - g → ¬ (cm9 sl q = true ∧ e9 t q + 1 = e9 t sl)) → P 19 112 [(0, .ref 42), (2, .int (nI t)), (3, .int (nI sl)), (4, .int (nI (t + 1 - g)))] [] M J R := by
    intro g
    induction g with
    | zero =>
      intro sl j M _ hl l1 l2 hj m2 m4 m3 hF hn
      refine sg_X5_follow_19 hc _ _ _ _ _ _ ⟨fun _ => ?_, fun c => absurd ((nlt_nI (b := t + 1 - 0) (by omega) (by omega)).mpr (by omega)) c⟩
      have e0 : e9 t sl = 0 := Decidable.byContradiction (fun z => by
        obtain ⟨n1, n2, n3, n4⟩ := e9_nx ht (by omega) l1 z (by omega)
        exact hn _ n1 (by omega) ⟨n3, n4⟩)
      have ej : j = e9 t s := by omega
      subst ej
      exact hQ M m2 m4 hF
    | succ g ih =>
      intro sl j M hg hl l1 l2 hj m2 m4 m3 hF hn
      have ed : t + 1 - (g + 1) = t - g := by omega
      rw [ed] at hn l2 ⊢
      have en : nI (t - g) + 1 = nI (t + 1 - g) := by rw [nI_k1]; exact congrArg nI (by omega)
      have eb : e9 t (t - g) ≤ 1000 := e9_m ht (by omega)
      have ep := m3 (t - g) (by omega) (by omega)
      have es := m3 sl l1 (by omega)
      have tp : (nI (e9 t (t - g))).toInt = (e9 t (t - g) : Int) := nI_toInt (by omega)
      have ts : (nI (e9 t sl) - 1 : Int32).toInt = (e9 t sl : Int) - 1 := ti_sub (nI_toInt (by omega)) (show (1 : Int32).toInt = 1 from rfl) (by omega)
      have skip : ¬ (cm9 sl (t - g) = true ∧ e9 t (t - g) + 1 = e9 t sl) → P 19 112 [(0, .ref 42), (2, .int (nI t)), (3, .int (nI sl)), (4, .int (nI (t + 1 - g)))] [] M J R := fun z => by
        refine ih sl j M (by omega) hl l1 (by omega) hj m2 m4 m3 hF (fun q a b => ?_)
        by_cases y : q = t - g
        · subst y; exact z
        · exact hn q a (by omega)
      refine sg_X5_follow_19 hc _ _ _ _ _ _ ⟨fun c => absurd ((nlt_nI (by omega) (by omega)).mp c) (by omega), fun _ => ⟨vp_nI (by omega) (by omega), vp_nI (by omega) (by omega), ?_⟩⟩
      rw [tn_nI (by omega), tn_nI (by omega), ep, es, en]
      refine ⟨fun c => skip (fun z => c (Int32.toInt_inj.mp (by rw [tp, ts]; have := z.2; omega))), fun c => ?_⟩
      have c2 := congrArg Int32.toInt c
      rw [tp, ts] at c2
      refine px_comC (a := sl) (b := t - g) l1 (by omega) (by omega) (by omega) (fun hy _ => ⟨fun z => absurd z (by decide), fun _ => ?_⟩) (fun hy _ => ⟨fun _ => skip (fun z => by rw [hy] at z; exact absurd z.1 (by decide)), fun z => absurd rfl z⟩)
      rw [m2]
      refine ⟨vp_nI (by omega) (by omega), ?_⟩
      rw [tn_nI (by omega)]
      have l2' : ¬ e9 t sl = 0 := by omega
      have l3' : ¬ e9 t sl = 1000 := by omega
      have nx : nx9 t sl = t - g := by
        have a1 := e9_mn (s := sl) ht (by omega) (by omega) (by omega) hy (by omega) l3'
        obtain ⟨n1, n2, n3, n4⟩ := e9_nx ht (by omega) l1 l2' l3'
        rcases Nat.lt_or_ge (nx9 t sl) (t - g) with z | z
        · exact absurd ⟨n3, n4⟩ (hn _ n1 z)
        · omega
      have eL : lnk9 t s (j + 1) = t - g := by rw [lnk9_s, ← hl]; exact nx
      refine ih (t - g) (j + 1) _ (by omega) eL.symm (by omega) (by omega) (by omega) ?_ (fun i hi => ?_) (fun k a b => ?_) ((hF.u (Or.inr (Or.inr rfl))).u (Or.inl rfl)) (fun q a b => by omega)
      · rw [rd_eq, rd_ne (by decide), m2, nI_k1]
      · rw [rd_ne (by decide)]
        by_cases q : i = j + 1
        · subst q; rw [rd_eq, eL]
        · rw [rd_k q]; exact m4 i (by omega)
      · rw [rd_ne (by decide), rd_ne (by decide)]; exact m3 k a b
  have t0 : Int32.toNatClampNeg 0 = 0 := rfl
  refine sg_X5_follow_0 hc _ _ _ _ _ ⟨vp_of (a := 0) rfl (by decide) (by decide), ?_⟩
  rw [nI_k1, t0]
  have k := L (t - s) s 0 (uI (uI I 44 0 (nI s)) 42 2 1) (by omega) rfl h1 (by omega) (by omega) rd_eq (fun i hi => ?_) (fun k a b => ?_) ((FrW.rf.u (Or.inr (Or.inr rfl))).u (Or.inl rfl)) (fun q a b => by omega)
  · rw [show t + 1 - (t - s) = s + 1 by omega] at k
    exact k
  · have : i = 0 := by omega
    subst this
    rw [rd_ne (by decide), rd_eq]
    rfl
  · rw [rd_ne (by decide), rd_ne (by decide)]; exact hI k a b
/-- from where, and what lies between -/
def st9 (A : Int32) (s : Nat) : Bool := inS A (nI s)
theorem px_find9 {d t : Nat} {A : Int32} (h1 : 1 ≤ t) (ht : t ≤ 30) (hQ0 : fb9 (st9 A) (e9 t) 30 0 = 0 → ∀ I2, FrE9 I J I2 J → Q 0 0 I2 J R) (hQ1 : ∀ b, fb9 (st9 A) (e9 t) 30 0 = b → 1 ≤ b → b ≤ t → e9 t b ≤ 29 → ∀ I2, I2 42 2 = nI (e9 t b + 1) → (∀ i, i ≤ e9 t b → I2 44 i = nI (lnk9 t b i)) → FrE9 I J I2 J → Q 1 0 I2 J R) : AM (d + 3) 54 112 [.ref 42, .int A, .int (nI t)] I J R Q := by
  refine am_X5_find (fun P hc => sg_X5_find_0 hc _ _ _ _ _ ?_)
  have hb0 : ∀ k, k ≤ 30 → e9 t k ≤ 1000 := fun k hk => e9_m ht hk
  have z0 : e9 t 0 = 1000 := ckZ9 t (by omega)
  refine px_steps9 h1 ht (fun M hM hF => ?_)
  have L : ∀ (g b : Nat), g ≤ t → (b = 0 ∨ (1 ≤ b ∧ b ≤ t ∧ e9 t b < 1000)) → fb9 (st9 A) (e9 t) (30 - t + g) b = fb9 (st9 A) (e9 t) 30 0 → P 15 112 [(0, .ref 42), (1, .int A), (2, .int (nI t)), (3, .int (mn9 b)), (4, .int (nI (e9 t b))), (5, .int (nI (t + 1 - g)))] [] M J R := by
    intro g
    induction g with
    | zero =>
      intro b _ hb he
      have hid : fb9 (st9 A) (e9 t) (30 - t + 0) b = b := fb9_id _ b (by omega) (fun s a c => e9_gt ht c (by omega)) (hb0 b (by omega))
      rw [hid] at he
      refine sg_X5_find_15 hc _ _ _ _ _ _ _ _ ⟨fun _ => ?_, fun c => absurd ((nlt_nI (b := t + 1 - 0) (by omega) (by omega)).mpr (by omega)) c⟩
      rcases hb with hb | ⟨b1, b2, b3⟩
      · subst hb
        exact ⟨fun c => absurd rfl c, fun _ => ⟨Or.inl rfl, hQ0 he.symm M hF⟩⟩
      · have em : mn9 b = nI b := if_neg (by omega)
        rw [em]
        have nm : ¬ nI b = -1 := fun z => by
          have := congrArg Int32.toInt z
          rw [nI_toInt (by omega), show (-1 : Int32).toInt = -1 from rfl] at this
          omega
        have b29 : e9 t b ≤ 29 := e9_29 ht (by omega) b3
        exact ⟨fun _ => px_follow9 ht b1 b2 b3 hM (fun I2 a1 a2 a3 => ⟨Or.inr rfl, hQ1 b he.symm b1 b2 b29 I2 a1 a2 (hF.tr a3)⟩), fun c => absurd c nm⟩
    | succ g ih =>
      intro b hg hb he
      have ed : t + 1 - (g + 1) = t - g := by omega
      have e30 : 30 - (30 - t + g) = t - g := by omega
      have he2 : fb9 (st9 A) (e9 t) (30 - t + g) (if st9 A (30 - (30 - t + g)) = true ∧ e9 t (30 - (30 - t + g)) < e9 t b then 30 - (30 - t + g) else b) = fb9 (st9 A) (e9 t) 30 0 := he
      rw [e30] at he2
      rw [ed]
      have en : nI (t - g) + 1 = nI (t + 1 - g) := by rw [nI_k1]; exact congrArg nI (by omega)
      have eb := hb0 b (by omega)
      have ep := hM (t - g) (by omega) (by omega)
      have eb2 := hb0 (t - g) (by omega)
      refine sg_X5_find_15 hc _ _ _ _ _ _ _ _ ⟨fun c => absurd ((nlt_nI (by omega) (by omega)).mp c) (by omega), fun _ => px_isIn (fun hi _ => ⟨fun z => absurd z (by decide), fun _ => ⟨vp_nI (by omega) (by omega), ?_⟩⟩) (fun hi _ => ⟨fun _ => ?_, fun z => absurd rfl z⟩)⟩
      · rw [tn_nI (by omega), ep, en]
        refine ⟨fun c => ?_, fun c => ⟨vp_nI (by omega) (by omega), ?_⟩⟩
        · rw [nle_nI eb eb2] at c
          rw [if_neg (fun z => by have := z.2; omega)] at he2
          exact ih b (by omega) hb he2
        · rw [nle_nI eb eb2] at c
          have hs : st9 A (t - g) = true := hi
          rw [if_pos ⟨hs, by omega⟩] at he2
          have k := ih (t - g) (by omega) (Or.inr ⟨by omega, by omega, by omega⟩) he2
          rw [show mn9 (t - g) = nI (t - g) from if_neg (by omega)] at k
          exact k
      · have hs : ¬ st9 A (t - g) = true := fun z => by
          have z2 : inS A (nI (t - g)) = true := z
          rw [hi] at z2; cases z2
        rw [if_neg (fun z => hs z.1)] at he2
        rw [en]
        exact ih b (by omega) hb he2
  have k := L t 0 (Nat.le_refl _) (Or.inl rfl) (by rw [show 30 - t + t = 30 by omega])
  rw [z0, show t + 1 - t = 1 by omega] at k
  exact k
end RCC
