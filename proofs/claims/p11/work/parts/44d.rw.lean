/-! ===== rows looked for, on both sides ===== -/
theorem rws_congr {S S2 : Nat → Bool} : ∀ (f k : Nat) (l : Int), f ≤ 30 → (∀ x, 31 - f ≤ x → x ≤ 30 → S x = S2 x) → rws S f k l = rws S2 f k l := by
  intro f
  induction f with
  | zero => intro k l _ _; cases k <;> rfl
  | succ f ih =>
    intro k l hf hS
    cases k with
    | zero => rw [rws_0, rws_0]
    | succ k => rw [rws_s, rws_s, ih k _ (by omega) (fun x h1 h2 => hS x (by omega) h2), ih (k + 1) l (by omega) (fun x h1 h2 => hS x (by omega) h2), hS (30 - f) (by omega) (by omega)]
theorem rws_SB {A : Int32} {k : Nat} {l : Int} : rws (SB A 31) 30 k l = rws (SA A) 30 k l :=
  rws_congr 30 k l (by decide) (fun x _ h2 => by unfold SB SA; rw [decide_eq_true (by omega), Bool.and_true])
/-- the first of the rows of the fewest, from n on -/
def fwR (S : Nat → Bool) (l : Int) : Nat → Nat → Option (List Nat)
  | 0, _ => none
  | f + 1, n => match rws S 30 n l with
    | [] => fwR S l f (n + 1)
    | r :: _ => some r
theorem fwR_n {S : Nat → Bool} {l : Int} {f n : Nat} (h : rws S 30 n l = []) : fwR S l (f + 1) n = fwR S l f (n + 1) := by
  show (match rws S 30 n l with
    | [] => fwR S l f (n + 1)
    | r :: _ => some r) = _
  rw [h]
theorem fwR_c {S : Nat → Bool} {l : Int} {f n : Nat} {r : List Nat} {rs : List (List Nat)} (h : rws S 30 n l = r :: rs) : fwR S l (f + 1) n = some r := by
  show (match rws S 30 n l with
    | [] => fwR S l f (n + 1)
    | r :: _ => some r) = _
  rw [h]
def fwC (S : Nat → Bool) (l : Int) : Option (List Nat) := if l = 0 then some [] else if l < 0 then none else fwR S l 5 1
def lnO : Option (List Nat) → Int32
  | none => -1
  | some r => nI r.length
def atO (k : Int32) : Option (List Nat) → Int32
  | none => -1
  | some r => if 0 ≤ k.toInt ∧ k.toInt < r.length then nI (r.getD k.toNatClampNeg 0) else -1
section RWL
variable {I : Im} {J : Jm} {R : Rm} {Q : Qt}
/-! the reference -/
theorem px_laysRows {A : Int32} {b z d : Nat} {v3 : Int64} {l : Int} (hA : 0 ≤ A.toInt) (hb : b ≤ 31) (h5 : z ≤ 5) (hv : v3.toInt = l) (hl : -1000000000000000 ≤ l ∧ l ≤ 1000000000000000) (hQ : ∀ I2, RfI (rfRun (rws (SB A b) 30 z l) (0, [], fun _ => 0)) I2 → FrF I J I2 J → Q (bl (!(rws (SB A b) 30 z l).isEmpty)) 0 I2 J R) : AM (d + z + 3) 272 112 [.ref 97, .int (nI z), .int (nI b), .long v3, .int A] I J R Q := by
  refine am_X12_laysRows (fun P hc => sg_X12_laysRows_0 hc _ _ _ _ _ _ _ ?_)
  have hlen : (rws (SB A b) 30 z l).length ≤ 2 ^ 30 := rws_len 30 z l
  have h31 : (2 : Nat) ^ 30 < 2 ^ 31 := by decide
  have L8 : ∀ (t : Nat) (M : Im), t ≤ 31 → FrF I J M J → M 97 31 = 0 → (∀ k, k < 31 - t → M 107 k = 0) → P 8 112 [(0, .ref 97), (1, .int (nI z)), (2, .int (nI b)), (3, .long v3), (5, .int A), (6, .int (nI (31 - t)))] [] M J R := by
    intro t
    induction t with
    | zero =>
      intro M ht hF h31' h7
      refine sg_X12_laysRows_8 hc _ _ _ _ _ _ _ _ ⟨fun _ => ?_, fun c => absurd ((nlt_nI (a := 30) (b := 31 - 0) (by omega) (by omega)).mpr (by omega)) c⟩
      refine px_rrows (A := A) (b := b) (z := z) hA hb h5 z 30 [] l v3 (0, [], fun _ => 0) d M _ hv hl (Nat.zero_add z) (by decide) (fun x hx => absurd hx List.not_mem_nil) ⟨h31', fun i hi => absurd hi (Nat.not_lt_zero _), fun k hk => h7 k (by omega)⟩ (fun i hi => absurd hi (Nat.not_lt_zero _)) (by show 0 + (rws (SB A b) 30 z l).length ≤ 2 ^ 30; omega) (fun I2 a _ c => ?_)
      rw [rsP_0] at a
      have key := hQ I2 a (hF.tr c)
      have e31 : I2 97 31 = nI (rws (SB A b) 30 z l).length := by rw [a.1, rfRun_n]; exact congrArg nI (Nat.zero_add _)
      have et : (I2 97 31).toInt = ((rws (SB A b) 30 z l).length : Int) := by rw [e31]; exact nI_toInt (by omega)
      refine ⟨fun c1 => ⟨Or.inl rfl, ?_⟩, fun c1 => ⟨Or.inr rfl, ?_⟩⟩
      · rw [Int32.le_iff_toInt_le, et, show (0 : Int32).toInt = 0 from rfl] at c1
        have e0 : rws (SB A b) 30 z l = [] := List.eq_nil_of_length_eq_zero (by omega)
        rw [e0] at key; exact key
      · rw [Int32.le_iff_toInt_le, et, show (0 : Int32).toInt = 0 from rfl] at c1
        cases q : rws (SB A b) 30 z l with
        | nil => rw [q] at c1; exact absurd (Int.le_refl 0) c1
        | cons r rs => rw [q] at key; exact key
    | succ t ih =>
      intro M ht hF h31' h7
      have ed : 31 - (t + 1) = 30 - t := by omega
      rw [ed]
      refine sg_X12_laysRows_8 hc _ _ _ _ _ _ _ _ ⟨fun c => absurd ((nlt_nI (a := 30) (by omega) (by omega)).mp c) (by omega), fun _ => ⟨vp_nI (by omega) (by omega), ?_⟩⟩
      rw [tn_nI (by omega), show nI (30 - t) + 1 = nI (31 - t) from by rw [nI_k1]; exact congrArg nI (by omega)]
      refine ih _ (by omega) (hF.u (Or.inr (Or.inr (Or.inr rfl)))) ((rd_ne (by decide)).trans h31') (fun k hk => ?_)
      by_cases q : k = 30 - t
      · subst q; exact rd_eq
      · rw [rd_k q]; exact h7 k (by omega)
  exact L8 31 _ (by decide) (FrW.rf.u (Or.inl ⟨rfl, rfl⟩)) rd_eq (fun k hk => absurd hk (Nat.not_lt_zero _))
theorem px_fewestOf {A : Int32} {v1 : Int64} {l : Int} {t d : Nat} (hA : 0 ≤ A.toInt) (hv : v1.toInt = l) (hl : -1000000000000000 ≤ l ∧ l ≤ 1000000000000000) (ht : t ≤ 6) (hQ : ∀ I2, (∀ r, fwR (SA A) l (6 - t) t = some r → ∀ i, i < r.length → I2 106 i = nI (r.getD i 0)) → FrF I J I2 J → Q (lnO (fwR (SA A) l (6 - t) t)) 0 I2 J R) : AM (d + 9) 273 112 [.ref 97, .long v1, .int A, .int (nI t)] I J R Q := by
  refine am_X12_fewestOf (fun P hc => sg_X12_fewestOf_0 hc _ _ _ _ _ _ ?_)
  have L4 : ∀ (f t : Nat) (M : Im), t + f = 6 → FrF I J M J → (∀ I2, (∀ r, fwR (SA A) l f t = some r → ∀ i, i < r.length → I2 106 i = nI (r.getD i 0)) → FrF I J I2 J → Q (lnO (fwR (SA A) l f t)) 0 I2 J R) → P 4 112 [(0, .ref 97), (1, .long v1), (3, .int A), (5, .int (nI t))] [] M J R := by
    intro f
    induction f with
    | zero =>
      intro t M ht hF hQ
      exact sg_X12_fewestOf_4 hc _ _ _ _ _ _ ⟨fun _ => hQ M (fun r h => by cases h) hF, fun c => absurd ((nlt_nI (a := 5) (by omega) (by omega)).mpr (by omega)) c⟩
    | succ f ih =>
      intro t M ht hF hQ
      refine sg_X12_fewestOf_4 hc _ _ _ _ _ _ ⟨fun c => absurd ((nlt_nI (a := 5) (by omega) (by omega)).mp c) (by omega), fun _ => ?_⟩
      have e8 : d + 8 = (d + (5 - t)) + t + 3 := by omega
      rw [e8]
      refine px_laysRows (b := 31) hA (by decide) (by omega) hv hl (fun I2 a c _ => ?_)
      rw [rws_SB] at a
      rw [rws_SB]
      cases q : rws (SA A) 30 t l with
      | nil =>
        rw [fwR_n q] at hQ
        refine ⟨fun _ => ?_, fun z => absurd rfl z⟩
        rw [nI_k1]
        exact ih (t + 1) I2 (by omega) (hF.tr c) hQ
      | cons r rs =>
        rw [q] at a
        have hr := (rws_mem 30 t l r (by decide) (by rw [q]; exact List.mem_cons_self ..)).1
        have e1 : (rfRun (r :: rs) (0, [], fun _ => 0)).2.1 = r := rfRun_c rfl
        have a2 := a.2.1
        rw [e1] at a2
        rw [fwR_c q] at hQ
        have key := hQ I2 (fun r2 h2 i hi => by
          have e : r = r2 := Option.some.inj h2
          subst e
          exact a2 i hi) (hF.tr c)
        rw [show lnO (some r) = nI t from congrArg nI hr] at key
        exact ⟨fun z => absurd (show (1 : Int32) = 0 from z) (by decide), fun _ => key⟩
  exact L4 (6 - t) t I (by omega) FrW.rf hQ
/-! the class -/
theorem px_fill0 {d : Nat} (hQ : ∀ (x : Int32) (y : Int64) (I2 : Im), (∀ i, ¬ i = 38 → I2 i = I i) → (∀ k, k < 31 → I2 38 k = 0) → Q x y I2 J R) : AM (d + 1) 321 112 [.ref 38, .int 0] I J R Q := by
  refine am_J7_fill_53178 (fun P hc => ?_)
  have e31 : Int32.ofNat (aL 38) = nI 31 := rfl
  have ha : isA 112 38 0 = true := rfl
  have L : ∀ (t : Nat) (M : Im), t ≤ 31 → (∀ i, ¬ i = 38 → M i = I i) → (∀ k, k < 31 - t → M 38 k = 0) → P 5 112 [(0, .ref 38), (1, .int 0), (2, .int (nI (31 - t))), (3, .int (Int32.ofNat (aL 38)))] [] M J R := by
    intro t
    induction t with
    | zero =>
      intro M ht h1 h2
      refine sg_J7_fill_53178_5 hc _ _ _ _ _ _ _ ⟨fun _ => hQ _ _ M h1 h2, fun c => ?_⟩
      rw [e31] at c
      exact absurd ((nle_nI (a := 31) (b := 31 - 0) (by omega) (by omega)).mpr (by omega)) c
    | succ t ih =>
      intro M ht h1 h2
      have ed : 31 - (t + 1) = 30 - t := by omega
      rw [ed]
      refine sg_J7_fill_53178_5 hc _ _ _ _ _ _ _ ⟨fun c => ?_, fun c => ?_⟩
      · rw [e31] at c
        exact absurd ((nle_nI (a := 31) (b := 30 - t) (by omega) (by omega)).mp c) (by omega)
      · refine bif_t ha ⟨vp_nI (by omega) (by show 30 - t < 31; omega), ?_⟩
        rw [tn_nI (by omega), show nI (30 - t) + 1 = nI (31 - t) from by rw [nI_k1]; exact congrArg nI (by omega)]
        refine ih _ (by omega) (fun i hi => (uI_ne hi).trans (h1 i hi)) (fun k hk => ?_)
        by_cases q : k = 30 - t
        · subst q; exact rd_eq
        · rw [rd_k q]; exact h2 k (by omega)
  refine sg_J7_fill_53178_0 hc _ _ _ _ _ ?_
  refine bif_tF ha ?_
  exact L 31 I (by decide) (fun _ _ => rfl) (fun k hk => absurd hk (Nat.not_lt_zero _))
def s0R : RwS := (31, [], 0, fun _ => 0)
theorem RwI_z {g z z2 : Nat} {A : Int32} {s : RwS} (h : RwI g A z s I) : RwI g A z2 s (uI I 35 2 (nI z2)) := by
  obtain ⟨e0, e1, e2, e5, e7, e6, e8, eb, hg⟩ := h
  refine ⟨(rd_k (by decide)).trans e0, fun d a b => ?_, rd_eq, (rd_k (by decide)).trans e5, fun i hi => (rd_ne (by decide)).trans (e7 i hi), (rd_k (by decide)).trans e6, fun d hd => (rd_ne (by decide)).trans (e8 d hd), eb, hg⟩
  rw [rd_k (by decide)]; exact e1 d a b
theorem px_begin {g d : Nat} {A : Int32} (hg : g ≤ 2) (hQ : ∀ (I2 : Im), (∀ z, RwI g A z s0R (uI I2 35 2 (nI z))) → FrO I J I2 J → Q 0 0 I2 J R) : AM (d + 2) 75 112 [.ref 35, .int (nI g), .int A] I J R Q := by
  refine w_X7_begin (px_fill0 (fun x y I2 h1 h2 => hQ I2 (fun z => ?_) ?_))
  · have e35 := h1 35 (by decide)
    refine ⟨?_, fun d a b => ?_, rd_eq, ?_, fun i hi => absurd hi (Nat.not_lt_zero _), ?_, fun d hd => ?_, Or.inr rfl, hg⟩
    · rw [rd_k (by decide), e35, rd_k (by decide), rd_k (by decide), rd_k (by decide), rd_eq]
    · rw [rd_k (by decide), e35, rd_k (by decide), rd_k (by decide), rd_eq]
      show inS A (nI d) = (SA A d && decide (d < 31))
      rw [decide_eq_true (by omega), Bool.and_true]; rfl
    · rw [rd_k (by decide), e35, rd_k (by decide), rd_eq]; rfl
    · rw [rd_k (by decide), e35, rd_eq]; rfl
    · rw [rd_ne (by decide)]
      exact h2 d (by omega)
  · have hF : FrO I J (uI (uI (uI (uI I 35 0 (nI g)) 35 1 A) 35 5 0) 35 6 0) J := (((FrW.rf.u (Or.inl rfl)).u (Or.inl rfl)).u (Or.inl rfl)).u (Or.inl rfl)
    exact ⟨fun o k q => (congrFun (h1 o (fun z => q (Or.inr (Or.inr (Or.inr z))))) k).trans (hF.1 o k q), fun _ _ _ => rfl⟩
theorem px_seekRows {g k d : Nat} {A : Int32} {s : RwS} {v : Int64} {l : Int} (hk : k + 1 ≤ 5) (hv : v.toInt = l) (hl : -1000000000000000 ≤ l ∧ l ≤ 1000000000000000) (h : RwI g A (k + 1) s (uI I 35 2 (nI (k + 1)))) (hQ : ∀ I2, RwI g A (k + 1) (rwRun g (rws (SA A) 30 (k + 1) l) s).1 I2 → FrO I J I2 J → Q (bl (rwRun g (rws (SA A) 30 (k + 1) l) s).2) 0 I2 J R) : AM (d + k + 5) 79 112 [.ref 35, .int (nI (k + 1)), .long v] I J R Q := by
  have e0 : ([] : List Nat).length + (k + 1) = k + 1 := Nat.zero_add _
  refine w_X7_seekRowsOf (px_seek (g := g) (A := A) k 30 [] l v s d _ _ hv hl (by rw [e0]; exact hk) (by decide) (fun x hx => absurd hx List.not_mem_nil) (by rw [e0]; exact h) (fun i hi => absurd hi (Nat.not_lt_zero _)) (fun I2 a _ c _ => ⟨bl_01, ?_⟩))
  rw [e0, rsP_0] at a
  rw [rsP_0]
  exact hQ I2 a ((FrW.rf.u (Or.inl rfl)).tr c)
theorem px_findFewest {d : Nat} {A : Int32} {v : Int64} {l : Int} (hv : v.toInt = l) (hl : -1000000000000000 ≤ l ∧ l ≤ 1000000000000000) (hQ : ∀ I2, (∀ r, fwC (SA A) l = some r → I2 35 5 = nI r.length ∧ ∀ i, i < r.length → I2 37 i = nI (r.getD i 0)) → FrO I J I2 J → Q (bl (fwC (SA A) l).isSome) 0 I2 J R) : AM (d + 10) 76 112 [.ref 35, .int A, .long v] I J R Q := by
  refine am_X7_findFewest (fun P hc => sg_X7_findFewest_0 hc _ _ _ _ _ ?_)
  refine px_begin (g := 0) (by decide) (fun I1 h0 hF1 => ?_)
  have z0 : (0 : Int64).toInt = 0 := rfl
  refine ⟨fun c => ?_, fun c => ?_⟩
  · rw [lg_cmp_eq] at c
    have l0 := cl_ne hv z0 c
    by_cases ln : l < 0
    · have e : fwC (SA A) l = none := by unfold fwC; rw [if_neg l0, if_pos ln]
      rw [e] at hQ
      have fin := hQ I1 (fun r h => by cases h) hF1
      refine sg_X7_findFewest_22 hc _ _ _ _ _ _ ⟨fun _ => ⟨Or.inl rfl, fin⟩, fun _ => ⟨fun q => absurd rfl q, fun _ => ⟨fun _ => ⟨Or.inl rfl, fin⟩, fun q => ?_⟩⟩⟩
      rw [lg_cmp_le] at q
      have := cl_nle hv z0 q
      omega
    · have e : fwC (SA A) l = fwR (SA A) l 5 1 := by unfold fwC; rw [if_neg l0, if_neg ln]
      rw [e] at hQ
      have L22 : ∀ (f n : Nat) (M : Im), n + f = 6 → 1 ≤ n → (∀ z, RwI 0 A z s0R (uI M 35 2 (nI z))) → FrO I J M J → (∀ I2, (∀ r, fwR (SA A) l f n = some r → I2 35 5 = nI r.length ∧ ∀ i, i < r.length → I2 37 i = nI (r.getD i 0)) → FrO I J I2 J → Q (bl (fwR (SA A) l f n).isSome) 0 I2 J R) → P 22 112 [(0, .ref 35), (2, .long v), (4, .int 0), (5, .int (nI n))] [] M J R := by
        intro f
        induction f with
        | zero =>
          intro n M hn h1 h0 hF hQ
          exact sg_X7_findFewest_22 hc _ _ _ _ _ _ ⟨fun _ => ⟨Or.inl rfl, hQ M (fun r h => by cases h) hF⟩, fun c => absurd ((nlt_nI (a := 5) (by omega) (by omega)).mpr (by omega)) c⟩
        | succ f ih =>
          intro n M hn h1 h0 hF hQ
          obtain ⟨k, rfl⟩ : ∃ k, n = k + 1 := ⟨n - 1, by omega⟩
          refine sg_X7_findFewest_22 hc _ _ _ _ _ _ ⟨fun c => absurd ((nlt_nI (a := 5) (by omega) (by omega)).mp c) (by omega), fun _ => ⟨fun q => absurd rfl q, fun _ => ⟨fun q => ?_, fun _ => ?_⟩⟩⟩
          · rw [lg_cmp_le] at q
            have := cl_le hv z0 q
            omega
          have e9 : d + 9 = (d + (4 - k)) + k + 5 := by omega
          rw [e9]
          refine px_seekRows (g := 0) (A := A) (by omega) hv hl (h0 (k + 1)) (fun I2 a c _ => ?_)
          cases q : rws (SA A) 30 (k + 1) l with
          | nil =>
            rw [q] at a
            rw [fwR_n q] at hQ
            rw [nI_k1]
            exact ih (k + 2) I2 (by omega) (by omega) (fun z => RwI_z a) (hF.tr c) hQ
          | cons r rs =>
            rw [q] at a
            rw [fwR_c q] at hQ
            have fin := hQ I2 (fun r2 h2 => by
              have e : r = r2 := Option.some.inj h2
              subst e
              exact ⟨a.2.2.2.1, a.2.2.2.2.1⟩) (hF.tr c)
            exact sg_X7_findFewest_22 hc _ _ _ _ _ _ ⟨fun _ => ⟨Or.inr rfl, fin⟩, fun _ => ⟨fun _ => ⟨Or.inr rfl, fin⟩, fun z => absurd (show (1 : Int32) = 0 from z) (by decide)⟩⟩
      exact L22 5 1 I1 (by decide) (by decide) h0 hF1 hQ
  · rw [lg_cmp_eq] at c
    have l0 : l = 0 := cl_eq hv z0 c
    have e : fwC (SA A) l = some [] := if_pos l0
    rw [e] at hQ
    have a0 := h0 0
    have e5 : I1 35 5 = 0 := by
      have := a0.2.2.2.1
      rw [rd_k (by decide)] at this
      exact this
    have fin := hQ I1 (fun r h => by
      have e2 : [] = r := Option.some.inj h
      subst e2
      exact ⟨e5, fun i hi => absurd hi (Nat.not_lt_zero _)⟩) hF1
    exact sg_X7_findFewest_22 hc _ _ _ _ _ _ ⟨fun _ => ⟨Or.inr rfl, fin⟩, fun _ => ⟨fun _ => ⟨Or.inr rfl, fin⟩, fun z => absurd z (by decide)⟩⟩
end RWL
