/-! ===== what the store holds, what a man has: both sides ===== -/
/-- how many, the set; what a man has, in crumbs: over the last f slices -/
noncomputable def pcR (S : Nat → Int32) : Nat → Int32 → Int32
  | 0, x => x
  | f + 1, x => pcR S f (x + S (30 - f))
noncomputable def stR (S : Nat → Int32) : Nat → Int32 → Int32
  | 0, x => x
  | f + 1, x => stR S f (if S (30 - f) ≤ 0 then x else x ||| biS (nI (30 - f)))
noncomputable def hvR (h : Int32) : Nat → Int → Int
  | 0, x => x
  | f + 1, x => hvR h f (if inS h (nI (30 - f)) = true then x + pt (30 - f) else x)
section STP
variable {M : Nat} {I : Im} {J : Jm} {R : Rm} {Q : Qt}
theorem nx30 {f : Nat} (h : f + 1 ≤ 30) : nI (30 - f) + 1 = nI (31 - f) := by rw [nI_k1]; exact congrArg nI (by omega)
theorem px_pieces {e o : Nat} {s : StS9} (hO : isO 112 o 0 = true) (h : BkA o M s I) (hQ : Q (pcR s.1 30 0) 0 I J R) : AM (e + 1) 6 112 [.ref o] I J R Q := by
  obtain ⟨a0, l0, -⟩ := fa_0_0 hO
  refine am_X0_pieces (fun P hc => sg_X0_pieces_0 hc _ _ _ _ ?_)
  have L : ∀ (f : Nat) (x : Int32), f ≤ 30 → Q (pcR s.1 f x) 0 I J R → P 4 112 [(0, .ref o), (1, .int x), (2, .int (nI (31 - f)))] [] I J R := by
    intro f
    induction f with
    | zero => intro x _ hQ; exact sg_X0_pieces_4 hc _ _ _ _ _ _ ⟨fun _ => hQ, fun c => absurd ((nlt_nI (a := 30) (b := 31 - 0) (by omega) (by omega)).mpr (by omega)) c⟩
    | succ f ih =>
      intro x hf hQ
      have ed : 31 - (f + 1) = 30 - f := by omega
      rw [ed]
      refine sg_X0_pieces_4 hc _ _ _ _ _ _ ⟨fun c => absurd ((nlt_nI (a := 30) (by omega) (by omega)).mp c) (by omega), fun _ => bif_t hO (bif_t a0 ⟨by rw [l0]; exact vp_nI (by omega) (by omega), ?_⟩)⟩
      rw [tn_nI (by omega), h.1 (30 - f) (by omega) (by omega), nx30 hf]
      exact ih _ (by omega) hQ
  exact L 30 0 (by decide) hQ
theorem ix_b {f : Nat} (h : f + 1 ≤ 30) : Int32.toNatClampNeg (4 + nI (29 - f)) = 3 + (30 - f) ∧ vp_in (4 + nI (29 - f)) 1620 := by
  have e1 : (4 + nI (29 - f) : Int32).toInt = 4 + ((29 - f : Nat) : Int) := ti_add (show (4 : Int32).toInt = 4 from rfl) (nI_toInt (by omega)) (by omega)
  have e3 : Int32.toNatClampNeg (4 + nI (29 - f)) = (4 + nI (29 - f) : Int32).toInt.toNat := rfl
  exact ⟨by rw [e3, e1]; omega, vp_of (a := 4 + ((29 - f : Nat) : Int)) e1 (by omega) (by omega)⟩
theorem nx29 {f : Nat} (h : f + 1 ≤ 30) : nI (29 - f) + 1 = nI (30 - f) := by rw [nI_k1]; exact congrArg nI (by omega)
theorem px_held {e : Nat} {s : StS9} (h : BkR M s I) (hQ : Q (pcR s.1 30 0) 0 I J R) : AM (e + 1) 245 112 [.ref 97] I J R Q := by
  refine am_X12_held (fun P hc => sg_X12_held_0 hc _ _ _ ?_)
  have L : ∀ (f : Nat) (x : Int32), f ≤ 30 → Q (pcR s.1 f x) 0 I J R → P 4 112 [(0, .ref 97), (1, .int x), (2, .int (nI (30 - f)))] [] I J R := by
    intro f
    induction f with
    | zero => intro x _ hQ; exact sg_X12_held_4 hc _ _ _ _ _ ⟨fun _ => hQ, fun c => absurd ((nle_nI (a := 30) (b := 30 - 0) (by omega) (by omega)).mpr (by omega)) c⟩
    | succ f ih =>
      intro x hf hQ
      obtain ⟨ib, vb⟩ := ix_b hf
      have ed : 30 - (f + 1) = 29 - f := by omega
      rw [ed]
      refine sg_X12_held_4 hc _ _ _ _ _ ⟨fun c => absurd ((nle_nI (a := 30) (by omega) (by omega)).mp c) (by omega), fun _ => ⟨vb, ?_⟩⟩
      rw [ib, h.1 (30 - f) (by omega) (by omega), nx29 hf]
      exact ih _ (by omega) hQ
  exact L 30 0 (by decide) hQ
theorem px_holding {e o : Nat} {k : Int32} {s : StS9} (hO : isO 112 o 0 = true) (hk : (0 : Int32) ≤ k ∧ k < I o 4) (hm : (I o 4).toInt = (M : Int) ∧ M ≤ 6) (h : BkA o M s I) (hQ : ∀ y : Int64, y.toInt = hvR (s.2.1 (nn9 k)) 30 0 → Q 0 y I J R) : AM (e + 2) 9 112 [.ref o, .int k] I J R Q := by
  obtain ⟨a5, l5, -⟩ := fa_0_8 hO
  obtain ⟨nk, vk⟩ := mn_nn hk hm
  rw [← l5] at vk
  have ek : I (o + 5) (Int32.toNatClampNeg k) = s.2.1 (nn9 k) := h.2.1 _ nk
  refine am_X0_holding (fun P hc => sg_X0_holding_0 hc _ _ _ _ _ ?_)
  have L : ∀ (f : Nat) (x : Int64) (a : Int), f ≤ 30 → x.toInt = a → 0 ≤ a ∧ a ≤ ((30 - f : Nat) : Int) * 2329089562800 → (∀ y : Int64, y.toInt = hvR (s.2.1 (nn9 k)) f a → Q 0 y I J R) → P 5 112 [(0, .ref o), (1, .int k), (2, .long x), (4, .int (nI (31 - f)))] [] I J R := by
    intro f
    induction f with
    | zero => intro x a _ hx _ hQ; exact sg_X0_holding_5 hc _ _ _ _ _ _ _ ⟨fun _ => hQ x hx, fun c => absurd ((nlt_nI (a := 30) (b := 31 - 0) (by omega) (by omega)).mpr (by omega)) c⟩
    | succ f ih =>
      intro x a hf hx ha hQ
      have ed : 31 - (f + 1) = 30 - f := by omega
      obtain ⟨p1, p2, -⟩ := pt_b (d := 30 - f) (by omega) (by omega)
      have e1 : ((30 - (f + 1) : Nat) : Int) = ((30 - f : Nat) : Int) - 1 := by omega
      rw [e1] at ha
      have hQ2 : ∀ y : Int64, y.toInt = hvR (s.2.1 (nn9 k)) f (if inS (s.2.1 (nn9 k)) (nI (30 - f)) = true then a + pt (30 - f) else a) → Q 0 y I J R := hQ
      rw [ed]
      refine sg_X0_holding_5 hc _ _ _ _ _ _ _ ⟨fun c => absurd ((nlt_nI (a := 30) (by omega) (by omega)).mp c) (by omega), fun _ => bif_t hO (bif_t a5 ⟨vk, ?_⟩)⟩
      rw [ek, nx30 hf]
      refine px_isIn (fun hi _ => ⟨fun z => absurd z (by decide), fun _ => px_cr1 (by omega) (by omega) (fun y hy => ?_)⟩) (fun hi _ => ⟨fun _ => ?_, fun z => absurd rfl z⟩)
      · rw [if_pos hi] at hQ2
        exact ih _ _ (by omega) (tl_add hx hy (by omega)) (by omega) hQ2
      · rw [if_neg (by rw [hi]; decide)] at hQ2
        exact ih _ _ (by omega) hx (by omega) hQ2
  exact L 30 0 0 (by decide) rfl (by decide) hQ
theorem px_sumOf {e : Nat} {h : Int32} (hh : 0 ≤ h.toInt) (hQ : ∀ y : Int64, y.toInt = hvR h 30 0 → Q 0 y I J R) : AM (e + 2) 243 112 [.int h] I J R Q := by
  refine am_X12_sumOf (fun P hc => sg_X12_sumOf_0 hc _ _ _ _ ?_)
  have L : ∀ (f : Nat) (x : Int64) (a : Int), f ≤ 30 → x.toInt = a → 0 ≤ a ∧ a ≤ ((30 - f : Nat) : Int) * 2329089562800 → (∀ y : Int64, y.toInt = hvR h f a → Q 0 y I J R) → P 4 112 [(0, .int h), (1, .long x), (3, .int (nI (31 - f)))] [] I J R := by
    intro f
    induction f with
    | zero => intro x a _ hx _ hQ; exact sg_X12_sumOf_4 hc _ _ _ _ _ _ ⟨fun _ => hQ x hx, fun c => absurd ((nlt_nI (a := 30) (b := 31 - 0) (by omega) (by omega)).mpr (by omega)) c⟩
    | succ f ih =>
      intro x a hf hx ha hQ
      have ed : 31 - (f + 1) = 30 - f := by omega
      obtain ⟨p1, p2, -⟩ := pt_b (d := 30 - f) (by omega) (by omega)
      have e1 : ((30 - (f + 1) : Nat) : Int) = ((30 - f : Nat) : Int) - 1 := by omega
      rw [e1] at ha
      have hQ2 : ∀ y : Int64, y.toInt = hvR h f (if inS h (nI (30 - f)) = true then a + pt (30 - f) else a) → Q 0 y I J R := hQ
      rw [ed]
      refine sg_X12_sumOf_4 hc _ _ _ _ _ _ ⟨fun c => absurd ((nlt_nI (a := 30) (by omega) (by omega)).mp c) (by omega), fun _ => ?_⟩
      rw [nx30 hf]
      refine px_isOf hh ((nle_nI (a := 1) (by omega) (by omega)).mpr (by omega)) ((nle_nI (b := 30) (by omega) (by omega)).mpr (by omega)) (fun hi _ => ⟨fun z => absurd z (by decide), fun _ => px_parts (by omega) (by omega) (fun y hy => ?_)⟩) (fun hi _ => ⟨fun _ => ?_, fun z => absurd rfl z⟩)
      · rw [if_pos hi] at hQ2
        exact ih _ _ (by omega) (tl_add hx hy (by omega)) (by omega) hQ2
      · rw [if_neg (by rw [hi]; decide)] at hQ2
        exact ih _ _ (by omega) (by rw [Int64.add_zero]; exact hx) (by omega) hQ2
  exact L 30 0 0 (by decide) rfl (by decide) hQ
end STP
