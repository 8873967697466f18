/-! ===== fewest(), fewestAt(), ways(), oddsThat(): what they answer ===== -/
def Cs (P : Prop) (v x : Int32) : Prop := (P ∧ x = v) ∨ (¬ P ∧ x = -1)
theorem Cs.eq {P : Prop} {v x x2 : Int32} (h : Cs P v x) (h2 : Cs P v x2) : x2 = x := by
  rcases h with ⟨a, b⟩ | ⟨a, b⟩ <;> rcases h2 with ⟨c, e⟩ | ⟨c, e⟩
  · rw [b, e]
  · exact absurd a c
  · exact absurd c a
  · rw [b, e]
def Cb (P : Prop) (x : Int32) : Prop := (x = 1 ∧ P) ∨ (x = 0 ∧ ¬ P)
theorem Cb.eq {P : Prop} {x x2 : Int32} (h : Cb P x) (h2 : Cb P x2) : x2 = x := by
  rcases h with ⟨a, b⟩ | ⟨a, b⟩ <;> rcases h2 with ⟨c, e⟩ | ⟨c, e⟩
  · rw [a, c]
  · exact absurd b e
  · exact absurd e b
  · rw [a, c]
def shL (p q : Int32) : Int := pt q.toInt.toNat * p.toInt
def rz (k : Int32) : Prop := (1 : Int32) ≤ k ∧ k ≤ 5
def slQ (d : Int32) : Prop := (1 : Int32) ≤ d ∧ d ≤ 30
theorem sl_n {q : Int32} (h1 : (1 : Int32) ≤ q) (h2 : q ≤ 30) : q = nI q.toInt.toNat ∧ 1 ≤ q.toInt.toNat ∧ q.toInt.toNat ≤ 30 := by
  rw [le_i] at h1 h2
  have e1 : (1 : Int32).toInt = 1 := rfl
  have e30 : (30 : Int32).toInt = 30 := rfl
  refine ⟨Int32.toInt_inj.mp ?_, by omega, by omega⟩
  rw [nI_toInt (by omega)]; omega
theorem rz_n {k : Int32} (h : rz k) : ∃ n, k = nI (n + 1) ∧ n + 1 ≤ 5 := by
  obtain ⟨h1, h2⟩ := h
  rw [le_i] at h1 h2
  have e1 : (1 : Int32).toInt = 1 := rfl
  have e5 : (5 : Int32).toInt = 5 := rfl
  refine ⟨k.toInt.toNat - 1, Int32.toInt_inj.mp ?_, by omega⟩
  rw [nI_toInt (by omega)]; omega
theorem shL_b {p q : Int32} (h : sh p q) : 1 ≤ shL p q ∧ shL p q ≤ 1000000000000000 := by
  obtain ⟨⟨p1, p2⟩, q1, q2⟩ := h
  obtain ⟨-, n1, n2⟩ := sl_n q1 q2
  rw [le_i] at p1 p2
  have e1 : (1 : Int32).toInt = 1 := rfl
  have e99 : (99 : Int32).toInt = 99 := rfl
  obtain ⟨b1, b2, -⟩ := pt_b n1 n2
  unfold shL
  have k1 : 0 < pt q.toInt.toNat * p.toInt := Int.mul_pos b1 (by omega)
  have k2 : pt q.toInt.toNat * p.toInt ≤ 2329089562800 * 99 := Int.mul_le_mul b2 (by omega) (by omega) (by decide)
  omega
section RWT
variable {I : Im} {J : Jm} {R : Rm} {Q : Qt}
theorem px_crumbs {d : Nat} {p q : Int32} (h : sh p q) (hQ : ∀ y : Int64, y.toInt = shL p q → Q 0 y I J R) : AM (d + 1) 167 112 [.int p, .int q] I J R Q := by
  obtain ⟨eq, n1, n2⟩ := sl_n h.2.1 h.2.2
  have hb := shL_b h
  have ep : (Int32.toInt64 p).toInt = p.toInt := tl_i2l rfl
  have hpt := ptL q.toInt.toNat (by omega) n1
  rw [← eq] at hpt
  refine w_X11_crumbs ⟨fun _ => ⟨hpt.2.2, hQ _ ?_⟩, fun c => absurd h.2.1 c⟩
  have hb2 : 1 ≤ pt q.toInt.toNat * p.toInt ∧ pt q.toInt.toNat * p.toInt ≤ 1000000000000000 := hb
  rw [show shL p q = p.toInt * pt q.toInt.toNat from Int.mul_comm ..]
  exact tl_mul9 ep hpt.2.1 (by rw [Int.mul_comm]; omega)
theorem px_shareOf {d : Nat} {p q : Int32} (h : sh p q) (hQ : ∀ y : Int64, y.toInt = shL p q → Q 0 y I J R) : AM (d + 1) 241 112 [.int p, .int q] I J R Q := by
  obtain ⟨eq, n1, n2⟩ := sl_n h.2.1 h.2.2
  have hb := shL_b h
  have ep : (Int32.toInt64 p).toInt = p.toInt := tl_i2l rfl
  have hpt := ptL q.toInt.toNat (by omega) n1
  rw [← eq] at hpt
  refine w_X12_shareOf ⟨hpt.2.2, hQ _ ?_⟩
  have hb2 : 1 ≤ pt q.toInt.toNat * p.toInt ∧ pt q.toInt.toNat * p.toInt ≤ 1000000000000000 := hb
  exact tl_mul9 hpt.2.1 ep (by omega)
theorem px_isRowSize {d : Nat} {k : Int32} (hY : rz k → Q 1 0 I J R) (hN : ¬ rz k → Q 0 0 I J R) : AM (d + 1) 163 112 [.int k] I J R Q :=
  w_X11_isRowSize ⟨fun c => ⟨Or.inl rfl, hN (fun z => ile.mpr z.1 c)⟩, fun c1 => ⟨fun c => ⟨Or.inl rfl, hN (fun z => ile.mpr z.2 c)⟩, fun c2 => ⟨Or.inr rfl, hY ⟨ile.mp c1, ile.mp c2⟩⟩⟩⟩
theorem px_cSlQ {d : Nat} {k : Int32} (hY : slQ k → Q 1 0 I J R) (hN : ¬ slQ k → Q 0 0 I J R) : AM (d + 1) 161 112 [.int k] I J R Q :=
  w_X11_isSlice ⟨fun c => ⟨Or.inl rfl, hN (fun z => ile.mpr z.1 c)⟩, fun c1 => ⟨fun c => ⟨Or.inl rfl, hN (fun z => ile.mpr z.2 c)⟩, fun c2 => ⟨Or.inr rfl, hY ⟨ile.mp c1, ile.mp c2⟩⟩⟩⟩
theorem px_mSlQ {d : Nat} {k : Int32} (hY : slQ k → Q 1 0 I J R) (hN : ¬ slQ k → Q 0 0 I J R) : AM (d + 2) 238 112 [.int k] I J R Q :=
  w_X12_isSlice (px_isInI (lo := 1) (hi := 30) (fun l1 l2 _ => ⟨Or.inr rfl, hY ⟨l1, l2⟩⟩) (fun z _ => ⟨Or.inl rfl, hN (fun y => z.elim (fun x => ile.mpr y.1 x) (fun x => x y.2))⟩))
theorem fwR_m {S : Nat → Bool} {l : Int} {r : List Nat} : ∀ f n, fwR S l f n = some r → r.length < n + f := by
  intro f
  induction f with
  | zero => intro n h; cases h
  | succ f ih =>
    intro n h
    cases q : rws S 30 n l with
    | nil =>
      rw [fwR_n q] at h
      have := ih (n + 1) h
      omega
    | cons r2 rs =>
      rw [fwR_c q] at h
      have e : r2 = r := Option.some.inj h
      subst e
      have := (rws_mem 30 n l r2 (by decide) (by rw [q]; exact List.mem_cons_self ..)).1
      omega
theorem fwC_pos {S : Nat → Bool} {l : Int} (h : 1 ≤ l) : fwC S l = fwR S l 5 1 := by
  unfold fwC
  rw [if_neg (by omega), if_neg (by omega)]
theorem fwC_len {S : Nat → Bool} {l : Int} {r : List Nat} (h : fwC S l = some r) : r.length ≤ 5 := by
  unfold fwC at h
  by_cases q : l = 0
  · rw [if_pos q] at h
    have e : [] = r := Option.some.inj h
    rw [← e]; exact Nat.zero_le _
  · rw [if_neg q] at h
    by_cases q2 : l < 0
    · rw [if_pos q2] at h; cases h
    · rw [if_neg q2] at h
      have := fwR_m 5 1 h
      omega
theorem atO_y {k : Int32} {r : List Nat} (h : 0 ≤ k.toInt ∧ k.toInt < r.length) : atO k (some r) = nI (r.getD k.toNatClampNeg 0) := if_pos h
theorem atO_n {k : Int32} {r : List Nat} (h : ¬ (0 ≤ k.toInt ∧ k.toInt < r.length)) : atO k (some r) = -1 := if_neg h
/-- the k-th slice of what was looked for, class -/
theorem px_answerSlice {d : Nat} {o : Option (List Nat)} {k : Int32} (h : ∀ r, o = some r → I 35 5 = nI r.length ∧ ∀ i, i < r.length → I 37 i = nI (r.getD i 0)) (h5 : ∀ r, o = some r → r.length ≤ 5) (hQ : ∀ I2, Q (atO k o) 0 I2 J R) : AM (d + 3) 154 112 [.ref 1, .int (bl o.isSome), .int k] I J R Q := by
  cases o with
  | none => exact w_X11_answerSlice ⟨fun _ => w_X11_refuse (hQ _), fun z => absurd rfl z⟩
  | some r =>
    obtain ⟨e5, e7⟩ := h r rfl
    have hl := h5 r rfl
    have z0 : (0 : Int32).toInt = 0 := rfl
    have tl : (nI r.length).toInt = r.length := nI_toInt (by omega)
    have no : ¬ (0 ≤ k.toInt ∧ k.toInt < r.length) → ∀ M, Q (-1) 0 M J R := fun q M => by
      have := hQ M
      rw [atO_n q] at this; exact this
    refine w_X11_answerSlice ⟨fun z => absurd (show (1 : Int32) = 0 from z) (by decide), fun _ => w_X7_hasBest ⟨fun c => ⟨Or.inl rfl, fun _ => ⟨fun _ => w_X11_refuse (no (fun q => ?_) _), fun z => absurd rfl z⟩⟩, fun c => ⟨fun c2 => ⟨Or.inl rfl, fun _ => ⟨fun _ => w_X11_refuse (no (fun q => ?_) _), fun z => absurd rfl z⟩⟩, fun c2 => ⟨Or.inr rfl, fun _ => ⟨fun z => absurd z (by decide), fun _ => ?_⟩⟩⟩⟩⟩
    · rw [Int32.lt_iff_toInt_lt, z0] at c; omega
    · rw [e5, le_i, tl] at c2; omega
    · rw [Int32.lt_iff_toInt_lt, z0] at c
      rw [e5, le_i, tl] at c2
      have hk : 0 ≤ k.toInt ∧ k.toInt < r.length := by omega
      refine ⟨vp_of (a := k.toInt) rfl hk.1 (by omega), w_X11_answer ?_⟩
      have hi : k.toNatClampNeg < r.length := by
        show k.toInt.toNat < r.length
        omega
      rw [e7 _ hi, ← atO_y hk]
      exact hQ _
theorem cx_fewest {d : Nat} {p q : Int32} (hR : RI R) : AM (d + 12) 127 112 [.ref 1, .int p, .int q] I J R (fun x _ _ _ _ => Cs (sh p q) (lnO (fwC (SA (I (R 1 7) 2)) (shL p q))) x) := by
  have hO := hR.now.1
  refine w_X11_fewest (px_isShare (fun hs _ => ⟨fun _ => ⟨hR.now.2, bif_t hO (px_crumbs hs (fun y hy => ?_))⟩, fun z => absurd z (by decide)⟩) (fun hs _ => ⟨fun z => absurd rfl z, fun _ => w_X11_refuse (Or.inr ⟨hs, rfl⟩)⟩))
  have hb := shL_b hs
  refine px_findFewest hy (by omega) (fun I2 h c _ => ?_)
  cases o : fwC (SA (I (R 1 7) 2)) (shL p q) with
  | none => exact w_X11_answerSize ⟨fun _ => w_X11_refuse (Or.inl ⟨hs, rfl⟩), fun z => absurd rfl z⟩
  | some r =>
    have e := (h r o).1
    exact w_X11_answerSize ⟨fun z => absurd (show (1 : Int32) = 0 from z) (by decide), fun _ => w_X11_answer (Or.inl ⟨hs, e⟩)⟩
theorem cx_fewestAt {d : Nat} {p q k : Int32} (hR : RI R) : AM (d + 12) 128 112 [.ref 1, .int p, .int q, .int k] I J R (fun x _ _ _ _ => Cs (sh p q) (atO k (fwC (SA (I (R 1 7) 2)) (shL p q))) x) := by
  have hO := hR.now.1
  refine w_X11_fewestAt (px_isShare (fun hs _ => ⟨fun _ => ⟨hR.now.2, bif_t hO (px_crumbs hs (fun y hy => ?_))⟩, fun z => absurd z (by decide)⟩) (fun hs _ => ⟨fun z => absurd rfl z, fun _ => w_X11_refuse (Or.inr ⟨hs, rfl⟩)⟩))
  have hb := shL_b hs
  refine px_findFewest hy (by omega) (fun I2 h c _ => px_answerSlice h (fun r => fwC_len) (fun I3 => Or.inl ⟨hs, rfl⟩))
theorem px_countAll {n d : Nat} {A : Int32} {v : Int64} {l : Int} (hk : n + 1 ≤ 5) (hv : v.toInt = l) (hl : -1000000000000000 ≤ l ∧ l ≤ 1000000000000000) (hQ : ∀ I2, I2 35 6 = nI (rws (SA A) 30 (n + 1) l).length → (∀ k : Nat, k ≤ 30 → I2 38 k = nI (cntR (rws (SA A) 30 (n + 1) l) k)) → FrO I J I2 J → Q 0 0 I2 J R) : AM (d + 10) 78 112 [.ref 35, .int A, .long v, .int (nI (n + 1))] I J R Q := by
  refine w_X7_countAll (px_begin (g := 1) (by decide) (fun I1 h0 hF1 => ?_))
  have e9 : d + 9 = (d + (4 - n)) + n + 5 := by omega
  rw [e9]
  refine px_seekRows (g := 1) (A := A) hk hv hl (h0 (n + 1)) (fun I2 a c _ => ?_)
  rw [rwRun_1] at a
  refine hQ I2 ?_ (fun k hk2 => ?_) (hF1.tr c)
  · rw [a.2.2.2.2.2.1]
    exact congrArg nI (Nat.zero_add _)
  · rw [a.2.2.2.2.2.2.1 k hk2]
    exact congrArg nI (Nat.zero_add _)
def wyN (K p q k : Int32) : Nat := (rws (SA K) 30 k.toInt.toNat (shL p q)).length
theorem wy_e {K p q : Int32} {n : Nat} (h : n + 1 ≤ 5) : wyN K p q (nI (n + 1)) = (rws (SA K) 30 (n + 1) (shL p q)).length := by
  unfold wyN
  rw [nI_toInt (by omega)]; rfl
theorem cx_ways {d : Nat} {p q k : Int32} (hR : RI R) : AM (d + 12) 129 112 [.ref 1, .int p, .int q, .int k] I J R (fun x _ _ _ _ => Cs (sh p q ∧ rz k) (nI (wyN (I (R 1 7) 2) p q k)) x) := by
  have hO := hR.now.1
  refine w_X11_ways (px_isShare (fun hs _ => ⟨fun z => absurd z (by decide), fun _ => px_isRowSize (fun hz _ => ⟨fun _ => ⟨hR.now.2, bif_t hO (px_crumbs hs (fun y hy => ?_))⟩, fun z => absurd z (by decide)⟩) (fun hz _ => ⟨fun z => absurd rfl z, fun _ => w_X11_refuse (Or.inr ⟨fun y => hz y.2, rfl⟩)⟩)⟩) (fun hs _ => ⟨fun _ => w_X11_refuse (Or.inr ⟨fun y => hs y.1, rfl⟩), fun z => absurd rfl z⟩))
  have hb := shL_b hs
  obtain ⟨n, ek, h5⟩ := rz_n hz
  subst ek
  rw [wy_e h5]
  exact px_countAll h5 hy (by omega) (fun I2 e6 _ c => w_X11_answer (Or.inl ⟨⟨hs, hz⟩, e6⟩))
theorem cx_oddsThat {d : Nat} {p q k v : Int32} (hB : Bd I) (hR : RI R) : AM (d + 16) 130 112 [.ref 1, .int p, .int q, .int k, .int v] I J R (fun x _ _ _ _ => Cb (slQ v ∧ sh p q ∧ rz k ∧ ¬ wyN (I (R 1 7) 2) p q k = 0) x) := by
  have hO := hR.now.1
  refine w_X11_oddsThat (px_cSlQ (fun hv _ => ⟨fun _ => px_isShare (fun hs _ => ⟨fun z => absurd z (by decide), fun _ => px_isRowSize (fun hz _ => ⟨fun _ => ⟨hR.now.2, bif_t hO (px_crumbs hs (fun y hy => ?_))⟩, fun z => absurd z (by decide)⟩) (fun hz _ => ⟨fun z => absurd rfl z, fun _ => w_X11_deny ⟨Or.inl rfl, fun _ => ⟨Or.inl rfl, Or.inr ⟨rfl, fun y => hz y.2.2.1⟩⟩⟩⟩)⟩) (fun hs _ => ⟨fun _ => w_X11_deny ⟨Or.inl rfl, fun _ => ⟨Or.inl rfl, Or.inr ⟨rfl, fun y => hs y.2.1⟩⟩⟩, fun z => absurd rfl z⟩), fun z => absurd z (by decide)⟩) (fun hv _ => ⟨fun z => absurd rfl z, fun _ => w_X11_deny ⟨Or.inl rfl, fun _ => ⟨Or.inl rfl, Or.inr ⟨rfl, fun y => hv y.1⟩⟩⟩⟩))
  have hb := shL_b hs
  obtain ⟨n, ek, h5⟩ := rz_n hz
  subst ek
  rw [wy_e h5]
  have hlen : (rws (SA (I (R 1 7) 2)) 30 (n + 1) (shL p q)).length ≤ 2 ^ 30 := rws_len 30 (n + 1) _
  have h31 : (2 : Nat) ^ 30 < 2 ^ 31 := by decide
  refine kx (px_countAll (A := I (R 1 7) 2) (Q := fun _ _ I2 _ _ => I2 35 6 = nI (rws (SA (I (R 1 7) 2)) 30 (n + 1) (shL p q)).length) h5 hy (by omega) (fun I2 e6 _ _ => e6)) (sp_X7_countAll hB hR (by rw [nI_toInt (by omega)]; omega) (fun x y I2 J2 hB2 _ e6 => ⟨fun c => ⟨?_, ?_⟩, fun c => ?_⟩))
  · obtain ⟨v1, v2⟩ := hv
    rw [le_i] at v1 v2
    have e1 : (1 : Int32).toInt = 1 := rfl
    have e30 : (30 : Int32).toInt = 30 := rfl
    exact vp_of (a := v.toInt) rfl (by omega) (by omega)
  · exact sp_X11_tell hB2 hR (fun x3 y3 I3 J3 _ p3 o => ⟨o, Or.inl ⟨x_one p3, hv, hs, hz, fun z => c (by rw [e6, z]; rfl)⟩⟩)
  · rw [e6] at c
    have z := (nI_z9 (by omega)).mp c
    exact w_X11_deny ⟨Or.inl rfl, fun _ => ⟨Or.inl rfl, Or.inr ⟨rfl, fun y => y.2.2.2 z⟩⟩⟩
/-! the reference's -/
theorem mx_fewest {d : Nat} {p q : Int32} (hB : Bd I) : AM (d + 12) 275 112 [.ref 97, .int p, .int q] I J R (fun x _ _ _ _ => Cs (sh p q) (lnO (fwC (SA (I 102 3)) (shL p q))) x) := by
  have e102 : uI (uI I 97 1 0) 97 0 0 102 = I 102 := (uI_ne (by decide)).trans (uI_ne (by decide))
  have t3 : Int32.toNatClampNeg 3 = 3 := rfl
  refine w_X12_fewest (px_mShare (fun hs _ => ⟨fun z => absurd z (by decide), fun _ => px_shareOf hs (fun y hy => ⟨vp_of (a := 3) rfl (by decide) (by decide), ?_⟩)⟩) (fun hs _ => ⟨fun _ => w_X12_refuse (Or.inr ⟨hs, rfl⟩), fun z => absurd rfl z⟩))
  have hb := shL_b hs
  rw [t3, e102]
  refine px_fewestOf (t := 1) (Bd.known0 hB) hy (by omega) (by decide) (fun I4 _ _ => ?_)
  rw [fwC_pos hb.1]
  refine w_X12_answer ⟨fun _ => Or.inl ⟨hs, rfl⟩, fun c => w_X12_refuse (Or.inl ⟨hs, ?_⟩)⟩
  cases o : fwR (SA (I 102 3)) (shL p q) 5 1 with
  | none => rfl
  | some r =>
    have hl := fwR_m 5 1 o
    have c2 : ¬ (0 : Int32) ≤ lnO (fwR (SA (I 102 3)) (shL p q) 5 1) := c
    rw [o] at c2
    exact absurd ((nle_nI (a := 0) (b := r.length) (by omega) (by omega)).mpr (Nat.zero_le _)) c2
theorem mx_fewestAt {d : Nat} {p q k : Int32} (hB : Bd I) : AM (d + 12) 276 112 [.ref 97, .int p, .int q, .int k] I J R (fun x _ _ _ _ => Cs (sh p q) (atO k (fwC (SA (I 102 3)) (shL p q))) x) := by
  have e102 : uI (uI I 97 1 0) 97 0 0 102 = I 102 := (uI_ne (by decide)).trans (uI_ne (by decide))
  have t3 : Int32.toNatClampNeg 3 = 3 := rfl
  refine w_X12_fewestAt (px_mShare (fun hs _ => ⟨fun _ => px_shareOf hs (fun y hy => ⟨vp_of (a := 3) rfl (by decide) (by decide), ?_⟩), fun z => absurd z (by decide)⟩) (fun hs _ => ⟨fun z => absurd rfl z, fun _ => w_X12_refuse (Or.inr ⟨hs, rfl⟩)⟩))
  have hb := shL_b hs
  rw [t3, e102]
  refine px_fewestOf (t := 1) (Bd.known0 hB) hy (by omega) (by decide) (fun I4 h _ => ?_)
  rw [fwC_pos hb.1]
  have z0 : (0 : Int32).toInt = 0 := rfl
  cases o : fwR (SA (I 102 3)) (shL p q) 5 1 with
  | none =>
    refine px_isInI (lo := 0) (hi := lnO none - 1) (fun l1 l2 _ => ?_) (fun _ _ => ⟨fun _ => w_X12_refuse (Or.inl ⟨hs, rfl⟩), fun z => absurd rfl z⟩)
    rw [le_i] at l1 l2
    have : (lnO none - 1 : Int32).toInt = -2 := rfl
    omega
  | some r =>
    have hl := fwR_m 5 1 o
    have e1 : (lnO (some r) - 1 : Int32).toInt = (r.length : Int) - 1 := ti_sub (nI_toInt (by omega)) (show (1 : Int32).toInt = 1 from rfl) (by omega)
    refine px_isInI (lo := 0) (hi := lnO (some r) - 1) (fun l1 l2 _ => ⟨fun z => absurd z (by decide), fun _ => ?_⟩) (fun n1 _ => ⟨fun _ => w_X12_refuse (Or.inl ⟨hs, ?_⟩), fun z => absurd rfl z⟩)
    · rw [le_i] at l1 l2
      have hk : 0 ≤ k.toInt ∧ k.toInt < r.length := by omega
      have hi : k.toNatClampNeg < r.length := by
        show k.toInt.toNat < r.length
        omega
      refine ⟨vp_of (a := k.toInt) rfl hk.1 (by omega), Or.inl ⟨hs, ?_⟩⟩
      rw [h r o _ hi, atO_y hk]
    · rw [atO_n]
      intro hk
      rcases n1 with n1 | n1
      · rw [Int32.lt_iff_toInt_lt] at n1; omega
      · rw [le_i] at n1; omega
theorem mx_ways {d : Nat} {p q k : Int32} (hB : Bd I) : AM (d + 12) 277 112 [.ref 97, .int p, .int q, .int k] I J R (fun x _ _ _ _ => Cs (sh p q ∧ rz k) (nI (wyN (I 102 3) p q k)) x) := by
  have e102 : uI (uI I 97 1 0) 97 0 0 102 = I 102 := (uI_ne (by decide)).trans (uI_ne (by decide))
  have t3 : Int32.toNatClampNeg 3 = 3 := rfl
  refine w_X12_ways (px_mShare (fun hs _ => ⟨fun z => absurd z (by decide), fun _ => px_isInI (lo := 1) (hi := 5) (fun l1 l2 _ => ⟨fun _ => px_shareOf hs (fun y hy => ⟨vp_of (a := 3) rfl (by decide) (by decide), ?_⟩), fun z => absurd z (by decide)⟩) (fun n1 _ => ⟨fun z => absurd rfl z, fun _ => w_X12_refuse (Or.inr ⟨fun y => n1.elim (fun a => ile.mpr y.2.1 a) (fun a => a y.2.2), rfl⟩)⟩)⟩) (fun hs _ => ⟨fun _ => w_X12_refuse (Or.inr ⟨fun y => hs y.1, rfl⟩), fun z => absurd rfl z⟩))
  have hb := shL_b hs
  obtain ⟨n, ek, h5⟩ := rz_n (k := k) ⟨l1, l2⟩
  subst ek
  rw [t3, e102, wy_e h5]
  have e11 : d + 11 = (d + (7 - n)) + (n + 1) + 3 := by omega
  rw [e11]
  refine px_laysRows (b := 31) (Bd.known0 hB) (by decide) h5 hy (by omega) (fun I2 a _ _ => Or.inl ⟨⟨hs, l1, l2⟩, ?_⟩)
  rw [a.1, rfRun_n, rws_SB]
  exact congrArg nI (Nat.zero_add _)
theorem mx_oddsThat {d : Nat} {p q k v : Int32} (hB : Bd I) (hR : RI R) : AM (d + 13) 278 112 [.ref 97, .int p, .int q, .int k, .int v] I J R (fun x _ _ _ _ => Cb (slQ v ∧ sh p q ∧ rz k ∧ ¬ wyN (I 102 3) p q k = 0) x) := by
  have e102 : uI (uI I 97 1 0) 97 0 0 102 = I 102 := (uI_ne (by decide)).trans (uI_ne (by decide))
  have t3 : Int32.toNatClampNeg 3 = 3 := rfl
  have hB1 : Bd (uI I 97 1 0) := Bd.o0 hB (show isO 112 97 12 = true from rfl) (by omega) (show bnd 12 1 = none from rfl)
  have hB2 : Bd (uI (uI I 97 1 0) 97 0 0) := Bd.o0 hB1 (show isO 112 97 12 = true from rfl) (by omega) (show bnd 12 0 = none from rfl)
  refine w_X12_oddsThat (px_mSlQ (fun hv _ => ⟨fun _ => px_mShare (fun hs _ => ⟨fun z => absurd z (by decide), fun _ => px_isInI (lo := 1) (hi := 5) (fun l1 l2 _ => ⟨fun _ => px_shareOf hs (fun y hy => ⟨vp_of (a := 3) rfl (by decide) (by decide), ?_⟩), fun z => absurd z (by decide)⟩) (fun n1 _ => ⟨fun z => absurd rfl z, fun _ => w_X12_no ⟨Or.inl rfl, fun _ => ⟨Or.inl rfl, Or.inr ⟨rfl, fun y => n1.elim (fun a => ile.mpr y.2.2.1.1 a) (fun a => a y.2.2.1.2)⟩⟩⟩⟩)⟩) (fun hs _ => ⟨fun _ => w_X12_no ⟨Or.inl rfl, fun _ => ⟨Or.inl rfl, Or.inr ⟨rfl, fun y => hs y.2.1⟩⟩⟩, fun z => absurd rfl z⟩), fun z => absurd z (by decide)⟩) (fun hv _ => ⟨fun z => absurd rfl z, fun _ => w_X12_no ⟨Or.inl rfl, fun _ => ⟨Or.inl rfl, Or.inr ⟨rfl, fun y => hv y.1⟩⟩⟩⟩))
  have hb := shL_b hs
  have hz : rz k := ⟨l1, l2⟩
  obtain ⟨n, ek, h5⟩ := rz_n hz
  subst ek
  rw [t3, e102, wy_e h5]
  have hlen : (rws (SB (I 102 3) 31) 30 (n + 1) (shL p q)).length ≤ 2 ^ 30 := rws_len 30 (n + 1) _
  have h31 : (2 : Nat) ^ 30 < 2 ^ 31 := by decide
  have px : AM (d + 12) 272 112 [.ref 97, .int (nI (n + 1)), .int 31, .long y, .int (I 102 3)] (uI (uI I 97 1 0) 97 0 0) J R (fun x _ I2 _ _ => x = bl (!(rws (SB (I 102 3) 31) 30 (n + 1) (shL p q)).isEmpty) ∧ I2 97 31 = nI (rws (SB (I 102 3) 31) 30 (n + 1) (shL p q)).length) := by
    have e12 : d + 12 = (d + (8 - n)) + (n + 1) + 3 := by omega
    rw [e12]
    refine px_laysRows (b := 31) (Bd.known0 hB) (by decide) h5 hy (by omega) (fun I2 a _ => ⟨rfl, ?_⟩)
    rw [a.1, rfRun_n]
    exact congrArg nI (Nat.zero_add _)
  rw [← rws_SB]
  refine kx px (sp_X12_laysRows hB2 hR (by rw [nI_toInt (by omega)]; omega) (by decide) (fun x y2 I2 J2 hB3 _ hx _ => ?_))
  obtain ⟨hx1, hx2⟩ := hx
  cases o : rws (SB (I 102 3) 31) 30 (n + 1) (shL p q) with
  | nil =>
    rw [o] at hx1
    exact ⟨fun _ => w_X12_no ⟨Or.inl rfl, fun _ => ⟨Or.inl rfl, Or.inr ⟨rfl, fun y => y.2.2.2 rfl⟩⟩⟩, fun z => absurd hx1 z⟩
  | cons r rs =>
    rw [o] at hx1 hx2 hlen
    refine ⟨fun z => absurd (show (0 : Int32) = 1 from z.symm.trans hx1) (by decide), fun _ => ⟨?_, sp_X12_fraction hB3 hR ?_ (fun x4 y4 I4 J4 _ p4 o4 => ⟨o4, Or.inl ⟨x_one p4, hv, hs, hz, fun z => by cases z⟩⟩)⟩⟩
    · obtain ⟨v1, v2⟩ := hv
      rw [le_i] at v1 v2
      have e1 : (1 : Int32).toInt = 1 := rfl
      have e30 : (30 : Int32).toInt = 30 := rfl
      exact vp_of (a := v.toInt) rfl (by omega) (by omega)
    · intro z
      have h2 : (Int32.toInt64 (I2 97 31)).toInt = (((r :: rs).length : Nat) : Int) := tl_i2l (by rw [hx2]; exact nI_toInt (by omega))
      rw [z, List.length_cons] at h2
      have : (0 : Int64).toInt = 0 := rfl
      omega
end RWT
/-! both -/
theorem FwX_both {K K2 p q x x2 : Int32} (e : K2 = K) (h : Cs (sh p q) (lnO (fwC (SA K) (shL p q))) x) (h2 : Cs (sh p q) (lnO (fwC (SA K2) (shL p q))) x2) : x2 = x := by
  rw [e] at h2; exact h.eq h2
theorem FaX_both {K K2 p q k x x2 : Int32} (e : K2 = K) (h : Cs (sh p q) (atO k (fwC (SA K) (shL p q))) x) (h2 : Cs (sh p q) (atO k (fwC (SA K2) (shL p q))) x2) : x2 = x := by
  rw [e] at h2; exact h.eq h2
theorem WyX_both {K K2 p q k x x2 : Int32} (e : K2 = K) (h : Cs (sh p q ∧ rz k) (nI (wyN K p q k)) x) (h2 : Cs (sh p q ∧ rz k) (nI (wyN K2 p q k)) x2) : x2 = x := by
  rw [e] at h2; exact h.eq h2
theorem OdX_both {K K2 p q k v x x2 : Int32} (e : K2 = K) (h : Cb (slQ v ∧ sh p q ∧ rz k ∧ ¬ wyN K p q k = 0) x) (h2 : Cb (slQ v ∧ sh p q ∧ rz k ∧ ¬ wyN K2 p q k = 0) x2) : x2 = x := by
  rw [e] at h2; exact h.eq h2
