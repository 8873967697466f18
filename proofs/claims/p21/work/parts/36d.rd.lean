/-! ===== the scribe reads a bakery ===== -/
theorem aL_4096 (a : Nat) : aL a ≤ 4096 := aL_le a
theorem px_fill {d : Nat} {Q : Qt} {v0 : Nat} {v1 : Int32} {I : Im} {J : Jm} {R : Rm} (ha : isA 112 v0 0 = true) (hQ : ∀ (I2 : Im), (∀ i, i ≠ v0 → I2 i = I i) → (∀ k, I2 v0 k = if k < aL v0 then v1 else I v0 k) → Q 0 0 I2 J R) : AM (d + 1) 321 112 [.ref v0, .int v1] I J R Q := by
  refine am_J7_fill_53178 (fun P hc => ?_)
  have hle := aL_4096 v0
  have L : ∀ n i : Nat, ∀ I1 : Im, aL v0 - i < n → i ≤ aL v0 → (∀ i, i ≠ v0 → I1 i = I i) → (∀ k, I1 v0 k = if k < i then v1 else I v0 k) → P 5 112 [(0, .ref v0), (1, .int v1), (2, .int (nI i)), (3, .int (Int32.ofNat (aL v0)))] [] I1 J R := by
    intro n
    induction n with
    | zero => intro i I1 h; omega
    | succ n ih =>
      intro i I1 hm hi hI hk
      have hiI : (nI i).toInt = i := nI_toInt (by omega)
      refine sg_J7_fill_53178_5 hc _ _ _ _ _ _ _ ⟨fun c => ?_, fun c => ?_⟩
      · have d1 := ci_le (ofNat_ti hle) hiI c
        obtain rfl : i = aL v0 := by omega
        exact hQ _ hI hk
      · have d1 := ci_nle (ofNat_ti hle) hiI c
        refine bif_t ha ⟨vp_of hiI (by omega) (by omega), ?_⟩
        rw [nI_k1, tn_nI (by omega)]
        refine ih (i + 1) _ (by omega) (by omega) (fun j hj => by rw [uI_ne hj]; exact hI j hj) (fun k => ?_)
        by_cases q : k = i
        · subst q; rw [rd_eq, if_pos (by omega)]
        · rw [rd_k q, hk k]
          by_cases q2 : k < i
          · rw [if_pos q2, if_pos (by omega)]
          · rw [if_neg q2, if_neg (by omega)]
  refine sg_J7_fill_53178_0 hc _ _ _ _ _ ?_
  refine bif_tF ha ?_
  exact L (aL v0 + 1) 0 _ (by omega) (by omega) (fun _ _ => rfl) (fun k => by rw [if_neg (by omega)])
/-- a bakery's object holds what a block tells -/
noncomputable def BkC (C : Nat → Int32) (N : Nat → Int64) (o : Nat) (I : Im) (J : Jm) : Prop := I o 4 = C 0 ∧ I o 1 = C 1 ∧ I o 3 = C 2 ∧ I o 2 = C 3 ∧ (∀ d, 1 ≤ d → d ≤ 30 → I (o + 1) d = C (3 + d)) ∧ ∀ k, k < mnN C → J (o + 2) k = N k ∧ I (o + 3) k = C (34 + k) ∧ I (o + 4) k = C (40 + k) ∧ I (o + 5) k = C (46 + k)
noncomputable def BkS (B : BS) (o : Nat) (I : Im) (J : Jm) : Prop := BkC B.1 B.2.1 o I J ∧ I 6 0 = B.2.2.1 ∧ I 6 1 = B.2.2.2.1 ∧ I 6 2 = B.2.2.2.2
theorem BkC.cp {C : Nat → Int32} {N : Nat → Int64} {o : Nat} {I I2 : Im} {J J2 : Jm} (h : BkC C N o I J) (hI : ∀ c, o ≤ c → c ≤ o + 5 → I2 c = I c) (hJ : J2 (o + 2) = J (o + 2)) : BkC C N o I2 J2 := by
  unfold BkC at h ⊢
  rw [hI o (by omega) (by omega), hI (o + 1) (by omega) (by omega), hI (o + 3) (by omega) (by omega), hI (o + 4) (by omega) (by omega), hI (o + 5) (by omega) (by omega), hJ]
  exact h
section BKC
variable {C : Nat → Int32} {N : Nat → Int64} {o : Nat} {I : Im} {J : Jm} {v : Int32}
theorem BkC.odds (h : BkC C N o I J) : BkC (upd C 1 v) N o (uI I o 1 v) J := by
  obtain ⟨b1, b2, b3, b4, b5, b6⟩ := h
  refine ⟨?_, ?_, ?_, ?_, fun d h1 h2 => ?_, fun k hk => ?_⟩
  · rw [rd_k (by decide), upd_i (by decide)]; exact b1
  · rw [rd_eq, upd_s]
  · rw [rd_k (by decide), upd_i (by decide)]; exact b3
  · rw [rd_k (by decide), upd_i (by decide)]; exact b4
  · rw [rd_ne (by omega), upd_i (by omega)]; exact b5 d h1 h2
  · rw [mnN_u (by decide)] at hk
    rw [rd_ne (by omega), rd_ne (by omega), rd_ne (by omega), upd_i (by omega), upd_i (by omega), upd_i (by omega)]
    exact b6 k hk
theorem BkC.cuts (h : BkC C N o I J) : BkC (upd C 2 v) N o (uI I o 3 v) J := by
  obtain ⟨b1, b2, b3, b4, b5, b6⟩ := h
  refine ⟨?_, ?_, ?_, ?_, fun d h1 h2 => ?_, fun k hk => ?_⟩
  · rw [rd_k (by decide), upd_i (by decide)]; exact b1
  · rw [rd_k (by decide), upd_i (by decide)]; exact b2
  · rw [rd_eq, upd_s]
  · rw [rd_k (by decide), upd_i (by decide)]; exact b4
  · rw [rd_ne (by omega), upd_i (by omega)]; exact b5 d h1 h2
  · rw [mnN_u (by decide)] at hk
    rw [rd_ne (by omega), rd_ne (by omega), rd_ne (by omega), upd_i (by omega), upd_i (by omega), upd_i (by omega)]
    exact b6 k hk
theorem BkC.known (h : BkC C N o I J) : BkC (upd C 3 v) N o (uI I o 2 v) J := by
  obtain ⟨b1, b2, b3, b4, b5, b6⟩ := h
  refine ⟨?_, ?_, ?_, ?_, fun d h1 h2 => ?_, fun k hk => ?_⟩
  · rw [rd_k (by decide), upd_i (by decide)]; exact b1
  · rw [rd_k (by decide), upd_i (by decide)]; exact b2
  · rw [rd_k (by decide), upd_i (by decide)]; exact b3
  · rw [rd_eq, upd_s]
  · rw [rd_ne (by omega), upd_i (by omega)]; exact b5 d h1 h2
  · rw [mnN_u (by decide)] at hk
    rw [rd_ne (by omega), rd_ne (by omega), rd_ne (by omega), upd_i (by omega), upd_i (by omega), upd_i (by omega)]
    exact b6 k hk
theorem BkC.store {d : Nat} (h : BkC C N o I J) (h1 : 1 ≤ d) (h30 : d ≤ 30) : BkC (upd C (3 + d) v) N o (uI I (o + 1) d v) J := by
  obtain ⟨b1, b2, b3, b4, b5, b6⟩ := h
  refine ⟨?_, ?_, ?_, ?_, fun c h1 h2 => ?_, fun k hk => ?_⟩
  · rw [rd_ne (by omega), upd_i (by omega)]; exact b1
  · rw [rd_ne (by omega), upd_i (by omega)]; exact b2
  · rw [rd_ne (by omega), upd_i (by omega)]; exact b3
  · rw [rd_ne (by omega), upd_i (by omega)]; exact b4
  · by_cases q : c = d
    · subst q; rw [rd_eq, upd_s]
    · rw [rd_k q, upd_i (by omega)]; exact b5 c h1 h2
  · rw [mnN_u (by omega)] at hk
    rw [rd_ne (by omega), rd_ne (by omega), rd_ne (by omega), upd_i (by omega), upd_i (by omega), upd_i (by omega)]
    exact b6 k hk
theorem BkC.having {m : Nat} (h : BkC C N o I J) (hm : m ≤ 5) (h6 : mnN C ≤ 6) : BkC (upd C (46 + m) v) N o (uI I (o + 5) m v) J := by
  obtain ⟨b1, b2, b3, b4, b5, b6⟩ := h
  refine ⟨?_, ?_, ?_, ?_, fun c h1 h2 => ?_, fun k hk => ?_⟩
  · rw [rd_ne (by omega), upd_i (by omega)]; exact b1
  · rw [rd_ne (by omega), upd_i (by omega)]; exact b2
  · rw [rd_ne (by omega), upd_i (by omega)]; exact b3
  · rw [rd_ne (by omega), upd_i (by omega)]; exact b4
  · rw [rd_ne (by omega), upd_i (by omega)]; exact b5 c h1 h2
  · rw [mnN_u (by omega)] at hk
    obtain ⟨c1, c2, c3, c4⟩ := b6 k hk
    refine ⟨c1, ?_, ?_, ?_⟩
    · rw [rd_ne (by omega), upd_i (by omega)]; exact c2
    · rw [rd_ne (by omega), upd_i (by omega)]; exact c3
    · by_cases q : k = m
      · subst q; rw [rd_eq, upd_s]
      · rw [rd_k q, upd_i (by omega)]; exact c4
/-- a man more -/
theorem BkC.man {m : Nat} {w : Int64} {p q s : Int32} (h : BkC C N o I J) (hm : m ≤ 5) (e : C 0 = nI m) : BkC (upd (upd (upd (upd C (34 + m) p) (40 + m) q) (46 + m) s) 0 (nI m + 1)) (vp_updL N m w) o (uI (uI (uI (uI I (o + 3) m p) (o + 4) m q) (o + 5) m s) o 4 (nI m + 1)) (uJ J (o + 2) m w) := by
  have e2 : mnN C = m := mnN_of (by omega) e
  obtain ⟨b1, b2, b3, b4, b5, b6⟩ := h
  refine ⟨?_, ?_, ?_, ?_, fun c h1 h2 => ?_, fun k hk => ?_⟩
  · rw [rd_eq, upd_s]
  · rw [rd_k (by decide), rd_ne (by omega), rd_ne (by omega), rd_ne (by omega), upd_i (by omega), upd_i (by omega), upd_i (by omega), upd_i (by omega)]; exact b2
  · rw [rd_k (by decide), rd_ne (by omega), rd_ne (by omega), rd_ne (by omega), upd_i (by omega), upd_i (by omega), upd_i (by omega), upd_i (by omega)]; exact b3
  · rw [rd_k (by decide), rd_ne (by omega), rd_ne (by omega), rd_ne (by omega), upd_i (by omega), upd_i (by omega), upd_i (by omega), upd_i (by omega)]; exact b4
  · rw [rd_ne (by omega), rd_ne (by omega), rd_ne (by omega), rd_ne (by omega), upd_i (by omega), upd_i (by omega), upd_i (by omega), upd_i (by omega)]; exact b5 c h1 h2
  · have hk2 : k < m + 1 := by
      have : mnN (upd (upd (upd (upd C (34 + m) p) (40 + m) q) (46 + m) s) 0 (nI m + 1)) = m + 1 := mnN_of (by omega) (by rw [upd_s, nI_k1])
      omega
    by_cases z : k = m
    · subst z
      refine ⟨by rw [rj_eq]; simp [vp_updL], ?_, ?_, ?_⟩
      · rw [rd_ne (by omega), rd_ne (by omega), rd_ne (by omega), rd_eq, upd_i (by omega), upd_i (by omega), upd_i (by omega), upd_s]
      · rw [rd_ne (by omega), rd_ne (by omega), rd_eq, upd_i (by omega), upd_i (by omega), upd_s]
      · rw [rd_ne (by omega), rd_eq, upd_i (by omega), upd_s]
    · obtain ⟨c1, c2, c3, c4⟩ := b6 k (by omega)
      refine ⟨by rw [rj_k z]; simp [vp_updL, z]; exact c1, ?_, ?_, ?_⟩
      · rw [rd_ne (by omega), rd_ne (by omega), rd_ne (by omega), rd_k z, upd_i (by omega), upd_i (by omega), upd_i (by omega), upd_i (by omega)]; exact c2
      · rw [rd_ne (by omega), rd_ne (by omega), rd_k z, rd_ne (by omega), upd_i (by omega), upd_i (by omega), upd_i (by omega), upd_i (by omega)]; exact c3
      · rw [rd_ne (by omega), rd_k z, rd_ne (by omega), rd_ne (by omega), upd_i (by omega), upd_i (by omega), upd_i (by omega), upd_i (by omega)]; exact c4
end BKC
noncomputable abbrev WB (o : Nat) : Nat → Nat → Prop := fun c k => (c = 3 ∧ k ∈ wsB) ∨ c = 6 ∨ (o ≤ c ∧ c ≤ o + 5)
noncomputable abbrev VB (o : Nat) : Nat → Nat → Prop := fun c k => (c = 3 ∧ k = 10) ∨ c = o + 2
noncomputable abbrev FrB (o : Nat) (I : Im) (J : Jm) (I2 : Im) (J2 : Jm) : Prop := FrW (WB o) (VB o) I J I2 J2
theorem FrW.rb {o : Nat} {I I2 : Im} {J J2 : Jm} (h : FrR I J I2 J2) : FrB o I J I2 J2 := h.up (fun _ _ q => Or.inl q) (fun _ _ q => Or.inl q)
theorem FrW.six {o : Nat} {I I2 : Im} {J J2 : Jm} (h : FrR I J I2 J2) (ho : ¬ o = 3) : I2 o = I o := h.c (WR.no ho)
theorem VR.no {o : Nat} (h : ¬ o = 3) : ∀ k, ¬ VR o k := fun _ q => h q.1
theorem BkS.r {B : BS} {o : Nat} {I I2 : Im} {J J2 : Jm} (h : BkS B o I J) (ho : 9 ≤ o) (hF : FrR I J I2 J2) : BkS B o I2 J2 := by
  obtain ⟨h1, h2⟩ := h
  refine ⟨h1.cp (fun c a b => hF.six (by omega)) (hF.cj (VR.no (by omega))), ?_⟩
  rw [hF.six (o := 6) (by decide)]
  exact h2
/-- a write into one of the bakery's own cells leaves the reader -/
theorem Rd.w_ {T : Nat → Int32} {e a c k : Nat} {I : Im} {J : Jm} {v : Int32} (h : Rd T e a I J) (hc : ¬ c = 3) (hc4 : ¬ c = 4) : Rd T e a (uI I c k v) J := h.o (uI_ne (fun q => hc q.symm)) (uI_ne (fun q => hc4 q.symm)) rfl rfl
theorem Ft.w_ {p : Nat × Nat} {c k : Nat} {I : Im} {v : Int32} (h : Ft p I) (hc : ¬ c = 3) : Ft p (uI I c k v) := by
  unfold Ft at h ⊢
  rw [uI_ne (fun q => hc q.symm)]
  exact h
/-- is a slice -/
theorem px_isSlice {d : Nat} {Q : Qt} {v0 : Int32} {I : Im} {J : Jm} {R : Rm} (hY : (1 : Int32) ≤ v0 → v0 ≤ 30 → Q 1 0 I J R) (hN : v0 < 1 ∨ 30 < v0 → Q 0 0 I J R) : AM (d + 1) 161 112 [.int v0] I J R Q := by
  refine w_X11_isSlice ⟨fun c => ⟨Or.inl rfl, hN (Or.inl c)⟩, fun c => ⟨fun c2 => ⟨Or.inl rfl, hN (Or.inr c2)⟩, fun c2 => ⟨Or.inr rfl, hY ?_ ?_⟩⟩⟩
  · rw [Int32.le_iff_toInt_le]; rw [Int32.lt_iff_toInt_lt] at c; omega
  · rw [Int32.le_iff_toInt_le]; rw [Int32.lt_iff_toInt_lt] at c2; omega
theorem px_isIn {d : Nat} {Q : Qt} {v0 v1 : Int32} {I : Im} {J : Jm} {R : Rm} (hY : inS v0 v1 = true → Q 1 0 I J R) (hN : inS v0 v1 = false → Q 0 0 I J R) : AM (d + 1) 166 112 [.int v0, .int v1] I J R Q := by
  refine w_X11_isIn ⟨fun c => ⟨Or.inl rfl, hN ?_⟩, fun c => ⟨Or.inr rfl, hY ?_⟩⟩
  · unfold inS; rw [Bool.not_eq_false', decide_eq_true_eq]; exact c
  · unfold inS; rw [Bool.not_eq_true', decide_eq_false_iff_not]; exact c
theorem sl_no {v : Int32} (h1 : (1 : Int32) ≤ v) (h2 : v ≤ 30) : ¬ (v < 1 ∨ 30 < v) := by
  rw [Int32.le_iff_toInt_le] at h1 h2
  rw [Int32.lt_iff_toInt_lt, Int32.lt_iff_toInt_lt]
  omega
theorem sl_yes : ¬ ((1 : Int32) ≤ -1) := by decide
theorem Ft.ne {p : Nat × Nat} {I : Im} (h : Ft p I) : ¬ I 3 12 = 0 := fun q => by
  rw [h.1] at q
  have := (nK (a := p.1) (b := 0) (by have := h.2.2.2; omega) (by omega)).mp q
  have := h.2.2.1
  omega
theorem rd_sl {d : Nat} {Q : Nat → Qt} {P : Kt} (hc : Cl (AM (d + 3)) true false 0 (fun _ => 0) 1 112 kX1_takeSlices Q P) {T : Nat → Int32} {e a0 : Nat} {I0 : Im} {J0 : Jm} {R : Rm} (hE : ∀ p x I2 J2, tkL T e 31 0 a0 = .error p → FrR I0 J0 I2 J2 → Ft p I2 → Q 112 x 0 I2 J2 R) (hK : ∀ s b I2 J2, tkL T e 31 0 a0 = .ok (s, b) → FrR I0 J0 I2 J2 → Rd T e b I2 J2 → Q 112 s 0 I2 J2 R) :
    ∀ (f i a : Nat) (set : Int32) (I : Im) (J : Jm), i + f = 31 → tkL T e 31 0 a0 = tkL T e f set a → FrR I0 J0 I J → Rd T e a I J → P 4 112 [(0, .ref 3), (1, .int set), (2, .int (nI i))] [] I J R := by
  have bad : ∀ p (v : Int32) (i : Nat) (I : Im) (J : Jm), tkL T e 31 0 a0 = .error p → FrR I0 J0 I J → Ft p I → P 4 112 [(0, .ref 3), (1, .int v), (2, .int (nI i))] [] I J R := fun p v i I J he hF hf =>
    sg_X1_takeSlices_4 hc _ _ _ _ _ ⟨fun _ => hE p v I J he hF hf, fun _ => ⟨fun _ => hE p v I J he hF hf, fun c => absurd c hf.ne⟩⟩
  intro f
  induction f with
  | zero =>
    intro i a set I J hi hv hF h
    refine sg_X1_takeSlices_4 hc _ _ _ _ _ ⟨fun _ => hK _ _ I J hv hF h, fun c => absurd ?_ c⟩
    rw [show i = 31 by omega]; decide
  | succ f ih =>
    intro i a set I J hi hv hF h
    refine sg_X1_takeSlices_4 hc _ _ _ _ _ ⟨fun c => absurd ((nlt_nI (a := 30) (by omega) (by omega)).mp c) (by omega), fun _ => ⟨fun c => absurd h.f c, fun _ => ⟨fun c => ?_, fun c => ?_⟩⟩⟩
    · have hk : ¬ tK (tok T e a) = 2 := fun q => c ((h.k_is (n := 2) (by omega)).mpr q)
      refine hK set a I J ?_ hF h
      rw [hv]; unfold tkL; rw [if_neg hk]
    · have hk : tK (tok T e a) = 2 := (h.k_is (n := 2) (by omega)).mp c
      have hv2 : tkL T e (f + 1) set a = rb (tkN T e 1 30 a) (fun v b => if inS set v = true then .error (5, tS (tok T e a)) else tkL T e f (set ||| biS v) b) := by
        conv => lhs; unfold tkL
        rw [if_pos hk]
      rw [hv2] at hv
      refine px_num h (fun p I2 J2 hp hF2 hf => ?_) (fun v b I2 J2 hp l1 l2 hF2 h2 h7 => ?_)
      · rw [rb_e hp] at hv
        refine px_isSlice (fun q => absurd q sl_yes) (fun _ _ => ⟨fun _ => ?_, fun q => absurd rfl q⟩)
        refine px_isSlice (fun q => absurd q sl_yes) (fun _ _ => ⟨fun _ => ?_, fun q => absurd rfl q⟩)
        rw [nI_k1]
        exact bad p _ _ _ _ hv (hF.tr hF2) hf
      · rw [rb_k hp] at hv
        refine px_isSlice (fun _ _ _ => ⟨fun q => absurd q (by decide), fun _ => ?_⟩) (fun q => absurd q (sl_no l1 l2))
        refine px_isIn (fun hi _ => ⟨fun q => absurd q (by decide), fun _ => ?_⟩) (fun hi _ => ⟨fun _ => ?_, fun q => absurd rfl q⟩)
        · rw [if_pos hi] at hv
          refine px_wt (k := 5) (by decide) h7 (fun I3 hF3 hf _ => ?_)
          rw [nI_k1]
          exact bad _ _ _ _ _ hv (hF.tr (hF2.tr hF3)) hf
        · rw [if_neg (by rw [hi]; decide)] at hv
          refine px_isSlice (fun _ _ _ => ⟨fun q => absurd q (by decide), fun _ => w_X11_bit ?_⟩) (fun q => absurd q (sl_no l1 l2))
          rw [nI_k1]
          exact ih (i + 1) b _ I2 J2 (by omega) hv (hF.tr hF2) h2
section RB
variable {T : Nat → Int32} {e a d o : Nat} {I : Im} {J : Jm} {R : Rm} {Q : Qt} {B : BS}
theorem px_slices (h : Rd T e a I J) (hE : ∀ p x I2 J2, tkL T e 31 0 a = .error p → FrR I J I2 J2 → Ft p I2 → Q x 0 I2 J2 R) (hK : ∀ s b I2 J2, tkL T e 31 0 a = .ok (s, b) → FrR I J I2 J2 → Rd T e b I2 J2 → Q s 0 I2 J2 R) : AM (d + 4) 26 112 [.ref 3] I J R Q :=
  am_X1_takeSlices (fun P hc => sg_X1_takeSlices_0 hc _ _ _ (rd_sl hc hE hK 31 0 a 0 I J rfl rfl FrW.rf h))
theorem px_rOdds (ho : 9 ≤ o) (hO : isO 112 o 0 = true) (h : Rd T e a I J) (hB : BkS B o I J) (hE : ∀ p I2 J2, prO T e B a = .error p → FrB o I J I2 J2 → Ft p I2 → Q 0 0 I2 J2 R) (hK : ∀ B2 b I2 J2, prO T e B a = .ok (B2, b) → FrB o I J I2 J2 → Rd T e b I2 J2 → BkS B2 o I2 J2 → Q 1 0 I2 J2 R) : AM (d + 5) 22 112 [.ref 6, .ref o, .ref 3] I J R Q := by
  refine w_X1_readOdds (px_any h (fun I1 J1 hF1 h1 h7 _ => ⟨fun c => ⟨Or.inr rfl, ?_⟩, fun c => ?_⟩))
  all_goals have hB1 := hB.r ho hF1
  · rw [hB1.2.1] at c
    have hv : prO T e B a = rb (tkN T e 0 16 (tB (tok T e a))) fun v b => rb (tkS T e b) fun _ b => .ok ((upd B.1 1 v, B.2.1, 1, B.2.2.2.1, B.2.2.2.2), b) := by
      unfold prO; rw [if_pos c]
    have hFw : FrB o I J (uI I1 6 0 1) J1 := hF1.rb.u (Or.inr (Or.inl rfl))
    have hBw : BkS (B.1, B.2.1, 1, B.2.2.2.1, B.2.2.2.2) o (uI I1 6 0 1) J1 := ⟨hB1.1.cp (fun c _ _ => uI_ne (by omega)) rfl, rd_eq, by rw [rd_k (by decide)]; exact hB1.2.2.1, by rw [rd_k (by decide)]; exact hB1.2.2.2⟩
    refine px_num (h1.w_ (by decide) (by decide)) (fun p I2 J2 hp hF2 hf => ?_) (fun v b I2 J2 hp l1 l2 hF2 h2 h72 => ?_)
    · refine bif_t hO (bif_t hO ⟨fun _ => ⟨Or.inl rfl, hE p _ _ (by rw [hv, rb_e hp]) ((hFw.tr hF2.rb).u (Or.inr (Or.inr ⟨Nat.le_refl _, by omega⟩))) (hf.w_ (by omega))⟩, fun q => absurd rd_eq q⟩)
    · have hn : ¬ v = -1 := fun q => by rw [q] at l1; exact absurd l1 (by decide)
      refine bif_t hO (bif_t hO ⟨fun q => absurd ((rd_eq (I := I2) (o := o) (j := 1) (v := v)).symm.trans q) hn, fun _ => ?_⟩)
      have hF3 : FrB o I J (uI I2 o 1 v) J2 := (hFw.tr hF2.rb).u (Or.inr (Or.inr ⟨Nat.le_refl _, by omega⟩))
      have hB3 := hBw.r ho hF2
      have hB4 : BkS (upd B.1 1 v, B.2.1, 1, B.2.2.2.1, B.2.2.2.2) o (uI I2 o 1 v) J2 := by
        obtain ⟨b1, b7⟩ := hB3
        exact ⟨b1.odds, by rw [uI_ne (a := o) (by omega)]; exact b7⟩
      refine px_semi (h2.w_ (by omega) (by omega)) (fun p I4 J4 hp4 hF4 hf _ => ⟨fun _ => ⟨Or.inl rfl, hE p _ _ (by rw [hv, rb_k hp, rb_e hp4]) (hF3.tr hF4.rb) hf⟩, fun q => absurd rfl q⟩) (fun b2 I4 J4 hp4 hF4 h4 _ => ⟨fun q => absurd q (by decide), fun _ => ⟨Or.inr rfl, hK _ _ _ _ (by rw [hv, rb_k hp, rb_k hp4]) (hF3.tr hF4.rb) h4 (hB4.r ho hF4)⟩⟩)
  · rw [hB1.2.1] at c
    refine px_wt (k := 5) (by decide) h7 (fun I2 hF2 hf _ => ⟨Or.inl rfl, hE _ _ _ ?_ (hF1.rb.tr hF2.rb) hf⟩)
    unfold prO; rw [if_neg c]
end RB
