section PT17x0
/-! ===== where a row that is told slips: the scribe's ===== -/
/-- the places and what fits there, in order -/
noncomputable def IsSL (g : Nat → Nat → Prop) : Nat → List (Nat × Nat) → Prop
  | 0, L => L = []
  | m + 1, L => ∃ L', IsSL g m L' ∧ ((∃ d, (1 ≤ d ∧ d ≤ 30) ∧ g m d ∧ L = L' ++ [(m, d)]) ∨ ((∀ d, 1 ≤ d → d ≤ 30 → ¬ g m d) ∧ L = L'))
theorem IsSL.un {g : Nat → Nat → Prop} {n : Nat} (hg : ∀ m d e, m < n → (1 ≤ d ∧ d ≤ 30) → (1 ≤ e ∧ e ≤ 30) → g m d → g m e → d = e) : ∀ m L L2, m ≤ n → IsSL g m L → IsSL g m L2 → L = L2 := by
  intro m
  induction m with
  | zero => intro L L2 _ h h2; exact Eq.trans h (Eq.symm h2)
  | succ m ih =>
    intro L L2 hm h h2
    obtain ⟨A, hA, h⟩ := h
    obtain ⟨B, hB, h2⟩ := h2
    have e := ih A B (by omega) hA hB
    subst e
    rcases h with ⟨d, d1, gd, eL⟩ | ⟨nd, eL⟩
    · rcases h2 with ⟨x, x1, gx, eL2⟩ | ⟨nx, eL2⟩
      · rw [eL, eL2, hg m d x (by omega) d1 x1 gd gx]
      · exact absurd gd (nx d d1.1 d1.2)
    · rcases h2 with ⟨x, x1, gx, eL2⟩ | ⟨nx, eL2⟩
      · exact absurd gx (nd x x1.1 x1.2)
      · rw [eL, eL2]
theorem IsSL.ex (g : Nat → Nat → Prop) : ∀ m, ∃ L, IsSL g m L := by
  intro m
  induction m with
  | zero => exact ⟨[], rfl⟩
  | succ m ih =>
    obtain ⟨A, hA⟩ := ih
    by_cases q : ∃ d, (1 ≤ d ∧ d ≤ 30) ∧ g m d
    · obtain ⟨d, d1, gd⟩ := q
      exact ⟨A ++ [(m, d)], A, hA, Or.inl ⟨d, d1, gd, rfl⟩⟩
    · exact ⟨A, A, hA, Or.inr ⟨fun d a b z => q ⟨d, ⟨a, b⟩, z⟩, rfl⟩⟩
theorem IsSL.len {g : Nat → Nat → Prop} : ∀ m L, IsSL g m L → L.length ≤ m := by
  intro m
  induction m with
  | zero => intro L h; rw [show L = [] from h]; exact Nat.le_refl _
  | succ m ih =>
    intro L h
    obtain ⟨A, hA, h⟩ := h
    have := ih A hA
    rcases h with ⟨d, -, -, eL⟩ | ⟨-, eL⟩
    · rw [eL, List.length_append]; show A.length + 1 ≤ m + 1; omega
    · rw [eL]; omega
theorem IsSL.cg {g g2 : Nat → Nat → Prop} {n : Nat} (hg : ∀ m d, m < n → (g m d ↔ g2 m d)) : ∀ m L, m ≤ n → IsSL g m L → IsSL g2 m L := by
  intro m
  induction m with
  | zero => intro L _ h; exact h
  | succ m ih =>
    intro L hm h
    obtain ⟨A, hA, h⟩ := h
    refine ⟨A, ih A (by omega) hA, ?_⟩
    rcases h with ⟨d, d1, gd, eL⟩ | ⟨nd, eL⟩
    · exact Or.inl ⟨d, d1, (hg m d (by omega)).mp gd, eL⟩
    · exact Or.inr ⟨fun d a b z => nd d a b ((hg m d (by omega)).mpr z), eL⟩
theorem IsSL.nil {g : Nat → Nat → Prop} : ∀ m, (∀ k d, k < m → 1 ≤ d → d ≤ 30 → ¬ g k d) → IsSL g m [] := by
  intro m
  induction m with
  | zero => intro _; rfl
  | succ m ih => intro h; exact ⟨[], ih (fun k d hk => h k d (by omega)), Or.inr ⟨fun d => h m d (by omega), rfl⟩⟩
/-- the slices told, by place -/
noncomputable def tlD (J : Jm) (o : Nat) (i : Nat) : Nat := (J o i).toInt.toNat
/-- what fits in a place and isn't there -/
noncomputable def gS9 (K : Int32) (D : Nat → Nat) (n : Nat) (l : Int) (p d : Nat) : Prop := RowP K (upD D p d) n l ∧ ¬ d = D p
theorem gS9_un {K : Int32} {D : Nat → Nat} {n : Nat} {l : Int} : ∀ m d e, m < n → (1 ≤ d ∧ d ≤ 30) → (1 ≤ e ∧ e ≤ 30) → gS9 K D n l m d → gS9 K D n l m e → d = e := fun m d e hm hd he h1 h2 => by
  have a := ((RowP_up hm).mp h1.1).2.2
  have b := ((RowP_up hm).mp h2.1).2.2
  exact pt_in hd.1 hd.2 he.1 he.2 (by omega)
/-- what may be told -/
noncomputable def okS9 (L : Nat → Int32) (X : Nat → Int64) (a n p q : Int32) : Prop := (tr9 a ∧ n.toInt ≤ (L (nn9 a)).toInt) ∧ (1 ≤ n.toInt ∧ n.toInt ≤ 8) ∧ sh p q ∧ ∀ i, i < nn9 n → 1 ≤ (X i).toInt ∧ (X i).toInt ≤ 30
noncomputable def SlX (ok : Prop) (K : Int32) (D : Nat → Nat) (n : Nat) (l : Int) (x : Int32) : Prop := (ok → ∃ L, IsSL (gS9 K D n l) n L ∧ x = nI L.length) ∧ (¬ ok → x = -1)
noncomputable def SaX (ok : Prop) (K : Int32) (D : Nat → Nat) (n : Nat) (l : Int) (k w : Int32) (x : Int32) : Prop := (ok → ∃ L, IsSL (gS9 K D n l) n L ∧ (((w = 0 ∨ w = 1) ∧ 0 ≤ k.toInt ∧ k.toInt < (L.length : Int)) → x = if w = 0 then nI (L.getD (nn9 k) (0, 0)).1 else nI (L.getD (nn9 k) (0, 0)).2) ∧ (¬ ((w = 0 ∨ w = 1) ∧ 0 ≤ k.toInt ∧ k.toInt < (L.length : Int)) → x = -1)) ∧ (¬ ok → x = -1)
theorem SlX.eq {ok : Prop} {K : Int32} {D : Nat → Nat} {n : Nat} {l : Int} {x x2 : Int32} (h : SlX ok K D n l x) (h2 : SlX ok K D n l x2) : x2 = x := by
  by_cases z : ok
  · obtain ⟨A, a1, a2⟩ := h.1 z
    obtain ⟨B, b1, b2⟩ := h2.1 z
    have e := IsSL.un gS9_un n A B (Nat.le_refl _) a1 b1
    rw [a2, b2, e]
  · rw [h.2 z, h2.2 z]
theorem SaX.eq {ok : Prop} {K : Int32} {D : Nat → Nat} {n : Nat} {l : Int} {k w x x2 : Int32} (h : SaX ok K D n l k w x) (h2 : SaX ok K D n l k w x2) : x2 = x := by
  by_cases z : ok
  · obtain ⟨A, a1, a2, a3⟩ := h.1 z
    obtain ⟨B, b1, b2, b3⟩ := h2.1 z
    have e := IsSL.un gS9_un n A B (Nat.le_refl _) a1 b1
    subst e
    by_cases y : (w = 0 ∨ w = 1) ∧ 0 ≤ k.toInt ∧ k.toInt < (A.length : Int)
    · rw [a2 y, b2 y]
    · rw [a3 y, b3 y]
  · rw [h.2 z, h2.2 z]
theorem il_of {x : Int64} {d : Nat} (h : x.toInt = (d : Int)) (hd : d ≤ 30) : Int64.toInt32 x = nI d := by
  have e : x = Int32.toInt64 (nI d) := Int64.toInt_inj.mp (by rw [h, tl_i2l (nI_toInt (by omega))])
  rw [e]
  exact Int32.toInt32_toInt64 _
theorem gd_l9 {L : List (Nat × Nat)} {x : Nat × Nat} {j : Nat} (h : j < L.length) : (L ++ [x]).getD j (0, 0) = L.getD j (0, 0) := by
  rw [List.getD_eq_getElem?_getD, List.getD_eq_getElem?_getD, List.getElem?_append_left h]
theorem gd_e9 {L : List (Nat × Nat)} {x : Nat × Nat} : (L ++ [x]).getD L.length (0, 0) = x := by
  rw [List.getD_eq_getElem?_getD, List.getElem?_append_right (Nat.le_refl _), Nat.sub_self]; rfl
section SLC
variable {I : Im} {J : Jm} {R : Rm} {Q : Qt}
theorem px_slipSt9 {d : Nat} {a n p q : Int32} (hB : Bd I) (hR : RI R) (hY : okS9 (trL9 I) (J (53 + 2 * nn9 a + 1)) a n p q → Q 0 0 I J R) (hN : ¬ okS9 (trL9 I) (J (53 + 2 * nn9 a + 1)) a n p q → ∀ x : Int32, ¬ x = 0 → Q x 0 I J R) : AM (d + 4) 159 112 [.ref 1, .int a, .int n, .int p, .int q] I J R Q := by
  have z1 : (1 : Int32).toInt = 1 := rfl
  have z8 : (8 : Int32).toInt = 8 := rfl
  have o1 : (1 : Int64).toInt = 1 := rfl
  have o30 : (30 : Int64).toInt = 30 := rfl
  refine am_X11_slipStatus (fun P hc => sg_X11_slipStatus_0 hc _ _ _ _ _ _ _ (w_X11_placesStatus (px_tst9 hR (fun h hl => ⟨fun _ => ?_, fun z => absurd rfl z⟩) (fun h x hx => ⟨fun z => absurd z hx, fun _ => ⟨fun z => absurd z hx, fun _ => hN (fun y => h ⟨y.1.1, by have := y.1.2; have := y.2.1.1; omega⟩) x hx⟩⟩))))
  obtain ⟨v4, ⟨r0, rO⟩, rt⟩ := tr9_o hR h
  obtain ⟨a1, l1, -⟩ := fa_10_2 rO
  have hb := Bd.o hB rO bd9_10_1
  have eL : (I (R 2 (Int32.toNatClampNeg a)) 1).toInt = (trL9 I (nn9 a)).toInt := by rw [rt]; rfl
  refine ⟨v4, r0, bif_t rO ⟨fun c1 => ⟨fun _ => ⟨fun c => hN (fun z => ?_) 5 (by decide), fun c2 => ⟨fun c => hN (fun z => ?_) 5 (by decide), fun c3 => px_isShare (fun hs _ => ⟨fun _ => ?_, fun z => absurd z (by decide)⟩) (fun hs _ => ⟨fun z => absurd rfl z, fun _ => hN (fun z => hs z.2.2.1) 5 (by decide)⟩)⟩⟩, fun z => absurd rfl z⟩, fun c1 => ⟨fun z => absurd z (by decide), fun _ => hN (fun z => c1 ?_) 4 (by decide)⟩⟩⟩
  · rw [Int32.lt_iff_toInt_lt, z1] at c; have := z.2.1.1; omega
  · rw [Int32.lt_iff_toInt_lt, z8] at c; have := z.2.1.2; omega
  · rw [le_i, eL] at c1
    rw [Int32.lt_iff_toInt_lt, z1] at c2
    rw [Int32.lt_iff_toInt_lt, z8] at c3
    have nn : (nn9 n : Int) = n.toInt := by show (n.toInt.toNat : Int) = n.toInt; omega
    have en : n = nI (nn9 n) := Int32.toInt_inj.mp (by rw [nI_toInt (by omega)]; omega)
    have L : ∀ f, f ≤ nn9 n → (∀ i, i < nn9 n - f → 1 ≤ (J (53 + 2 * nn9 a + 1) i).toInt ∧ (J (53 + 2 * nn9 a + 1) i).toInt ≤ 30) → P 41 112 [(0, .ref 1), (1, .int a), (2, .int n), (6, .int (nI (nn9 n - f)))] [] I J R := by
      intro f
      induction f with
      | zero =>
        intro _ h1
        refine sg_X11_slipStatus_41 hc _ _ _ _ _ _ ⟨fun _ => hY ⟨⟨h, c1⟩, ⟨by omega, by omega⟩, hs, h1⟩, fun c => absurd ?_ c⟩
        rw [le_i, nI_toInt (show nn9 n - 0 < 2 ^ 31 by omega)]; omega
      | succ f ih =>
        intro hf h1
        have tn : (nI (nn9 n - (f + 1))).toInt = ((nn9 n - (f + 1) : Nat) : Int) := nI_toInt (by omega)
        refine sg_X11_slipStatus_41 hc _ _ _ _ _ _ ⟨fun c => ?_, fun _ => ⟨v4, r0, bif_t rO (bif_t a1 ⟨by rw [l1]; exact vp_nI (by omega) (by omega), ?_⟩)⟩⟩
        · rw [le_i, tn] at c; omega
        · rw [rt, tn_nI (by omega), show nI (nn9 n - (f + 1)) + 1 = nI (nn9 n - f) from by rw [nI_k1]; exact congrArg nI (by omega)]
          refine ⟨fun c => hN (fun z => ?_) 5 (by decide), fun ca => ⟨fun cb => ih (by omega) (fun i hi => ?_), fun c => hN (fun z => ?_) 5 (by decide)⟩⟩
          · rw [lg_cmp_lt] at c
            have := cl_lt rfl o1 c
            have := (z.2.2.2 (nn9 n - (f + 1)) (by omega)).1
            omega
          · by_cases y : i = nn9 n - (f + 1)
            · subst y
              rw [lg_cmp_lt] at ca
              rw [lg_cmp_le] at cb
              exact ⟨cl_nlt rfl o1 ca, cl_le rfl o30 cb⟩
            · exact h1 i (by omega)
          · rw [lg_cmp_le] at c
            have := cl_nle rfl o30 c
            have := (z.2.2.2 (nn9 n - (f + 1)) (by omega)).2
            omega
    have k := L (nn9 n) (Nat.le_refl _) (fun i hi => absurd hi (by omega))
    rw [Nat.sub_self] at k
    exact k
  · rw [le_i, eL]; exact z.1.2
theorem px_findAll9 {dd o n : Nat} {K : Int32} {v : Int64} {l : Int} (hO : isO 112 o 10 = true) (hn : n ≤ 8) (hK : 0 ≤ K.toInt) (hv : v.toInt = l) (hl : -1000000000000000 ≤ l ∧ l ≤ 1000000000000000) (hD : ∀ i, i < n → 1 ≤ (J (o + 1) i).toInt ∧ (J (o + 1) i).toInt ≤ 30) (hQ : ∀ L I2, IsSL (gS9 K (tlD J (o + 1)) n l) n L → I2 39 2 = nI L.length → (∀ j, j < L.length → I2 40 j = nI (L.getD j (0, 0)).1 ∧ I2 41 j = nI (L.getD j (0, 0)).2) → Q 0 0 I2 J R) : AM (dd + 3) 86 112 [.ref 39, .ref o, .int (nI n), .int K, .long v] I J R Q := by
  obtain ⟨a1, l1, -⟩ := fa_10_2 hO
  have hc9 : ∀ i, i < n → (J (o + 1) i).toInt = (tlD J (o + 1) i : Int) ∧ 1 ≤ tlD J (o + 1) i ∧ tlD J (o + 1) i ≤ 30 := fun i hi => by
    have := hD i hi
    have e : tlD J (o + 1) i = (J (o + 1) i).toInt.toNat := rfl
    exact ⟨by rw [e]; omega, by rw [e]; omega, by rw [e]; omega⟩
  have hcl : clD J (o + 1) n (tlD J (o + 1)) := fun i hi => ⟨il_of (hc9 i hi).1 (hc9 i hi).2.2, (hc9 i hi).2⟩
  refine am_X8_findAll (fun P hc => sg_X8_findAll_0 hc _ _ _ _ _ _ _ ?_)
  have L8 : ∀ (f : Nat) (L : List (Nat × Nat)) (M : Im), f ≤ n → IsSL (gS9 K (tlD J (o + 1)) n l) (n - f) L → M 39 2 = nI L.length → (∀ j, j < L.length → M 40 j = nI (L.getD j (0, 0)).1 ∧ M 41 j = nI (L.getD j (0, 0)).2) → P 8 112 [(0, .ref 39), (1, .ref o), (2, .int (nI n)), (3, .int K), (4, .long v), (6, .int (nI (n - f)))] [] M J R := by
    intro f
    induction f with
    | zero => intro L M _ h1 h2 h3; exact sg_X8_findAll_8 hc _ _ _ _ _ _ _ _ ⟨fun _ => hQ L M h1 h2 h3, fun c => absurd ((nle_nI (b := n - 0) (by omega) (by omega)).mpr (by omega)) c⟩
    | succ f ih =>
      intro L M hf h1 h2 h3
      have en : nI (n - (f + 1)) + 1 = nI (n - f) := by rw [nI_k1]; exact congrArg nI (by omega)
      have es : n - f = n - (f + 1) + 1 := by omega
      have hlen := h1.len
      have nxt : (∀ d, 1 ≤ d → d ≤ 30 → ¬ gS9 K (tlD J (o + 1)) n l (n - (f + 1)) d) → P 8 112 [(0, .ref 39), (1, .ref o), (2, .int (nI n)), (3, .int K), (4, .long v), (6, .int (nI (n - f)))] [] M J R := fun z =>
        ih L M (by omega) (by rw [es]; exact ⟨L, h1, Or.inr ⟨z, rfl⟩⟩) h2 h3
      refine sg_X8_findAll_8 hc _ _ _ _ _ _ _ _ ⟨fun c => absurd ((nle_nI (by omega) (by omega)).mp c) (by omega), fun _ => ⟨fun c => absurd ((nle_nI (a := 8) (by omega) (by omega)).mp c) (by omega), fun _ => px_fixAt9 hO hn (show n - (f + 1) < n by omega) hK hv hl hcl (fun d d1 d2 hr => ?_) (fun hr => ?_)⟩⟩
      · obtain ⟨c1, c2, c3⟩ := hc9 (n - (f + 1)) (by omega)
        rw [en]
        refine ⟨fun c => ?_, fun _ => bif_t hO (bif_t a1 ⟨by rw [l1]; exact vp_nI (by omega) (by omega), ?_⟩)⟩
        · have := congrArg Int32.toInt c
          rw [nI_toInt (by omega), show (-1 : Int32).toInt = -1 from rfl] at this
          omega
        · rw [tn_nI (by omega)]
          have ed : (Int32.toInt64 (nI d)).toInt = (d : Int) := tl_i2l (nI_toInt (by omega))
          refine ⟨fun c => nxt (fun x x1 x2 z => ?_), fun c => ?_⟩
          · rw [lg_cmp_eq] at c
            have e1 := cl_eq ed c1 c
            have a := ((RowP_up (show n - (f + 1) < n by omega)).mp z.1).2.2
            have b := ((RowP_up (show n - (f + 1) < n by omega)).mp hr).2.2
            have e2 : x = d := pt_in x1 x2 d1 d2 (by omega)
            exact z.2 (by omega)
          · rw [lg_cmp_eq] at c
            have e1 := cl_ne ed c1 c
            rw [h2]
            refine ⟨vp_nI (by omega) (by omega), by rw [rd_ne (by decide), h2]; exact vp_nI (by omega) (by omega), ?_⟩
            rw [tn_nI (by omega), rd_ne (by decide), h2, tn_nI (by omega)]
            refine ih (L ++ [(n - (f + 1), d)]) _ (by omega) (by rw [es]; exact ⟨L, h1, Or.inl ⟨d, ⟨d1, d2⟩, ⟨hr, fun z => e1 (by omega)⟩, rfl⟩⟩) ?_ (fun j hj => ?_)
            · rw [rd_eq, rd_ne (by decide), rd_ne (by decide), h2, nI_k1, List.length_append]; rfl
            · rw [List.length_append] at hj
              have hj2 : j < L.length + 1 := hj
              by_cases y : j = L.length
              · subst y
                rw [gd_e9, rd_ne (by decide), rd_ne (by decide), rd_eq, rd_ne (by decide), rd_eq]
                exact ⟨rfl, rfl⟩
              · rw [gd_l9 (by omega), rd_ne (by decide), rd_ne (by decide), rd_k y, rd_ne (by decide), rd_k y, rd_ne (by decide)]
                exact h3 j (by omega)
      · rw [en]
        exact ⟨fun _ => nxt (fun d d1 d2 z => hr d d1 d2 z.1), fun z => absurd rfl z⟩
  have k := L8 n [] (uI I 39 2 0) (Nat.le_refl _) (by rw [Nat.sub_self]; rfl) (show uI I 39 2 0 39 2 = 0 from rd_eq) (fun j hj => absurd hj (Nat.not_lt_zero _))
  rw [Nat.sub_self] at k
  exact k
theorem cx_slipAt9 {d : Nat} {a n p q k w : Int32} (hB : Bd I) (hR : RI R) (hK : 0 ≤ (I (R 1 7) 2).toInt) : AM (d + 5) 135 112 [.ref 1, .int a, .int n, .int p, .int q, .int k, .int w] I J R (fun x _ _ _ _ => SaX (okS9 (trL9 I) (J (53 + 2 * nn9 a + 1)) a n p q) (I (R 1 7) 2) (tlD J (53 + 2 * nn9 a + 1)) (nn9 n) (shL p q) k w x) := by
  have z0 : (0 : Int32).toInt = 0 := rfl
  refine am_X11_slipAt (fun P hc => ?_)
  have P40 : okS9 (trL9 I) (J (53 + 2 * nn9 a + 1)) a n p q → (w = 0 ∨ w = 1) → P 40 112 [(0, .ref 1), (1, .int a), (2, .int n), (3, .int p), (4, .int q), (5, .int k), (6, .int w)] [] I J R := fun hk hw => by
    obtain ⟨v4, ⟨r0, rO⟩, rt⟩ := tr9_o hR hk.1.1
    have nn : (nn9 n : Int) = n.toInt := by have := hk.2.1.1; show (n.toInt.toNat : Int) = n.toInt; omega
    have n8 := hk.2.1.2
    have en : n = nI (nn9 n) := Int32.toInt_inj.mp (by rw [nI_toInt (by omega)]; omega)
    have hb := shL_b hk.2.2.1
    refine sg_X11_slipAt_40 hc _ _ _ _ _ _ _ _ _ ⟨v4, r0, hR.now.2, bif_t hR.now.1 (px_crumbs hk.2.2.1 (fun y hy => ?_))⟩
    have key : AM (d + 4) 86 112 [.ref 39, .ref (R 2 (Int32.toNatClampNeg a)), .int (nI (nn9 n)), .int (I (R 1 7) 2), .long y] I J R (fun x2 y2 I2 J2 R2 => ((k < (0 : Int32) → (AM (d + 4) 149 112 [.ref 1, .int 8] I2 J2 R (fun x _ _ _ _ => SaX (okS9 (trL9 I) (J (53 + 2 * nn9 a + 1)) a n p q) (I (R 1 7) 2) (tlD J (53 + 2 * nn9 a + 1)) (nn9 n) (shL p q) k w x))) ∧ (¬ k < (0 : Int32) → ((k < (I2 39 2) → ((¬ w = (0 : Int32) → (vp_in k 8 ∧ (AM (d + 4) 151 112 [.ref 1, .int (I2 41 (Int32.toNatClampNeg k))] I2 J2 R (fun x _ _ _ _ => SaX (okS9 (trL9 I) (J (53 + 2 * nn9 a + 1)) a n p q) (I (R 1 7) 2) (tlD J (53 + 2 * nn9 a + 1)) (nn9 n) (shL p q) k w x)))) ∧ (w = (0 : Int32) → (vp_in k 8 ∧ (AM (d + 4) 151 112 [.ref 1, .int (I2 40 (Int32.toNatClampNeg k))] I2 J2 R (fun x _ _ _ _ => SaX (okS9 (trL9 I) (J (53 + 2 * nn9 a + 1)) a n p q) (I (R 1 7) 2) (tlD J (53 + 2 * nn9 a + 1)) (nn9 n) (shL p q) k w x)))))) ∧ (¬ k < (I2 39 2) → (AM (d + 4) 149 112 [.ref 1, .int 8] I2 J2 R (fun x _ _ _ _ => SaX (okS9 (trL9 I) (J (53 + 2 * nn9 a + 1)) a n p q) (I (R 1 7) 2) (tlD J (53 + 2 * nn9 a + 1)) (nn9 n) (shL p q) k w x))))))) := by
      refine px_findAll9 rO (by omega) hK hy (by omega) (fun i hi => by rw [rt]; exact hk.2.2.2 i hi) (fun L I2 g1 g2 g3 => ?_)
      rw [rt] at g1
      have hl := g1.len
      have tl : (nI L.length).toInt = (L.length : Int) := nI_toInt (by omega)
      have kk : Int32.toNatClampNeg k = nn9 k := rfl
      rw [g2]
      refine ⟨fun c => w_X11_refuse ⟨fun _ => ⟨L, g1, fun z => ?_, fun _ => rfl⟩, fun z => absurd hk z⟩, fun c => ⟨fun c2 => ?_, fun c2 => w_X11_refuse ⟨fun _ => ⟨L, g1, fun z => ?_, fun _ => rfl⟩, fun z => absurd hk z⟩⟩⟩
      · rw [Int32.lt_iff_toInt_lt, z0] at c; have := z.2.1; omega
      · rw [Int32.lt_iff_toInt_lt, z0] at c
        rw [Int32.lt_iff_toInt_lt, tl] at c2
        have nk : (nn9 k : Int) = k.toInt := by show (k.toInt.toNat : Int) = k.toInt; omega
        have g := g3 (nn9 k) (by omega)
        have vk : vp_in k 8 := vp_of (a := k.toInt) rfl (by omega) (by omega)
        rw [kk]
        refine ⟨fun w0 => ⟨vk, w_X11_answer ⟨fun _ => ⟨L, g1, fun _ => ?_, fun z => absurd ⟨hw, by omega, c2⟩ z⟩, fun z => absurd hk z⟩⟩, fun w0 => ⟨vk, w_X11_answer ⟨fun _ => ⟨L, g1, fun _ => ?_, fun z => absurd ⟨hw, by omega, c2⟩ z⟩, fun z => absurd hk z⟩⟩⟩
        · rw [if_neg w0]; exact g.2
        · rw [if_pos w0]; exact g.1
      · rw [Int32.lt_iff_toInt_lt, tl] at c2; exact absurd z.2.2 c2
    rw [← en] at key
    exact key
  refine sg_X11_slipAt_0 hc _ _ _ _ _ _ _ _ _ (px_slipSt9 hB hR (fun hk => ⟨fun _ => ⟨fun c => P40 hk (Or.inl c), fun c => ⟨fun c2 => P40 hk (Or.inr c2), fun c2 => w_X11_refuse ⟨fun _ => ?_, fun z => absurd hk z⟩⟩⟩, fun z => absurd rfl z⟩) (fun hk x hx => ⟨fun z => absurd z hx, fun _ => w_X11_refuse ⟨fun z => absurd z hk, fun _ => rfl⟩⟩))
  obtain ⟨L, hL⟩ := IsSL.ex (gS9 (I (R 1 7) 2) (tlD J (53 + 2 * nn9 a + 1)) (nn9 n) (shL p q)) (nn9 n)
  exact ⟨L, hL, fun z => absurd z.1 (fun y => y.elim c c2), fun _ => rfl⟩
end SLC
end PT17x0
section PT17x1
/-! ===== where a row that is told slips: the reference's ===== -/
theorem upD_id {D : Nat → Nat} {p : Nat} : upD D p (D p) = D := funext fun i => by
  unfold upD
  split
  · rename_i h; rw [h]
  · rfl
section SLR
variable {I : Im} {J : Jm} {R : Rm} {Q : Qt}
theorem px_why9 {d : Nat} {a n p q : Int32} (h60 : ∀ t, t < 4 → (I 99 t).toInt ≤ 60) (hY : okS9 (I 99) (fun i => J 100 (60 * nn9 a + i)) a n p q → Q 0 0 I J R) (hN : ¬ okS9 (I 99) (fun i => J 100 (60 * nn9 a + i)) a n p q → ∀ x : Int32, ¬ x ≤ 0 → Q x 0 I J R) : AM (d + 3) 283 112 [.ref 97, .int a, .int n, .int p, .int q] I J R Q := by
  have z0 : (0 : Int32).toInt = 0 := rfl
  have z1 : (1 : Int32).toInt = 1 := rfl
  have z3 : (3 : Int32).toInt = 3 := rfl
  have z8 : (8 : Int32).toInt = 8 := rfl
  have o1 : (1 : Int64).toInt = 1 := rfl
  have o30 : (30 : Int64).toInt = 30 := rfl
  refine am_X12_whyNoRow (fun P hc => sg_X12_whyNoRow_0 hc _ _ _ _ _ _ _ (w_X12_isTray (px_isInI (lo := 0) (hi := 3) (fun l1 l2 _ => ⟨Or.inr rfl, fun _ => ⟨fun _ => ?_, fun z => absurd z (by decide)⟩⟩) (fun m1 _ => ⟨Or.inl rfl, fun _ => ⟨fun z => absurd rfl z, fun _ => hN (fun z => ?_) 1 (by decide)⟩⟩))))
  · rw [le_i, z0] at l1
    rw [le_i, z3] at l2
    have ht : tr9 a := ⟨l1, l2⟩
    obtain ⟨n4, v4⟩ := tr9_n ht
    have l := h60 _ n4
    have e99 : I 99 (Int32.toNatClampNeg a) = I 99 (nn9 a) := rfl
    rw [e99]
    refine ⟨v4, fun c1 => ⟨v4, fun c2 => px_isInI (lo := 1) (hi := 8) (fun k1 k2 _ => ⟨fun z => absurd z (by decide), fun _ => px_mShare (fun hs _ => ⟨fun _ => ?_, fun z => absurd z (by decide)⟩) (fun hs _ => ⟨fun z => absurd rfl z, fun _ => hN (fun z => hs z.2.2.1) 5 (by decide)⟩)⟩) (fun m2 _ => ⟨fun _ => hN (fun z => ?_) 5 (by decide), fun z => absurd rfl z⟩), fun c2 => hN (fun z => c2 ?_) 4 (by decide)⟩, fun c1 => hN (fun z => c1 ?_) 3 (by decide)⟩
    · rw [le_i] at c2
      rw [le_i, z1] at k1
      rw [le_i, z8] at k2
      have nn : (nn9 n : Int) = n.toInt := by show (n.toInt.toNat : Int) = n.toInt; omega
      have L : ∀ f, f ≤ nn9 n → (∀ i, i < nn9 n - f → 1 ≤ (J 100 (60 * nn9 a + i)).toInt ∧ (J 100 (60 * nn9 a + i)).toInt ≤ 30) → P 59 112 [(0, .ref 97), (1, .int a), (2, .int n), (5, .int (nI (nn9 n - f)))] [] I J R := by
        intro f
        induction f with
        | zero =>
          intro _ h1
          refine sg_X12_whyNoRow_59 hc _ _ _ _ _ _ ⟨fun _ => hY ⟨⟨ht, c2⟩, ⟨k1, k2⟩, hs, h1⟩, fun c => absurd ?_ c⟩
          rw [le_i, nI_toInt (show nn9 n - 0 < 2 ^ 31 by omega)]; omega
        | succ f ih =>
          intro hf h1
          have tn : (nI (nn9 n - (f + 1))).toInt = ((nn9 n - (f + 1) : Nat) : Int) := nI_toInt (by omega)
          have t2 : nn9 (nI (nn9 n - (f + 1))) = nn9 n - (f + 1) := tn_nI (by omega)
          obtain ⟨ix, vx⟩ := ix60 (b := nI (nn9 n - (f + 1))) ht (by omega) (by omega)
          refine sg_X12_whyNoRow_59 hc _ _ _ _ _ _ ⟨fun c => ?_, fun _ => w_X12_numberOf ⟨vx, ?_⟩⟩
          · rw [le_i, tn] at c; omega
          · rw [ix, t2, show nI (nn9 n - (f + 1)) + 1 = nI (nn9 n - f) from by rw [nI_k1]; exact congrArg nI (by omega)]
            refine w_X12_isIn ⟨fun c => ⟨Or.inl rfl, fun _ => ⟨fun z => absurd rfl z, fun _ => hN (fun z => ?_) 5 (by decide)⟩⟩, fun ca => ⟨fun c => ⟨Or.inl rfl, fun _ => ⟨fun z => absurd rfl z, fun _ => hN (fun z => ?_) 5 (by decide)⟩⟩, fun cb => ⟨Or.inr rfl, fun _ => ⟨fun _ => ih (by omega) (fun i hi => ?_), fun z => absurd z (by decide)⟩⟩⟩⟩
            · rw [lg_cmp_lt] at c
              have := cl_lt rfl o1 c
              have : 1 ≤ (J 100 (60 * nn9 a + (nn9 n - (f + 1)))).toInt := (z.2.2.2 (nn9 n - (f + 1)) (by omega)).1
              omega
            · rw [lg_cmp_gt] at c
              have := cl_lt o30 rfl c
              have : (J 100 (60 * nn9 a + (nn9 n - (f + 1)))).toInt ≤ 30 := (z.2.2.2 (nn9 n - (f + 1)) (by omega)).2
              omega
            · by_cases y : i = nn9 n - (f + 1)
              · subst y
                rw [lg_cmp_lt] at ca
                rw [lg_cmp_gt] at cb
                exact ⟨cl_nlt rfl o1 ca, cl_nlt o30 rfl cb⟩
              · exact h1 i (by omega)
      have k := L (nn9 n) (Nat.le_refl _) (fun i hi => absurd hi (by omega))
      rw [Nat.sub_self] at k
      exact k
    · have := z.2.1.1
      have := z.2.1.2
      rcases m2 with m2 | m2
      · rw [Int32.lt_iff_toInt_lt, z1] at m2; omega
      · rw [le_i, z8] at m2; omega
    · rw [le_i]; exact z.1.2
    · rw [le_i, z0]
      have := z.1.2
      have := z.2.1.1
      omega
  · have := z.1.1.1
    have := z.1.1.2
    rcases m1 with m1 | m1
    · rw [Int32.lt_iff_toInt_lt, z0] at m1; omega
    · rw [le_i, z3] at m1; omega
/-- what is kept of the list as it grows -/
noncomputable def InS9 (I : Im) (k : Int32) (L : List (Nat × Nat)) (M : Im) : Prop := M 97 32 = nI L.length ∧ (∀ j : Nat, k = nI j → j < L.length → M 97 33 = nI (L.getD j (0, 0)).1 ∧ M 97 34 = nI (L.getD j (0, 0)).2) ∧ M 102 = I 102
theorem px_laysSl9 {dd n : Nat} {a k : Int32} {v : Int64} {l : Int} (ht : tr9 a) (hn : n ≤ 8) (hK : 0 ≤ (I 102 3).toInt) (hv : v.toInt = l) (hl : -1000000000000000 ≤ l ∧ l ≤ 1000000000000000) (hD : ∀ i, i < n → 1 ≤ (J 100 (60 * nn9 a + i)).toInt ∧ (J 100 (60 * nn9 a + i)).toInt ≤ 30) (hQ : ∀ L I2, IsSL (gS9 (I 102 3) (fun i => (J 100 (60 * nn9 a + i)).toInt.toNat) n l) n L → InS9 I k L I2 → Q 0 0 I2 J R) : AM (dd + 3) 285 112 [.ref 97, .int a, .int (nI n), .int k, .long v] I J R Q := by
  obtain ⟨D, hDe⟩ : ∃ D : Nat → Nat, D = fun i => (J 100 (60 * nn9 a + i)).toInt.toNat := ⟨_, rfl⟩
  rw [← hDe] at hQ
  have hc9 : ∀ i, i < n → Int64.toInt32 (J 100 (60 * nn9 a + i)) = nI (D i) ∧ 1 ≤ D i ∧ D i ≤ 30 := fun i hi => by
    have := hD i hi
    have e : D i = (J 100 (60 * nn9 a + i)).toInt.toNat := by rw [hDe]
    exact ⟨il_of (by rw [e]; omega) (by omega), by omega, by omega⟩
  refine am_X12_laysSlips (fun P hc => sg_X12_laysSlips_0 hc _ _ _ _ _ _ _ ?_)
  have e102 : uI I 97 32 0 102 = I 102 := uI_ne (by decide)
  have e3 : uI I 97 32 0 102 3 = I 102 3 := congrFun e102 3
  have nm : ∀ i : Nat, i < n → ¬ nI i = -1 := fun i hi z => by
    have := congrArg Int32.toInt z
    rw [nI_toInt (by omega), show (-1 : Int32).toInt = -1 from rfl] at this
    omega
  refine px_isRow9 (D := D) (E := D) ht hn (by rw [e3]; exact hK) hv hl (fun i hi => (hc9 i hi).1) (fun i hi => ⟨if_neg (nm i hi), (hc9 i hi).2⟩) (fun hr _ => ⟨fun z => absurd z (by decide), fun _ => ?_⟩) (fun hr _ => ⟨fun _ => ?_, fun z => absurd rfl z⟩)
  · rw [e3] at hr
    refine hQ [] _ (IsSL.nil n (fun p d hp d1 d2 z => ?_)) ⟨rd_eq, fun j _ hj => absurd hj (Nat.not_lt_zero _), e102⟩
    have hr2 : RowP (I 102 3) (upD D p (D p)) n l := by rw [upD_id]; exact hr
    have b1 := ((RowP_up hp).mp z.1).2.2
    have b2 := ((RowP_up hp).mp hr2).2.2
    exact z.2 (pt_in d1 d2 (hc9 p hp).2.1 (hc9 p hp).2.2 (by omega))
  · rw [e3] at hr
    have un := gS9_un (K := I 102 3) (D := D) (n := n) (l := l)
    have L22 : ∀ (f : Nat) (L : List (Nat × Nat)) (M : Im), f ≤ n → IsSL (gS9 (I 102 3) D n l) (n - f) L → InS9 I k L M → P 22 112 [(0, .ref 97), (1, .int a), (2, .int (nI n)), (3, .int k), (4, .long v), (6, .int (nI (n - f)))] [] M J R := by
      intro f
      induction f with
      | zero => intro L M _ h1 h2; exact sg_X12_laysSlips_22 hc _ _ _ _ _ _ _ _ ⟨fun _ => hQ L M h1 h2, fun c => absurd ((nle_nI (b := n - 0) (by omega) (by omega)).mpr (by omega)) c⟩
      | succ f ih =>
        intro L0 M hf h1 h2
        have en : nI (n - (f + 1)) + 1 = nI (n - f) := by rw [nI_k1]; exact congrArg nI (by omega)
        have es : n - f = n - (f + 1) + 1 := by omega
        have hm : n - (f + 1) < n := by omega
        have hlen := h1.len
        have L31 : ∀ (h : Nat) (L : List (Nat × Nat)) (M : Im), h ≤ 30 → ((L = L0 ∧ ∀ e, 1 ≤ e → e < 31 - h → ¬ gS9 (I 102 3) D n l (n - (f + 1)) e) ∨ ∃ e, (1 ≤ e ∧ e ≤ 30) ∧ gS9 (I 102 3) D n l (n - (f + 1)) e ∧ e < 31 - h ∧ L = L0 ++ [(n - (f + 1), e)]) → InS9 I k L M → P 31 112 [(0, .ref 97), (1, .int a), (2, .int (nI n)), (3, .int k), (4, .long v), (6, .int (nI (n - (f + 1)))), (7, .int (nI (31 - h)))] [] M J R := by
          intro h
          induction h with
          | zero =>
            intro L M _ hs hI
            refine sg_X12_laysSlips_31 hc _ _ _ _ _ _ _ _ _ ⟨fun _ => ?_, fun c => absurd ((nlt_nI (a := 30) (b := 31 - 0) (by omega) (by omega)).mpr (by omega)) c⟩
            rw [en]
            refine ih L M (by omega) ?_ hI
            rw [es]
            refine ⟨L0, h1, ?_⟩
            rcases hs with ⟨eL, no⟩ | ⟨e, e1, ge, -, eL⟩
            · exact Or.inr ⟨fun d d1 d2 => no d d1 (by omega), eL⟩
            · exact Or.inl ⟨e, e1, ge, eL⟩
          | succ h ihh =>
            intro L M hh hs hI
            have ed : 31 - (h + 1) = 30 - h := by omega
            rw [ed] at hs ⊢
            have end_ : nI (30 - h) + 1 = nI (31 - h) := nx30 hh
            obtain ⟨i1, i2, i3⟩ := hI
            have m3 : M 102 3 = I 102 3 := congrFun i3 3
            refine sg_X12_laysSlips_31 hc _ _ _ _ _ _ _ _ _ ⟨fun c => absurd ((nlt_nI (a := 30) (by omega) (by omega)).mp c) (by omega), fun _ => px_isRow9 (D := D) (E := upD D (n - (f + 1)) (30 - h)) ht hn (by rw [m3]; exact hK) hv hl (fun i hi => (hc9 i hi).1) (fun i hi => ?_) (fun hy _ => ⟨fun _ => ?_, fun z => absurd z (by decide)⟩) (fun hy _ => ⟨fun z => absurd rfl z, fun _ => ?_⟩)⟩
            · by_cases y : i = n - (f + 1)
              · subst y
                exact ⟨by rw [show upD D (n - (f + 1)) (30 - h) (n - (f + 1)) = 30 - h from if_pos rfl]; exact if_pos rfl, by rw [show upD D (n - (f + 1)) (30 - h) (n - (f + 1)) = 30 - h from if_pos rfl]; omega⟩
              · have e1 : upD D (n - (f + 1)) (30 - h) i = D i := if_neg y
                rw [e1]
                exact ⟨if_neg (fun z => y (nI_inj (by omega) (by omega) z)), (hc9 i hi).2⟩
            · rw [m3] at hy
              have gd : gS9 (I 102 3) D n l (n - (f + 1)) (30 - h) := ⟨hy, fun z => hr (by rw [z, upD_id] at hy; exact hy)⟩
              have eL : L = L0 := by
                rcases hs with ⟨eL, -⟩ | ⟨e, e1, ge, lt, -⟩
                · exact eL
                · have := un (n - (f + 1)) e (30 - h) hm e1 ⟨by omega, by omega⟩ ge gd
                  omega
              subst eL
              have st : (L ++ [(n - (f + 1), 30 - h)] = L ∧ ∀ e, 1 ≤ e → e < 31 - h → ¬ gS9 (I 102 3) D n l (n - (f + 1)) e) ∨ ∃ e, (1 ≤ e ∧ e ≤ 30) ∧ gS9 (I 102 3) D n l (n - (f + 1)) e ∧ e < 31 - h ∧ L ++ [(n - (f + 1), 30 - h)] = L ++ [(n - (f + 1), e)] := Or.inr ⟨30 - h, ⟨by omega, by omega⟩, gd, by omega, rfl⟩
              rw [i1, nI_k1 L.length, end_]
              have ln : (L ++ [(n - (f + 1), 30 - h)]).length = L.length + 1 := by rw [List.length_append]; rfl
              refine ⟨fun c => ihh _ _ (by omega) st ⟨by rw [rd_eq, ln], fun j hj hjl => ?_, (uI_ne (by decide)).trans i3⟩, fun c => ?_⟩
              · rw [ln] at hjl
                by_cases y : j = L.length
                · subst y; exact absurd hj.symm c
                · rw [gd_l9 (by omega), rd_k (by decide), rd_k (by decide)]
                  exact i2 j hj (by omega)
              · rw [rd_k (by decide), rd_k (by decide), i1, nI_k1 L.length]
                refine ihh _ _ (by omega) st ⟨by rw [rd_eq, ln], fun j hj hjl => ?_, (uI_ne (by decide)).trans ((uI_ne (by decide)).trans ((uI_ne (by decide)).trans i3))⟩
                rw [ln] at hjl
                have ej : L.length = j := nI_inj (by omega) (by omega) (c.trans hj)
                subst ej
                rw [gd_e9, rd_k (by decide), rd_k (by decide), rd_eq, rd_k (by decide), rd_eq]
                exact ⟨rfl, rfl⟩
            · rw [m3] at hy
              rw [end_]
              refine ihh L M (by omega) ?_ ⟨i1, i2, i3⟩
              rcases hs with ⟨eL, no⟩ | ⟨e, e1, ge, lt, eL⟩
              · refine Or.inl ⟨eL, fun e e1 e2 z => ?_⟩
                by_cases y : e = 30 - h
                · subst y; exact hy z.1
                · exact no e e1 (by omega) z
              · exact Or.inr ⟨e, e1, ge, by omega, eL⟩
        refine sg_X12_laysSlips_22 hc _ _ _ _ _ _ _ _ ⟨fun c => absurd ((nle_nI (by omega) (by omega)).mp c) (by omega), fun _ => ?_⟩
        exact L31 30 L0 M (by decide) (Or.inl ⟨rfl, fun e e1 e2 => absurd e2 (by omega)⟩) h2
    have k2 := L22 n [] (uI I 97 32 0) (Nat.le_refl _) (by rw [Nat.sub_self]; rfl) ⟨rd_eq, fun j _ hj => absurd hj (Nat.not_lt_zero _), e102⟩
    rw [Nat.sub_self] at k2
    exact k2
theorem mx_slipAt9 {d : Nat} {a n p q k w : Int32} (h60 : ∀ t, t < 4 → (I 99 t).toInt ≤ 60) (hK : 0 ≤ (I 102 3).toInt) : AM (d + 5) 287 112 [.ref 97, .int a, .int n, .int p, .int q, .int k, .int w] I J R (fun x _ _ _ _ => SaX (okS9 (I 99) (fun i => J 100 (60 * nn9 a + i)) a n p q) (I 102 3) (fun i => (J 100 (60 * nn9 a + i)).toInt.toNat) (nn9 n) (shL p q) k w x) := by
  have z0 : (0 : Int32).toInt = 0 := rfl
  have z1 : (1 : Int32).toInt = 1 := rfl
  have e99 : uI I 97 1 0 99 = I 99 := uI_ne (by decide)
  refine am_X12_slipAt (fun P hc => ?_)
  -- refused ahead of the search
  have bad : ∀ A : Im, ¬ A 97 0 ≤ (0 : Int32) → ((okS9 (I 99) (fun i => J 100 (60 * nn9 a + i)) a n p q) → ¬ (w = 0 ∨ w = 1)) → P 41 112 [(0, .ref 97), (1, .int a), (2, .int n), (3, .int p), (4, .int q), (5, .int k), (6, .int w)] [] A J R := fun A hA hw => by
    refine sg_X12_slipAt_41 hc _ _ _ _ _ _ _ _ _ ⟨fun z => absurd z hA, fun _ => ⟨fun hk => ?_, fun _ => rfl⟩⟩
    obtain ⟨L, hL⟩ := IsSL.ex (gS9 (I 102 3) (fun i => (J 100 (60 * nn9 a + i)).toInt.toNat) (nn9 n) (shL p q)) (nn9 n)
    exact ⟨L, hL, fun z => absurd z.1 (hw hk), fun _ => rfl⟩
  refine sg_X12_slipAt_0 hc _ _ _ _ _ _ _ _ _ (px_why9 (by rw [e99]; exact h60) (fun hk => ?_) (fun hk x hx => ?_))
  · rw [e99] at hk
    have r0 : uI (uI I 97 1 0) 97 0 0 97 0 = 0 := rd_eq
    have e102 : uI (uI I 97 1 0) 97 0 0 102 = I 102 := (uI_ne (by decide)).trans (uI_ne (by decide))
    have e3 : uI (uI I 97 1 0) 97 0 0 102 3 = I 102 3 := congrFun e102 3
    have nn : (nn9 n : Int) = n.toInt := by have := hk.2.1.1; show (n.toInt.toNat : Int) = n.toInt; omega
    have n8 := hk.2.1.2
    have en : n = nI (nn9 n) := Int32.toInt_inj.mp (by rw [nI_toInt (by omega)]; omega)
    have hb := shL_b hk.2.2.1
    refine ⟨fun z => absurd r0 z, fun _ => px_isInI (lo := 0) (hi := 1) (fun l1 l2 _ => ⟨fun _ => ?_, fun z => absurd z (by decide)⟩) (fun m1 _ => ⟨fun z => absurd rfl z, fun _ => bad _ (by rw [rd_eq]; decide) (fun _ z => ?_)⟩)⟩
    · have hw : w = 0 ∨ w = 1 := by
        rw [le_i, z0] at l1
        rw [le_i, z1] at l2
        rcases (show w.toInt = 0 ∨ w.toInt = 1 by omega) with z | z
        · exact Or.inl (Int32.toInt_inj.mp z)
        · exact Or.inr (Int32.toInt_inj.mp z)
      refine sg_X12_slipAt_41 hc _ _ _ _ _ _ _ _ _ ⟨fun _ => px_shareOf hk.2.2.1 (fun y hy => ?_), fun z => absurd (show uI (uI I 97 1 0) 97 0 0 97 0 ≤ (0 : Int32) from by rw [rd_eq]; decide) z⟩
      have key : AM (d + 4) 285 112 [.ref 97, .int a, .int (nI (nn9 n)), .int k, .long y] (uI (uI I 97 1 0) 97 0 0) J R (fun x2 y2 I2 J2 R2 => AM (d + 4) 178 112 [.long (Int32.toInt64 k), .long 0, .long (Int32.toInt64 ((I2 97 32) - 1))] I2 J2 R (fun x3 y3 I3 J3 R3 => (x3 = 0 ∨ x3 = 1) → ((¬ x3 = (0 : Int32) → ((¬ w = (0 : Int32) → SaX (okS9 (I 99) (fun i => J 100 (60 * nn9 a + i)) a n p q) (I 102 3) (fun i => (J 100 (60 * nn9 a + i)).toInt.toNat) (nn9 n) (shL p q) k w (I3 97 34)) ∧ (w = (0 : Int32) → SaX (okS9 (I 99) (fun i => J 100 (60 * nn9 a + i)) a n p q) (I 102 3) (fun i => (J 100 (60 * nn9 a + i)).toInt.toNat) (nn9 n) (shL p q) k w (I3 97 33)))) ∧ (x3 = (0 : Int32) → (AM (d + 4) 176 112 [.ref 97, .int 8] I3 J3 R (fun x4 y4 I4 J4 R4 => SaX (okS9 (I 99) (fun i => J 100 (60 * nn9 a + i)) a n p q) (I 102 3) (fun i => (J 100 (60 * nn9 a + i)).toInt.toNat) (nn9 n) (shL p q) k w x4)))))) := by
        refine px_laysSl9 hk.1.1 (by omega) (by rw [e3]; exact hK) hy (by omega) hk.2.2.2 (fun L I2 g1 g2 => ?_)
        rw [e3] at g1
        have hl := g1.len
        have e1 : (I2 97 32 - 1 : Int32).toInt = (L.length : Int) - 1 := by rw [g2.1]; exact ti_sub (nI_toInt (by omega)) z1 (by omega)
        refine px_isInI (lo := 0) (hi := I2 97 32 - 1) (fun l1 l2 _ => ⟨fun _ => ?_, fun z => absurd z (by decide)⟩) (fun m1 _ => ⟨fun z => absurd rfl z, fun _ => w_X12_refuse ⟨fun _ => ⟨L, g1, fun z => ?_, fun _ => rfl⟩, fun z => absurd hk z⟩⟩)
        · rw [le_i, z0] at l1
          rw [le_i, e1] at l2
          have nk : (nn9 k : Int) = k.toInt := by show (k.toInt.toNat : Int) = k.toInt; omega
          have ek : k = nI (nn9 k) := Int32.toInt_inj.mp (by rw [nI_toInt (by omega)]; omega)
          obtain ⟨g3, g4⟩ := g2.2.1 (nn9 k) ek (by omega)
          refine ⟨fun w0 => ⟨fun _ => ⟨L, g1, fun _ => ?_, fun z => absurd ⟨hw, l1, by omega⟩ z⟩, fun z => absurd hk z⟩, fun w0 => ⟨fun _ => ⟨L, g1, fun _ => ?_, fun z => absurd ⟨hw, l1, by omega⟩ z⟩, fun z => absurd hk z⟩⟩
          · rw [if_neg w0]; exact g4
          · rw [if_pos w0]; exact g3
        · rcases m1 with m1 | m1
          · rw [Int32.lt_iff_toInt_lt, z0] at m1; have := z.2.1; omega
          · rw [le_i, e1] at m1; have := z.2.2; omega
      rw [← en] at key
      exact key
    · rcases z with z | z <;> subst z
      · exact m1.elim (fun y => absurd y (by decide)) (fun y => y (by decide))
      · exact m1.elim (fun y => absurd y (by decide)) (fun y => y (by decide))
  · rw [e99] at hk
    have r0 : uI (uI I 97 1 0) 97 0 x 97 0 = x := rd_eq
    have nx : ¬ x = 0 := fun z => hx (by rw [z]; decide)
    refine ⟨fun _ => bad _ (by rw [r0]; exact hx) (fun z => absurd z hk), fun z => absurd (r0.symm.trans z) nx⟩
end SLR
end PT17x1
section PT17x2
/-! ===== slips(), slipAt(): both sides ===== -/
section SLB
variable {K : Int32} {D E : Nat → Nat} {n p d : Nat} {l : Int}
theorem smD_cg : ∀ n, (∀ i, i < n → D i = E i) → smD D n = smD E n := by
  intro n
  induction n with
  | zero => intro _; rfl
  | succ n ih =>
    intro h
    show smD D n + pt (D n) = smD E n + pt (E n)
    rw [ih (fun i hi => h i (by omega)), h n (by omega)]
theorem RowP_cg (h : ∀ i, i < n → D i = E i) : RowP K D n l ↔ RowP K E n l := by
  unfold RowP
  rw [smD_cg n h]
  constructor
  · intro ⟨h1, h2, h3⟩
    exact ⟨fun i hi => by rw [← h i hi]; exact h1 i hi, fun i j a b => by rw [← h i (by omega), ← h j b]; exact h2 i j a b, h3⟩
  · intro ⟨h1, h2, h3⟩
    exact ⟨fun i hi => by rw [h i hi]; exact h1 i hi, fun i j a b => by rw [h i (by omega), h j b]; exact h2 i j a b, h3⟩
theorem gS9_cg (h : ∀ i, i < n → D i = E i) (hp : p < n) : gS9 K D n l p d ↔ gS9 K E n l p d := by
  unfold gS9
  rw [h p hp, RowP_cg (D := upD D p d) (E := upD E p d) (fun i hi => by
    unfold upD
    split
    · rfl
    · exact h i hi)]
theorem IsSL.cg2 (h : ∀ i, i < n → D i = E i) {L : List (Nat × Nat)} (hL : IsSL (gS9 K D n l) n L) : IsSL (gS9 K E n l) n L :=
  IsSL.cg (n := n) (fun m d hm => gS9_cg h hm) n L (Nat.le_refl _) hL
theorem SlX.cg {ok ok2 : Prop} {x : Int32} (ho : ok ↔ ok2) (h : ok → ∀ i, i < n → D i = E i) (hx : SlX ok K D n l x) : SlX ok2 K E n l x := by
  refine ⟨fun z => ?_, fun z => hx.2 (fun y => z (ho.mp y))⟩
  obtain ⟨L, a, b⟩ := hx.1 (ho.mpr z)
  exact ⟨L, a.cg2 (h (ho.mpr z)), b⟩
theorem SaX.cg {ok ok2 : Prop} {x k w : Int32} (ho : ok ↔ ok2) (h : ok → ∀ i, i < n → D i = E i) (hx : SaX ok K D n l k w x) : SaX ok2 K E n l k w x := by
  refine ⟨fun z => ?_, fun z => hx.2 (fun y => z (ho.mp y))⟩
  obtain ⟨L, a, b⟩ := hx.1 (ho.mpr z)
  exact ⟨L, a.cg2 (h (ho.mpr z)), b⟩
end SLB
section SLD
variable {I I1 : Im} {J J1 : Jm} {R : Rm} {a n p q k w x x2 : Int32}
theorem kn9 (e : I (R 1 7) 2 = I 102 3) (hB : Bd I) : 0 ≤ (I (R 1 7) 2).toInt := by rw [e]; exact Bd.known0 hB
/-- the numbers told are the same on both sides -/
theorem TQ9.cells (hT : RT I) (h : TQ9 I J) (kq : KQ9 J J1) (ha : tr9 a) (hn : n.toInt ≤ (I 99 (nn9 a)).toInt) (h0 : 0 ≤ n.toInt) : ∀ i, i < nn9 n → J (53 + 2 * nn9 a + 1) i = J1 100 (60 * nn9 a + i) := fun i hi => by
  have nn : (nn9 n : Int) = n.toInt := by show (n.toInt.toNat : Int) = n.toInt; omega
  rw [kq 100 (by decide)]
  exact h _ (tr9_n ha).1 i (by omega)
theorem TQ9.okS (hT : RT I) (h : TQ9 I J) (k9 : K9 I I1) (kq : KQ9 J J1) : okS9 (trL9 I) (J (53 + 2 * nn9 a + 1)) a n p q ↔ okS9 (I1 99) (fun i => J1 100 (60 * nn9 a + i)) a n p q := by
  unfold okS9
  rw [k9.2]
  constructor
  · intro ⟨⟨z1, z2⟩, z3, z4, z5⟩
    rw [hT.eL (tr9_n z1).1] at z2
    have c := h.cells hT kq z1 z2 (by omega)
    exact ⟨⟨z1, z2⟩, z3, z4, fun i hi => by show 1 ≤ (J1 100 (60 * nn9 a + i)).toInt ∧ (J1 100 (60 * nn9 a + i)).toInt ≤ 30; rw [← c i hi]; exact z5 i hi⟩
  · intro ⟨⟨z1, z2⟩, z3, z4, z5⟩
    have c := h.cells hT kq z1 z2 (by omega)
    exact ⟨⟨z1, by rw [hT.eL (tr9_n z1).1]; exact z2⟩, z3, z4, fun i hi => by rw [c i hi]; exact z5 i hi⟩
theorem TQ9.tl (hT : RT I) (h : TQ9 I J) (kq : KQ9 J J1) (z : okS9 (trL9 I) (J (53 + 2 * nn9 a + 1)) a n p q) : ∀ i, i < nn9 n → tlD J (53 + 2 * nn9 a + 1) i = (J1 100 (60 * nn9 a + i)).toInt.toNat := fun i hi => by
  have z2 := z.1.2
  rw [hT.eL (tr9_n z.1.1).1] at z2
  have c := h.cells hT kq z.1.1 z2 (by have := z.2.1.1; omega) i hi
  show (J (53 + 2 * nn9 a + 1) i).toInt.toNat = _
  rw [c]
theorem TQ9.slips (hT : RT I) (h : TQ9 I J) (k9 : K9 I I1) (kq : KQ9 J J1) (e : I (R 1 7) 2 = I1 102 3) (h1 : SlX (okS9 (trL9 I) (J (53 + 2 * nn9 a + 1)) a n p q) (I (R 1 7) 2) (tlD J (53 + 2 * nn9 a + 1)) (nn9 n) (shL p q) x) (h2 : SlX (okS9 (I1 99) (fun i => J1 100 (60 * nn9 a + i)) a n p q) (I1 102 3) (fun i => (J1 100 (60 * nn9 a + i)).toInt.toNat) (nn9 n) (shL p q) x2) : x2 = x := by
  rw [← e] at h2
  exact SlX.eq (h1.cg (h.okS hT k9 kq) (fun z => h.tl hT kq z)) h2
theorem TQ9.slipAt (hT : RT I) (h : TQ9 I J) (k9 : K9 I I1) (kq : KQ9 J J1) (e : I (R 1 7) 2 = I1 102 3) (h1 : SaX (okS9 (trL9 I) (J (53 + 2 * nn9 a + 1)) a n p q) (I (R 1 7) 2) (tlD J (53 + 2 * nn9 a + 1)) (nn9 n) (shL p q) k w x) (h2 : SaX (okS9 (I1 99) (fun i => J1 100 (60 * nn9 a + i)) a n p q) (I1 102 3) (fun i => (J1 100 (60 * nn9 a + i)).toInt.toNat) (nn9 n) (shL p q) k w x2) : x2 = x := by
  rw [← e] at h2
  exact SaX.eq (h1.cg (h.okS hT k9 kq) (fun z => h.tl hT kq z)) h2
end SLD
end PT17x2
section PT17x3
/-! printed by rd.py: the Reader's constructor, all steps but those with the text -/
noncomputable def kRd : List En := [
  (0, .aload_n 0, 1, [], [], 0),
  (1, .invokespecial 3, 3, [3], [], 0),
  (4, .aload_n 0, 1, [], [], 0),
  (5, .sipush 900, 3, [], [900], 0),
  (8, .newarray .byte, 2, [2], [], 0),
  (10, .putfield 9, 3, [6, 0, 4, 1], [], 0),
  (13, .aload_n 0, 1, [], [], 0),
  (14, .iconst 0, 1, [], [0], 0),
  (15, .putfield 15, 3, [6, 1, 0, 0], [], 0),
  (18, .aload_n 0, 1, [], [], 0),
  (19, .bipush 22, 2, [], [22], 0),
  (21, .newarray .long, 2, [1], [], 0),
  (23, .putfield 19, 3, [6, 2, 4, 2], [], 0),
  (26, .aload_n 0, 1, [], [], 0),
  (27, .iconst 0, 1, [], [0], 0),
  (28, .putfield 23, 3, [6, 3, 1, 0], [], 0),
  (31, .aload_n 0, 1, [], [], 0),
  (32, .iconst 0, 1, [], [0], 0),
  (33, .putfield 27, 3, [6, 4, 0, 0], [], 0),
  (36, .aload_n 0, 1, [], [], 0),
  (37, .iconst 0, 1, [], [0], 0),
  (38, .putfield 30, 3, [6, 5, 0, 0], [], 0),
  (41, .aload_n 0, 1, [], [], 0),
  (42, .iconst 0, 1, [], [0], 0),
  (43, .putfield 33, 3, [6, 6, 0, 0], [], 0),
  (46, .aload_n 0, 1, [], [], 0),
  (47, .iconst 0, 1, [], [0], 0),
  (48, .putfield 36, 3, [6, 7, 0, 0], [], 0),
  (51, .aload_n 0, 1, [], [], 0),
  (52, .iconst 0, 1, [], [0], 0),
  (53, .putfield 39, 3, [6, 8, 0, 0], [], 0),
  (56, .aload_n 0, 1, [], [], 0),
  (57, .iconst (-1), 1, [], [(-1)], 0),
  (58, .putfield 42, 3, [6, 9, 0, 0], [], 0),
  (61, .aload_n 0, 1, [], [], 0),
  (62, .lconst 0, 1, [], [], 0),
  (63, .putfield 45, 3, [6, 10, 2, 0], [], 0),
  (66, .aload_n 0, 1, [], [], 0),
  (67, .iconst 0, 1, [], [0], 0),
  (68, .putfield 49, 3, [6, 11, 0, 0], [], 0),
  (71, .aload_n 0, 1, [], [], 0),
  (72, .iconst 0, 1, [], [0], 0),
  (73, .putfield 52, 3, [6, 12, 0, 0], [], 0),
  (76, .aload_n 0, 1, [], [], 0),
  (77, .iconst (-1), 1, [], [(-1)], 0),
  (78, .putfield 55, 3, [6, 13, 0, 0], [], 0),
  (81, .iconst 1, 1, [], [1], 0),
  (82, .istore_n 1, 1, [], [], 0),
  (83, .iconst 0, 1, [], [0], 0),
  (84, .istore_n 2, 1, [], [], 0),
  (85, .iload_n 2, 1, [], [], 0),
  (91, .if_icmp .ge 58, 3, [149], [], 0),
  (96, .iload_n 2, 1, [], [], 0),
  (100, .istore_n 3, 1, [], [], 0),
  (101, .iload_n 3, 1, [], [], 0),
  (102, .bipush 32, 2, [], [32], 0),
  (104, .if_icmp .ne 9, 3, [113], [], 0),
  (107, .iinc 1 1, 3, [], [1], 0),
  (110, .goto 33, 3, [143], [], 0),
  (113, .iload_n 1, 1, [], [], 0),
  (114, .bipush 21, 2, [], [21], 0),
  (116, .if_icmp .gt 27, 3, [143], [], 0),
  (119, .aload_n 0, 1, [], [], 0),
  (120, .getfield 19, 3, [6, 2, 4, 2], [], 0),
  (123, .iload_n 1, 1, [], [], 0),
  (124, .aload_n 0, 1, [], [], 0),
  (125, .getfield 19, 3, [6, 2, 4, 2], [], 0),
  (128, .iload_n 1, 1, [], [], 0),
  (129, .laload, 1, [], [], 0),
  (130, .ldc2_w 70, 3, [], [], 32),
  (133, .lmul, 1, [], [], 0),
  (134, .iload_n 3, 1, [], [], 0),
  (135, .bipush 97, 2, [], [97], 0),
  (137, .isub, 1, [], [], 0),
  (138, .iconst 1, 1, [], [1], 0),
  (139, .iadd, 1, [], [], 0),
  (140, .i2l, 1, [], [], 0),
  (141, .ladd, 1, [], [], 0),
  (142, .lastore, 1, [], [], 0),
  (143, .iinc 2 1, 3, [], [1], 0),
  (146, .goto (-61), 3, [85], [], 0),
  (149, .return_, 1, [], [], 0)]
set_option maxRecDepth 100000 in
theorem rd_okE : ∀ e ∈ kRd, okE RX6 cX6_init 4 1 e = true := List.all_eq_true.mp (by decide +kernel)
set_option maxRecDepth 100000 in
theorem rd_need : ∀ e ∈ kRd, ∀ w ∈ needE RX6 e, w ∈ wsG := need_ok [157, 148, 260, 208, 209, 261, 211, 212, 214, 215, 216, 217, 218, 221, 224, 225, 226, 229, 211, 211, 207] (by decide +kernel) (by decide +kernel)
set_option maxRecDepth 100000 in
theorem wj_cs : Cond.fieldLink RJ0 38 "java/lang/String" "COMPACT_STRINGS" "Z" ∈ wsG := tb_mem 167 rfl rfl
set_option maxRecDepth 100000 in
theorem wj_co : Cond.fieldLink RJ0 15 "java/lang/String" "coder" "B" ∈ wsG := tb_mem 2052 rfl rfl
set_option maxRecDepth 100000 in
theorem wj_va : Cond.fieldLink RJ0 9 "java/lang/String" "value" "[B" ∈ wsG := tb_mem 2051 rfl rfl
set_option maxRecDepth 100000 in
theorem wj_fm : Cond.fieldLink RJ0 1053 "jdk/internal/util/Preconditions" "SIOOBE_FORMATTER" "Ljava/util/function/BiFunction;" ∈ wsG := tb_mem 183 rfl rfl
set_option maxRecDepth 100000 in
theorem wv_coder : ∀ w ∈ ([.methodLink RJ0 335 yJ0_coder_7d493, .instanceMethod yJ0_coder_7d493, .selects RJ0 yJ0_coder_7d493 yJ0_coder_7d493, .initialized RJ0] : List Cond), w ∈ wsG := tb_list [163, 164, 165, 123] (by decide +kernel) (by decide +kernel)
set_option maxRecDepth 100000 in
theorem wv_isLatin1 : ∀ w ∈ ([.methodLink RJ0 492 yJ0_isLatin1_aae02, .instanceMethod yJ0_isLatin1_aae02, .selects RJ0 yJ0_isLatin1_aae02 yJ0_isLatin1_aae02, .initialized RJ0] : List Cond), w ∈ wsG := tb_list [173, 174, 175, 123] (by decide +kernel) (by decide +kernel)
set_option maxRecDepth 100000 in
theorem wv_length : ∀ w ∈ ([.methodLink RX6 60 yJ0_length_8abf5, .instanceMethod yJ0_length_8abf5, .selects RJ0 yJ0_length_8abf5 yJ0_length_8abf5, .initialized RJ0] : List Cond), w ∈ wsG := tb_list [159, 160, 161, 123] (by decide +kernel) (by decide +kernel)
set_option maxRecDepth 100000 in
theorem wv_charAt : ∀ w ∈ ([.methodLink RX6 66 yJ0_charAt_5068e, .instanceMethod yJ0_charAt_5068e, .selects RJ0 yJ0_charAt_5068e yJ0_charAt_5068e, .initialized RJ0] : List Cond), w ∈ wsG := tb_list [169, 170, 171, 123] (by decide +kernel) (by decide +kernel)
set_option maxRecDepth 100000 in
theorem ws_c1 : ∀ w ∈ ([.methodLink RJ0 495 yJ1_charAt_3b067, .static yJ1_charAt_3b067, .initialized RJ1] : List Cond), w ∈ wsG := tb_list [177, 178, 124] (by decide +kernel) (by decide +kernel)
set_option maxRecDepth 100000 in
theorem ws_ci : ∀ w ∈ ([.methodLink RJ1 9 yJ0_checkIndex_df160, .static yJ0_checkIndex_df160, .initialized RJ0] : List Cond), w ∈ wsG := tb_list [180, 181, 123] (by decide +kernel) (by decide +kernel)
set_option maxRecDepth 100000 in
theorem ws_pre : ∀ w ∈ ([.methodLink RJ0 1059 yJ3_checkIndex_8e157, .static yJ3_checkIndex_8e157, .initialized RJ3] : List Cond), w ∈ wsG := tb_list [185, 186, 125] (by decide +kernel) (by decide +kernel)
noncomputable abbrev kc_coder : Cond := .code yJ0_coder_7d493 cJ0_coder_7d493 1 (some .byte)
set_option maxRecDepth 100000 in
theorem wc_coder : kc_coder ∈ wsG := tb_mem 166 rfl rfl
theorem dJ0_coder_7d493_0 : decode cJ0_coder_7d493 0 = .ok (.getstatic 38, 3) := by decide +kernel
theorem dJ0_coder_7d493_3 : decode cJ0_coder_7d493 3 = .ok (.ifCond .eq 10, 3) := by decide +kernel
theorem dJ0_coder_7d493_6 : decode cJ0_coder_7d493 6 = .ok (.aload_n 0, 1) := by decide +kernel
theorem dJ0_coder_7d493_7 : decode cJ0_coder_7d493 7 = .ok (.getfield 15, 3) := by decide +kernel
theorem dJ0_coder_7d493_10 : decode cJ0_coder_7d493 10 = .ok (.goto 4, 3) := by decide +kernel
theorem dJ0_coder_7d493_14 : decode cJ0_coder_7d493 14 = .ok (.ireturn, 1) := by decide +kernel
noncomputable abbrev kc_length : Cond := .code yJ0_length_8abf5 cJ0_length_8abf5 1 (some .int)
set_option maxRecDepth 100000 in
theorem wc_length : kc_length ∈ wsG := tb_mem 162 rfl rfl
theorem dJ0_length_8abf5_0 : decode cJ0_length_8abf5 0 = .ok (.aload_n 0, 1) := by decide +kernel
theorem dJ0_length_8abf5_1 : decode cJ0_length_8abf5 1 = .ok (.getfield 9, 3) := by decide +kernel
theorem dJ0_length_8abf5_4 : decode cJ0_length_8abf5 4 = .ok (.arraylength, 1) := by decide +kernel
theorem dJ0_length_8abf5_5 : decode cJ0_length_8abf5 5 = .ok (.aload_n 0, 1) := by decide +kernel
theorem dJ0_length_8abf5_6 : decode cJ0_length_8abf5 6 = .ok (.invokevirtual 335, 3) := by decide +kernel
theorem dJ0_length_8abf5_9 : decode cJ0_length_8abf5 9 = .ok (.ishr, 1) := by decide +kernel
theorem dJ0_length_8abf5_10 : decode cJ0_length_8abf5 10 = .ok (.ireturn, 1) := by decide +kernel
noncomputable abbrev kc_isLatin1 : Cond := .code yJ0_isLatin1_aae02 cJ0_isLatin1_aae02 1 (some .boolean)
set_option maxRecDepth 100000 in
theorem wc_isLatin1 : kc_isLatin1 ∈ wsG := tb_mem 176 rfl rfl
theorem dJ0_isLatin1_aae02_0 : decode cJ0_isLatin1_aae02 0 = .ok (.getstatic 38, 3) := by decide +kernel
theorem dJ0_isLatin1_aae02_3 : decode cJ0_isLatin1_aae02 3 = .ok (.ifCond .eq 14, 3) := by decide +kernel
theorem dJ0_isLatin1_aae02_6 : decode cJ0_isLatin1_aae02 6 = .ok (.aload_n 0, 1) := by decide +kernel
theorem dJ0_isLatin1_aae02_7 : decode cJ0_isLatin1_aae02 7 = .ok (.getfield 15, 3) := by decide +kernel
theorem dJ0_isLatin1_aae02_10 : decode cJ0_isLatin1_aae02 10 = .ok (.ifCond .ne 7, 3) := by decide +kernel
theorem dJ0_isLatin1_aae02_13 : decode cJ0_isLatin1_aae02 13 = .ok (.iconst 1, 1) := by decide +kernel
theorem dJ0_isLatin1_aae02_14 : decode cJ0_isLatin1_aae02 14 = .ok (.goto 4, 3) := by decide +kernel
theorem dJ0_isLatin1_aae02_18 : decode cJ0_isLatin1_aae02 18 = .ok (.ireturn, 1) := by decide +kernel
noncomputable abbrev kc_ci : Cond := .code yJ0_checkIndex_df160 cJ0_checkIndex_df160 2 none
set_option maxRecDepth 100000 in
theorem wc_ci : kc_ci ∈ wsG := tb_mem 182 rfl rfl
theorem dJ0_checkIndex_df160_0 : decode cJ0_checkIndex_df160 0 = .ok (.iload_n 0, 1) := by decide +kernel
theorem dJ0_checkIndex_df160_1 : decode cJ0_checkIndex_df160 1 = .ok (.iload_n 1, 1) := by decide +kernel
theorem dJ0_checkIndex_df160_2 : decode cJ0_checkIndex_df160 2 = .ok (.getstatic 1053, 3) := by decide +kernel
theorem dJ0_checkIndex_df160_5 : decode cJ0_checkIndex_df160 5 = .ok (.invokestatic 1059, 3) := by decide +kernel
theorem dJ0_checkIndex_df160_8 : decode cJ0_checkIndex_df160 8 = .ok (.pop, 1) := by decide +kernel
theorem dJ0_checkIndex_df160_9 : decode cJ0_checkIndex_df160 9 = .ok (.return_, 1) := by decide +kernel
noncomputable abbrev kc_c1 : Cond := .code yJ1_charAt_3b067 cJ1_charAt_3b067 2 (some .char)
set_option maxRecDepth 100000 in
theorem wc_c1 : kc_c1 ∈ wsG := tb_mem 179 rfl rfl
theorem dJ1_charAt_3b067_0 : decode cJ1_charAt_3b067 0 = .ok (.iload_n 1, 1) := by decide +kernel
theorem dJ1_charAt_3b067_1 : decode cJ1_charAt_3b067 1 = .ok (.aload_n 0, 1) := by decide +kernel
theorem dJ1_charAt_3b067_2 : decode cJ1_charAt_3b067 2 = .ok (.arraylength, 1) := by decide +kernel
theorem dJ1_charAt_3b067_3 : decode cJ1_charAt_3b067 3 = .ok (.invokestatic 9, 3) := by decide +kernel
theorem dJ1_charAt_3b067_6 : decode cJ1_charAt_3b067 6 = .ok (.aload_n 0, 1) := by decide +kernel
theorem dJ1_charAt_3b067_7 : decode cJ1_charAt_3b067 7 = .ok (.iload_n 1, 1) := by decide +kernel
theorem dJ1_charAt_3b067_8 : decode cJ1_charAt_3b067 8 = .ok (.baload, 1) := by decide +kernel
theorem dJ1_charAt_3b067_9 : decode cJ1_charAt_3b067 9 = .ok (.sipush 255, 3) := by decide +kernel
theorem dJ1_charAt_3b067_12 : decode cJ1_charAt_3b067 12 = .ok (.iand, 1) := by decide +kernel
theorem dJ1_charAt_3b067_13 : decode cJ1_charAt_3b067 13 = .ok (.i2c, 1) := by decide +kernel
theorem dJ1_charAt_3b067_14 : decode cJ1_charAt_3b067 14 = .ok (.ireturn, 1) := by decide +kernel
noncomputable abbrev kc_charAt : Cond := .code yJ0_charAt_5068e cJ0_charAt_5068e 2 (some .char)
set_option maxRecDepth 100000 in
theorem wc_charAt : kc_charAt ∈ wsG := tb_mem 172 rfl rfl
theorem dJ0_charAt_5068e_0 : decode cJ0_charAt_5068e 0 = .ok (.aload_n 0, 1) := by decide +kernel
theorem dJ0_charAt_5068e_1 : decode cJ0_charAt_5068e 1 = .ok (.invokevirtual 492, 3) := by decide +kernel
theorem dJ0_charAt_5068e_4 : decode cJ0_charAt_5068e 4 = .ok (.ifCond .eq 12, 3) := by decide +kernel
theorem dJ0_charAt_5068e_7 : decode cJ0_charAt_5068e 7 = .ok (.aload_n 0, 1) := by decide +kernel
theorem dJ0_charAt_5068e_8 : decode cJ0_charAt_5068e 8 = .ok (.getfield 9, 3) := by decide +kernel
theorem dJ0_charAt_5068e_11 : decode cJ0_charAt_5068e 11 = .ok (.iload_n 1, 1) := by decide +kernel
theorem dJ0_charAt_5068e_12 : decode cJ0_charAt_5068e 12 = .ok (.invokestatic 495, 3) := by decide +kernel
theorem dJ0_charAt_5068e_15 : decode cJ0_charAt_5068e 15 = .ok (.ireturn, 1) := by decide +kernel
noncomputable abbrev kc_pre : Cond := .code yJ3_checkIndex_8e157 cJ3_checkIndex_8e157 3 (some .int)
set_option maxRecDepth 100000 in
theorem wc_pre : kc_pre ∈ wsG := tb_mem 187 rfl rfl
theorem dJ3_checkIndex_8e157_0 : decode cJ3_checkIndex_8e157 0 = .ok (.iload_n 0, 1) := by decide +kernel
theorem dJ3_checkIndex_8e157_1 : decode cJ3_checkIndex_8e157 1 = .ok (.ifCond .lt 8, 3) := by decide +kernel
theorem dJ3_checkIndex_8e157_4 : decode cJ3_checkIndex_8e157 4 = .ok (.iload_n 0, 1) := by decide +kernel
theorem dJ3_checkIndex_8e157_5 : decode cJ3_checkIndex_8e157 5 = .ok (.iload_n 1, 1) := by decide +kernel
theorem dJ3_checkIndex_8e157_6 : decode cJ3_checkIndex_8e157 6 = .ok (.if_icmp .lt 10, 3) := by decide +kernel
theorem dJ3_checkIndex_8e157_16 : decode cJ3_checkIndex_8e157 16 = .ok (.iload_n 0, 1) := by decide +kernel
theorem dJ3_checkIndex_8e157_17 : decode cJ3_checkIndex_8e157 17 = .ok (.ireturn, 1) := by decide +kernel
noncomputable def rd_tx : String := "odds store times man due by has known cut split give take bake any when even holds lacks loop end stop"
set_option maxRecDepth 100000 in
theorem wt_tx : Cond.stringRef RX6 58 rd_tx ∈ lw_tbl := List.mem_of_getElem? (i := 158) (by decide +kernel)
set_option maxRecDepth 100000 in
theorem wt_cs : Cond.laysStatic "java/lang/String" "COMPACT_STRINGS" "Z" ∈ lw_tbl := List.mem_of_getElem? (i := 168) (by decide +kernel)
set_option maxRecDepth 100000 in
theorem wt_fm : Cond.laysStatic "jdk/internal/util/Preconditions" "SIOOBE_FORMATTER" "Ljava/util/function/BiFunction;" ∈ lw_tbl := List.mem_of_getElem? (i := 184) (by decide +kernel)
set_option maxRecDepth 100000 in
theorem wt_is : Cond.initialized "java/lang/String" ∈ lw_tbl := List.mem_of_getElem? (i := 123) (by decide +kernel)
set_option maxRecDepth 100000 in
theorem wt_ip : Cond.initialized "jdk/internal/util/Preconditions" ∈ lw_tbl := List.mem_of_getElem? (i := 125) (by decide +kernel)
theorem skp_start {p : Program} {s : State} {m : MethodId} {meth : Method} {c : Code} {b L : Nat} {xs : Nat → Int32} (C0 : lw_At p s m meth c b L xs) : SKp s.heap.size s := by
  obtain ⟨hx, hb, hr, hml, hown, hts, hX, hbl, hlocks, hgv⟩ := C0
  have hs := flat_of_before _ hgv
  have hA : ∀ a : Nat, a < s.heap.size → ¬ s.heap.size ≤ a := fun a h => by omega
  have z0 : ∀ i : Nat, i < 1 → i = 0 := fun i h => by omega
  have hel2 : ∀ j, j < 102 → (flatC (Jvm.Cond.and given_1 narrow_1))[52 + j]? = some (Cond.eq (.elem (.field (.string RX6 58) "java/lang/String" "value" "[B") (.int (Int32.ofNat j))) (.int (rd_by.getD j 0))) := by decide +kernel
  have hel : ∀ j, j < 102 → (Cond.eq (.elem (.field (.string RX6 58) "java/lang/String" "value" "[B") (.int (Int32.ofNat j))) (.int (rd_by.getD j 0))) ∈ flatC (Jvm.Cond.and given_1 narrow_1) := fun j hj => List.mem_of_getElem? (hel2 j hj)
  obtain ⟨adK, adV, hS, hE⟩ := vk_Sof (args := #[Value.ref b]) (s := s) (N := 1) (tm := fun _ => .string RX6 58) (len := [102]) (byt := [rd_by]) (A := fun q => s.heap.size ≤ q)
    (fun i hi => by rw [z0 i hi]; decide) (fun i hi => hs _ (by decide +kernel)) (fun i hi => hs _ (by decide +kernel)) (fun i hi => hs _ (by decide +kernel)) (fun i hi => by rw [z0 i hi]; exact hs _ (by decide +kernel))
    (fun i hi j hj => by rw [z0 i hi] at hj ⊢; exact hs _ (hel j hj)) (fun i j hi hj hn => absurd ((z0 i hi).trans (z0 j hj).symm) hn) hA
  refine ⟨rd_tx, adK 0, adV 0, rd_by, rfl, vk_R.of (hts _ wt_tx) (hE 0 (by decide)), ⟨fun i hi => ?_, fun i j hi hj _ => (z0 i hi).trans (z0 j hj).symm⟩, va_Zof (hts _ wt_cs) (hts _ wt_is) (va_eqi (hs _ (by decide +kernel))) hA, va_Zqof (hts _ wt_fm) (hts _ wt_ip) (hs _ (by decide +kernel)) hA⟩
  rw [z0 i hi]
  exact hS.1 0 (by decide)
/-! ===== the JDK's length() and charAt() of the one text ===== -/
noncomputable def nF : Nat → Prop := fun _ => False
noncomputable def SKc (aK aV : Nat) (byt : List Int32) (U : State) : Prop := vk_S 1 [102] [byt] (fun _ => aK) (fun _ => aV) nF U U.heap ∧ va_Z "java/lang/String" "COMPACT_STRINGS" "Z" (.int 1) nF U U.heap ∧ va_Zq "jdk/internal/util/Preconditions" "SIOOBE_FORMATTER" "Ljava/util/function/BiFunction;" nF U U.heap
theorem SKc.next {aK aV : Nat} {byt : List Int32} {s U : State} (hW : s.WarmedH U.vm) (hq : ∀ a : Nat, a < s.heap.size → U.heap[a]? = s.heap[a]?) (h : SKc aK aV byt s) : SKc aK aV byt U :=
  ⟨(vk_S.moved hW.alike h.1).kept (fun a h1 _ => hq a h1), (va_Z.moved hW.alike h.2.1).kept (fun a h1 _ => hq a h1), (va_Zq.moved hW.alike h.2.2).kept (fun a h1 _ => hq a h1)⟩
theorem SKc.blind {aK aV : Nat} {byt : List Int32} {av : List Value} : FrameBlind (va_Pc av (SKc aK aV byt)) := fun a U g mk q => ⟨q.1, SKc.next (s := U) (U := U.calling g mk a) (State.WarmedH.refl U) (fun _ _ => rfl) q.2⟩
noncomputable def wsY (w : Cond) : List Cond := w :: wsG
theorem wsY_in {w0 : Cond} : ∀ w ∈ wsG, w ∈ wsY w0 := fun _ h => List.mem_cons_of_mem _ h
theorem wsY_good {Ts : List Cond} {w0 : Cond} (hG : ∀ w ∈ wsG, w ∈ Ts) (hq : w0 ∈ wsG) : GoodIn Ts (wsY w0) := by
  intro w hw
  rcases List.mem_cons.mp hw with rfl | h
  · exact ⟨hG _ hq, good_of_word (wsG_good hq)⟩
  · exact ⟨hG _ h, good_of_word (wsG_good h)⟩
noncomputable abbrev QJ (P : Int32 → Prop) : Array Value → State → Outcome → State → Prop := va_Qi (fun x (_ : Unit) => P x) (fun _ _ => True) nF
theorem m_coder (l : Launch) {aK aV : Nat} {byt : List Int32} : Met l yJ0_coder_7d493 (wsY kc_coder) (rmD 1 0 0) (va_Pc [.ref aK] (SKc aK aV byt)) (QJ (fun x => x = 0)) 0 0 nF := by
  refine Met.ofW (cc := cJ0_coder_7d493) (maxL := 1) (ret := some .byte) (by decide) rfl ?_
  intro p e s m args below meth c s₁ B hml hv
  obtain ⟨rfl, hv⟩ := hv
  have hx := B.exec
  have hb := B.bytes
  have hr := B.returns
  have hts := atoms_spec (ws := wsY kc_coder) B.pre
  have hG := fun w h => hts w (wsY_in w h)
  have hown : s.vm.findClass RJ0 = some m.cls := findClass_of_methodNamed B.named
  have hlocks := B.notSynchronized
  have hl := lv_entry ([.ref aK]) (n := 1) (Nat.le_of_ble_eq_true rfl)
  rw [lg_entry_eq]
  have hS : va_S nF s.heap s.heap [] := va_S.rf
  have l0 := lv_at hl 0 (i := 0) (v := .ref aK) rfl
  refine va_gets hx hb hv.2.1 hS hown (hG _ wj_cs) (fun _ h => h) dJ0_coder_7d493_0 ?_
  refine lv_if_eq hx hb dJ0_coder_7d493_3 (tgt := 13) (by decide) (fun h => absurd h (by decide)) (fun _ => ?_)
  refine lv_aload_n hx hb dJ0_coder_7d493_6 rfl l0 ?_
  refine vk_getf hx hb (hv.1.1 0 (by decide)).2.1 hS hown (hG _ wj_co) (fun _ h => h) dJ0_coder_7d493_7 ?_
  refine lv_goto hx hb dJ0_coder_7d493_10 (tgt := 14) (by decide) ?_
  exact W.zret (ty := .byte) hx hb hr rfl (fun t ht hW => ⟨⟨0, (), rfl, rfl, trivial⟩, hS.F ht⟩) hS.2.2 dJ0_coder_7d493_14
theorem m_isLatin1 (l : Launch) {aK aV : Nat} {byt : List Int32} : Met l yJ0_isLatin1_aae02 (wsY kc_isLatin1) (rmD 1 0 0) (va_Pc [.ref aK] (SKc aK aV byt)) (QJ (fun x => x = 1)) 0 0 nF := by
  refine Met.ofW (cc := cJ0_isLatin1_aae02) (maxL := 1) (ret := some .boolean) (by decide) rfl ?_
  intro p e s m args below meth c s₁ B hml hv
  obtain ⟨rfl, hv⟩ := hv
  have hx := B.exec
  have hb := B.bytes
  have hr := B.returns
  have hts := atoms_spec (ws := wsY kc_isLatin1) B.pre
  have hG := fun w h => hts w (wsY_in w h)
  have hown : s.vm.findClass RJ0 = some m.cls := findClass_of_methodNamed B.named
  have hlocks := B.notSynchronized
  have hl := lv_entry ([.ref aK]) (n := 1) (Nat.le_of_ble_eq_true rfl)
  rw [lg_entry_eq]
  have hS : va_S nF s.heap s.heap [] := va_S.rf
  have l0 := lv_at hl 0 (i := 0) (v := .ref aK) rfl
  refine va_gets hx hb hv.2.1 hS hown (hG _ wj_cs) (fun _ h => h) dJ0_isLatin1_aae02_0 ?_
  refine lv_if_eq hx hb dJ0_isLatin1_aae02_3 (tgt := 17) (by decide) (fun h => absurd h (by decide)) (fun _ => ?_)
  refine lv_aload_n hx hb dJ0_isLatin1_aae02_6 rfl l0 ?_
  refine vk_getf hx hb (hv.1.1 0 (by decide)).2.1 hS hown (hG _ wj_co) (fun _ h => h) dJ0_isLatin1_aae02_7 ?_
  refine lv_if_ne hx hb dJ0_isLatin1_aae02_10 (tgt := 17) (by decide) (fun h => absurd rfl h) (fun _ => ?_)
  refine lv_iconst hx hb dJ0_isLatin1_aae02_13 (v := 1) (by decide) ?_
  refine lv_goto hx hb dJ0_isLatin1_aae02_14 (tgt := 18) (by decide) ?_
  exact W.zret (ty := .boolean) hx hb hr rfl (fun t ht hW => ⟨⟨1, (), rfl, rfl, trivial⟩, hS.F ht⟩) hS.2.2 dJ0_isLatin1_aae02_18
theorem m_length (l : Launch) {aK aV : Nat} {byt : List Int32} : Met l yJ0_length_8abf5 (wsY kc_length) (rmD 2 0 0) (va_Pc [.ref aK] (SKc aK aV byt)) (QJ (fun x => x = 102)) 0 0 nF := by
  refine Met.ofW (cc := cJ0_length_8abf5) (maxL := 1) (ret := some .int) (by decide) rfl ?_
  intro p e s m args below meth c s₁ B hml hv
  obtain ⟨rfl, hv⟩ := hv
  have hx := B.exec
  have hb := B.bytes
  have hr := B.returns
  have hts := atoms_spec (ws := wsY kc_length) B.pre
  have hG := fun w h => hts w (wsY_in w h)
  have hown : s.vm.findClass RJ0 = some m.cls := findClass_of_methodNamed B.named
  have hlocks := B.notSynchronized
  have hl := lv_entry ([.ref aK]) (n := 1) (Nat.le_of_ble_eq_true rfl)
  rw [lg_entry_eq]
  have hS : va_S nF s.heap s.heap [] := va_S.rf
  have l0 := lv_at hl 0 (i := 0) (v := .ref aK) rfl
  have hT : va_T .byte aV 102 (fun j => .int (byt.getD j 0)) nF s s.heap := (hv.1.1 0 (by decide)).2.2.2
  refine lv_aload_n hx hb dJ0_length_8abf5_0 rfl l0 ?_
  refine vk_getf hx hb (hv.1.1 0 (by decide)).2.2.1 hS hown (hG _ wj_va) (fun _ h => h) dJ0_length_8abf5_1 ?_
  refine va_tlen hx hb hT hS (v := 102) (by decide) dJ0_length_8abf5_4 ?_
  refine lv_aload_n hx hb dJ0_length_8abf5_5 rfl l0 ?_
  refine va_calli (va_runV (As := []) (b := aK) (rest := [.int 102]) ⟨hx, hb, hml, hown, hts⟩ (m_coder l (aK := aK) (aV := aV) (byt := byt))
    (cwV 0 hts (by unfold wsV; exact good_app (good_list wsY_in wv_coder) (wsY_good wsY_in wc_coder)) rfl rfl rfl ⟨rfl, by decide +kernel⟩ ⟨by decide, by decide⟩)
    ⟨SKc.blind, vk_recv (i := 0) hv.1 (by decide) hS, fun U hU hW => ⟨rfl, SKc.next hW (fun a _ => by rw [hU]) hv⟩⟩ rfl rfl hl.1 rfl (Nat.le_of_ble_eq_true rfl) dJ0_length_8abf5_6 ⟨Nat.le_refl _, Nat.le_refl _⟩) hS (fun _ _ h => h) (fun _ h => h) (fun x u t H1 locs1 ht hal hp hB hz hk hS1 => ?_)
  subst hp
  refine lv_ishr hx hb dJ0_length_8abf5_9 ?_
  exact W.iret hx hb hr (fun t ht hW => ⟨⟨102, (), rfl, rfl, trivial⟩, hS1.F ht⟩) hS1.2.2 dJ0_length_8abf5_10
theorem m_pre (l : Launch) {i : Int32} {v : Value} (h0 : ¬ i < 0) (h1 : i < 102) (hv0 : v = .null ∨ ∃ t, v = .ref t) : Met l yJ3_checkIndex_8e157 (wsY kc_pre) (rmD 1 0 0) (va_Pc [.int i, .int 102, v] (fun _ => True)) (QJ (fun _ => True)) 0 0 nF := by
  refine Met.ofW (cc := cJ3_checkIndex_8e157) (maxL := 3) (ret := some .int) (by decide) rfl ?_
  intro p e s m args below meth c s₁ B hml hv
  obtain ⟨rfl, hv⟩ := hv
  have hx := B.exec
  have hb := B.bytes
  have hr := B.returns
  have hlocks := B.notSynchronized
  have hl := lv_entry ([.int i, .int 102, v]) (n := 3) (by rcases hv0 with rfl | ⟨t, rfl⟩ <;> exact Nat.le_of_ble_eq_true rfl)
  rw [lg_entry_eq]
  have hS : va_S nF s.heap s.heap [] := va_S.rf
  have l0 := lv_at hl 0 (i := 0) (v := .int i) rfl
  have l1 := lv_at hl 1 (i := 1) (v := .int 102) rfl
  refine lv_iload_n hx hb dJ3_checkIndex_8e157_0 rfl l0 ?_
  refine lv_if_lt hx hb dJ3_checkIndex_8e157_1 (tgt := 9) (by decide) (fun h => absurd h h0) (fun _ => ?_)
  refine lv_iload_n hx hb dJ3_checkIndex_8e157_4 rfl l0 ?_
  refine lv_iload_n hx hb dJ3_checkIndex_8e157_5 rfl l1 ?_
  refine lv_icmp_lt hx hb dJ3_checkIndex_8e157_6 (tgt := 16) (by decide) (fun _ => ?_) (fun h => absurd h1 h)
  refine lv_iload_n hx hb dJ3_checkIndex_8e157_16 rfl l0 ?_
  exact W.iret hx hb hr (fun t ht hW => ⟨⟨i, (), rfl, trivial, trivial⟩, hS.F ht⟩) hS.2.2 dJ3_checkIndex_8e157_17
theorem m_ci (l : Launch) {aK aV : Nat} {byt : List Int32} {i : Int32} (h0 : ¬ i < 0) (h1 : i < 102) : Met l yJ0_checkIndex_df160 (wsY kc_ci) (rmD 2 0 0) (va_Pc [.int i, .int 102] (SKc aK aV byt)) (va_Qv (fun (_ : Unit) => True) (fun _ _ => True) nF) 0 0 nF := by
  refine Met.ofW (cc := cJ0_checkIndex_df160) (maxL := 2) (ret := none) (by decide) rfl ?_
  intro p e s m args below meth c s₁ B hml hv
  obtain ⟨rfl, hv⟩ := hv
  have hx := B.exec
  have hb := B.bytes
  have hr := B.returns
  have hts := atoms_spec (ws := wsY kc_ci) B.pre
  have hG := fun w h => hts w (wsY_in w h)
  have hown : s.vm.findClass RJ0 = some m.cls := findClass_of_methodNamed B.named
  have hlocks := B.notSynchronized
  have hl := lv_entry ([.int i, .int 102]) (n := 2) (Nat.le_of_ble_eq_true rfl)
  rw [lg_entry_eq]
  have hS : va_S nF s.heap s.heap [] := va_S.rf
  have l0 := lv_at hl 0 (i := 0) (v := .int i) rfl
  have l1 := lv_at hl 1 (i := 1) (v := .int 102) rfl
  refine lv_iload_n hx hb dJ0_checkIndex_df160_0 rfl l0 ?_
  refine lv_iload_n hx hb dJ0_checkIndex_df160_1 rfl l1 ?_
  have key : ∀ v : Value, (v = .null ∨ ∃ t, v = .ref t) → va_Z "jdk/internal/util/Preconditions" "SIOOBE_FORMATTER" "Ljava/util/function/BiFunction;" v nF s s.heap → W p l e (rmD 2 0 0) s m ([.int i, .int 102] : List Value).toArray below meth c s.heap [] 0 0 (MQ below (va_Qv (fun (_ : Unit) => True) (fun _ _ => True) nF) ([.int i, .int 102] : List Value).toArray s 0 0 nF) (F0 m 2 ((lg_sl ([.int i, .int 102] : List Value) ++ List.replicate (2 - (lg_sl ([.int i, .int 102] : List Value)).length) Slot.unset).toArray) [.int 102, .int i]) := by
    intro v hv0 hZ
    refine va_gets hx hb hZ hS hown (hG _ wj_fm) (fun _ h => h) dJ0_checkIndex_df160_2 ?_
    refine va_calli (va_runS (As := [.int i, .int 102, v]) (rest := []) ⟨hx, hb, hml, hown, hts⟩ (m_pre l h0 h1 hv0)
      (va_cwS 3 hts (by unfold va_wsS; exact good_app (good_list wsY_in ws_pre) (wsY_good wsY_in wc_pre)) rfl rfl rfl (by decide +kernel) ⟨by decide, by decide⟩)
      ⟨fun a U g mk q => q, fun U hU hW => ⟨rfl, trivial⟩⟩ rfl rfl hl.1 rfl (Nat.le_of_ble_eq_true rfl) dJ0_checkIndex_df160_5 ⟨Nat.le_refl _, Nat.le_refl _⟩) hS (fun _ _ h => h) (fun _ h => h) (fun x u t H1 locs1 ht hal hp hB hz hk hS1 => ?_)
    refine lv_pop hx hb dJ0_checkIndex_df160_8 rfl ?_
    exact W.vret hx hb hr (fun t ht hW => ⟨⟨(), rfl, trivial, trivial⟩, hS1.F ht⟩) hS1.2.2 dJ0_checkIndex_df160_9
  rcases hv.2.2 with hZ | ⟨t, hZ⟩
  · exact key .null (Or.inl rfl) hZ
  · exact key (.ref t) (Or.inr ⟨t, rfl⟩) hZ
theorem m_c1 (l : Launch) {aK aV : Nat} {byt : List Int32} {i : Int32} (h0 : ¬ i < 0) (h1 : i < 102) : Met l yJ1_charAt_3b067 (wsY kc_c1) (rmD 3 0 0) (va_Pc [.ref aV, .int i] (SKc aK aV byt)) (QJ (fun x => x = byt.getD i.toNatClampNeg 0 &&& 255)) 0 0 nF := by
  refine Met.ofW (cc := cJ1_charAt_3b067) (maxL := 2) (ret := some .char) (by decide) rfl ?_
  intro p e s m args below meth c s₁ B hml hv
  obtain ⟨rfl, hv⟩ := hv
  have hx := B.exec
  have hb := B.bytes
  have hr := B.returns
  have hts := atoms_spec (ws := wsY kc_c1) B.pre
  have hown : s.vm.findClass RJ1 = some m.cls := findClass_of_methodNamed B.named
  have hlocks := B.notSynchronized
  have hl := lv_entry ([.ref aV, .int i]) (n := 2) (Nat.le_of_ble_eq_true rfl)
  rw [lg_entry_eq]
  have hS : va_S nF s.heap s.heap [] := va_S.rf
  have l0 := lv_at hl 0 (i := 0) (v := .ref aV) rfl
  have l1 := lv_at hl 1 (i := 1) (v := .int i) rfl
  have hT : va_T .byte aV 102 (fun j => .int (byt.getD j 0)) nF s s.heap := (hv.1.1 0 (by decide)).2.2.2
  refine lv_iload_n hx hb dJ1_charAt_3b067_0 rfl l1 ?_
  refine lv_aload_n hx hb dJ1_charAt_3b067_1 rfl l0 ?_
  refine va_tlen hx hb hT hS (v := 102) (by decide) dJ1_charAt_3b067_2 ?_
  refine va_callv (va_runS (As := [.int i, .int 102]) (rest := []) ⟨hx, hb, hml, hown, hts⟩ (m_ci l (aK := aK) (aV := aV) (byt := byt) h0 h1)
    (va_cwS 2 hts (by unfold va_wsS; exact good_app (good_list wsY_in ws_ci) (wsY_good wsY_in wc_ci)) rfl rfl rfl (by decide +kernel) ⟨by decide, by decide⟩)
    ⟨SKc.blind, fun U hU hW => ⟨rfl, SKc.next hW (fun a _ => by rw [hU]) hv⟩⟩ rfl rfl hl.1 rfl (Nat.le_of_ble_eq_true rfl) dJ1_charAt_3b067_3 ⟨Nat.le_refl _, Nat.le_refl _⟩) hS (fun _ _ h => h) (fun _ h => h) (fun u t H1 locs1 ht hal hp hB hz hk hS1 => ?_)
  refine lv_aload_n hx hb dJ1_charAt_3b067_6 rfl l0 ?_
  refine lv_iload_n hx hb dJ1_charAt_3b067_7 rfl l1 ?_
  have hin : vp_in i 102 := by
    have e1 : ¬ i.toInt < 0 := fun z => h0 (Int32.lt_iff_toInt_lt.mpr z)
    have e2 : i.toInt < 102 := Int32.lt_iff_toInt_lt.mp h1
    exact vp_in_iff.mpr ⟨by omega, by omega⟩
  refine va_tb hx hb hT hS1 hin rfl dJ1_charAt_3b067_8 ?_
  refine lv_sipush hx hb dJ1_charAt_3b067_9 (v := 255) (by decide) ?_
  refine lv_iand hx hb dJ1_charAt_3b067_12 ?_
  refine lv_i2c hx hb dJ1_charAt_3b067_13 (sc_c2 _) ?_
  exact W.zret (ty := .char) hx hb hr (sc_nar _) (fun t ht hW => ⟨⟨_, (), rfl, rfl, trivial⟩, hS1.F ht⟩) hS1.2.2 dJ1_charAt_3b067_14
theorem m_charAt (l : Launch) {aK aV : Nat} {byt : List Int32} {i : Int32} (h0 : ¬ i < 0) (h1 : i < 102) : Met l yJ0_charAt_5068e (wsY kc_charAt) (rmD 4 0 0) (va_Pc [.ref aK, .int i] (SKc aK aV byt)) (QJ (fun x => x = byt.getD i.toNatClampNeg 0 &&& 255)) 0 0 nF := by
  refine Met.ofW (cc := cJ0_charAt_5068e) (maxL := 2) (ret := some .char) (by decide) rfl ?_
  intro p e s m args below meth c s₁ B hml hv
  obtain ⟨rfl, hv⟩ := hv
  have hx := B.exec
  have hb := B.bytes
  have hr := B.returns
  have hts := atoms_spec (ws := wsY kc_charAt) B.pre
  have hG := fun w h => hts w (wsY_in w h)
  have hown : s.vm.findClass RJ0 = some m.cls := findClass_of_methodNamed B.named
  have hlocks := B.notSynchronized
  have hl := lv_entry ([.ref aK, .int i]) (n := 2) (Nat.le_of_ble_eq_true rfl)
  rw [lg_entry_eq]
  have hS : va_S nF s.heap s.heap [] := va_S.rf
  have l0 := lv_at hl 0 (i := 0) (v := .ref aK) rfl
  have l1 := lv_at hl 1 (i := 1) (v := .int i) rfl
  refine lv_aload_n hx hb dJ0_charAt_5068e_0 rfl l0 ?_
  refine va_calli (va_runV (As := []) (b := aK) (rest := []) ⟨hx, hb, hml, hown, hts⟩ (m_isLatin1 l (aK := aK) (aV := aV) (byt := byt))
    (cwV 0 hts (by unfold wsV; exact good_app (good_list wsY_in wv_isLatin1) (wsY_good wsY_in wc_isLatin1)) rfl rfl rfl ⟨rfl, by decide +kernel⟩ ⟨by decide, by decide⟩)
    ⟨SKc.blind, vk_recv (i := 0) hv.1 (by decide) hS, fun U hU hW => ⟨rfl, SKc.next hW (fun a _ => by rw [hU]) hv⟩⟩ rfl rfl hl.1 rfl (Nat.le_of_ble_eq_true rfl) dJ0_charAt_5068e_1 ⟨Nat.le_refl _, Nat.le_refl _⟩) hS (fun _ _ h => h) (fun _ h => h) (fun x u t H1 locs1 ht hal hp hB hz hk hS1 => ?_)
  subst hp
  refine lv_if_eq hx hb dJ0_charAt_5068e_4 (tgt := 16) (by decide) (fun h => absurd h (by decide)) (fun _ => ?_)
  refine lv_aload_n hx hb dJ0_charAt_5068e_7 rfl l0 ?_
  refine vk_getf hx hb (hv.1.1 0 (by decide)).2.2.1 hS1 hown (hG _ wj_va) (fun _ h => h) dJ0_charAt_5068e_8 ?_
  refine lv_iload_n hx hb dJ0_charAt_5068e_11 rfl l1 ?_
  refine va_calli (va_runS (As := [.ref aV, .int i]) (rest := []) ⟨hx, hb, hml, hown, hts⟩ (m_c1 l (aK := aK) (aV := aV) (byt := byt) h0 h1)
    (va_cwS 2 hts (by unfold va_wsS; exact good_app (good_list wsY_in ws_c1) (wsY_good wsY_in wc_c1)) rfl rfl rfl (by decide +kernel) ⟨by decide, by decide⟩)
    ⟨SKc.blind, fun U hU hW => ⟨rfl, SKc.next hW (fun a ha => by rw [hU]; exact hk a ha (fun z => z)) hv⟩⟩ rfl rfl hl.1 rfl (Nat.le_of_ble_eq_true rfl) dJ0_charAt_5068e_12 ⟨Nat.le_refl _, Nat.le_refl _⟩) hS1 (fun _ _ h => h) (fun _ h => h) (fun x u t H2 locs2 ht2 hal2 hp2 hB2 hz2 hk2 hS2 => ?_)
  exact W.zret (ty := .char) hx hb hr (by rw [hp2]; exact sc_nar _) (fun t ht hW => ⟨⟨x, (), rfl, hp2, trivial⟩, hS2.F ht⟩) hS2.2.2 dJ0_charAt_5068e_15
end PT17x3
section PT17x4
/-! ===== the plate: the scribe's table ===== -/
/-! ===== and the reference's ===== -/
noncomputable def rc (f : Nat → Int32) (n : Nat) (N : Im) (M k : Nat) : Prop := M.testBit k = false ∧ smN f n (M ||| 2 ^ k) ≤ 2329089562800 ∧ (N 110 (M ||| 2 ^ k)).toInt < 0
end PT17x4
section PT17x5
/-! ===== the Reader's constructor keeps its contract ===== -/
theorem rd_three {o : Nat} (h : isO o o 6 = true) : o = 3 := by
  obtain ⟨h1, -, h3⟩ := isO_spec h
  by_cases hq : o - 1 < 112
  · have all : ∀ k, k < 112 → (shl.getD k (999, 0)).1 = 6 → k = 2 := by decide +kernel
    have := all (o - 1) hq h3
    omega
  · rw [sh_out (by omega)] at h3
    cases h3
theorem metd0 (l : Launch) : MetD l 0 := fun _ _ _ _ _ _ _ _ _ _ _ _ _ hM => hM.elim
set_option maxRecDepth 100000 in
theorem rs_85 {Q : Nat → Qt} {P : Kt} (hc : Cl (AM 0) false false 0 (fun _ => 0) 0 5 kRd Q P) (v1 v2 : Int32) (I : Im) (J : Jm) (R : Rm) (h : P 86 5 [(0, .ref 3), (1, .int v1), (2, .int v2)] [.int v2] I J R) : P 85 5 [(0, .ref 3), (1, .int v1), (2, .int v2)] [] I J R :=
  run_at (AM_m 0) hc (stops := [(86, [0, 1, 2])]) (k := 3) h
set_option maxRecDepth 100000 in
theorem rs_91 {Q : Nat → Qt} {P : Kt} (hc : Cl (AM 0) false false 0 (fun _ => 0) 0 5 kRd Q P) (v1 v2 : Int32) (I : Im) (J : Jm) (R : Rm) (h : ((102 : Int32) ≤ v2 → Q 5 0 0 I J R) ∧ (¬ (102 : Int32) ≤ v2 → P 94 5 [(0, .ref 3), (1, .int v1), (2, .int v2)] [] I J R)) : P 91 5 [(0, .ref 3), (1, .int v1), (2, .int v2)] [.int 102, .int v2] I J R :=
  run_at (AM_m 0) hc (stops := [(94, [0, 1, 2])]) (k := 5) h
set_option maxRecDepth 100000 in
theorem rs_100 {Q : Nat → Qt} {P : Kt} (hc : Cl (AM 0) false false 0 (fun _ => 0) 0 5 kRd Q P) (v1 v2 x : Int32) (I : Im) (J : Jm) (R : Rm)
    (h : (¬ x = 32 → ((21 : Int32) < v1 → P 85 5 [(0, .ref 3), (1, .int v1), (2, .int (v2 + 1))] [] I J R) ∧ (¬ (21 : Int32) < v1 → (¬ R 3 2 = 0 ∧ (¬ R 3 2 = 0 ∧ (vp_in v1 22 ∧ (vp_in v1 22 ∧ P 85 5 [(0, .ref 3), (1, .int v1), (2, .int (v2 + 1))] [] I (uJ J 5 v1.toNatClampNeg (J 5 v1.toNatClampNeg * 32 + (x - 97 + 1).toInt64)) R)))))) ∧ (x = 32 → P 85 5 [(0, .ref 3), (1, .int (v1 + 1)), (2, .int (v2 + 1))] [] I J R)) : P 100 5 [(0, .ref 3), (1, .int v1), (2, .int v2)] [.int x] I J R :=
  run_at (AM_m 0) hc (stops := [(85, [0, 1, 2])]) (k := 40) h
noncomputable def rdI (I : Im) : Im := uI (uI (uI (uI (uI (uI (uI (uI (uI (uI (zI (uI (zI I 4) 3 1 0) 5) 3 3 0) 3 4 0) 3 5 0) 3 6 0) 3 7 0) 3 8 0) 3 9 (-1)) 3 11 0) 3 12 0) 3 13 (-1)
noncomputable def rdJ (J : Jm) : Jm := uJ (zJ (zJ J 4) 5) 3 10 0
noncomputable def rdR (R : Rm) : Rm := uR (zR (uR (zR R 4) 3 0 4) 5) 3 2 5
set_option maxRecDepth 100000 in
theorem rs_0 {Q : Nat → Qt} {P : Kt} (hc : Cl (AM 0) false false 0 (fun _ => 0) 0 5 kRd Q P) (I : Im) (J : Jm) (R : Rm)
    (h : P 85 5 [(0, .ref 3), (1, .int 1), (2, .int 0)] [] (rdI I) (rdJ J) (rdR R)) : P 0 3 [(0, .ref 3)] [] I J R :=
  run_at (AM_m 0) hc (stops := [(85, [0, 1, 2])]) (k := 60) ⟨rfl, rfl, Or.inl rfl, h⟩
/-- the words of the text, as numbers, by its letters -/
noncomputable def rdC (i : Nat) : Int32 := rd_by.getD i 0 &&& 255
noncomputable def rdN : Nat → Nat
  | 0 => 1
  | i + 1 => if rdC i = 32 then rdN i + 1 else rdN i
noncomputable def rdA : Nat → Nat → Int64
  | 0, _ => 0
  | i + 1, k => if rdC i = 32 then rdA i k else (if k = rdN i then rdA i k * 32 + (rdC i - 97 + 1).toInt64 else rdA i k)
set_option maxRecDepth 100000 in
theorem rdN_in : ∀ i, i < 103 → 1 ≤ rdN i ∧ rdN i ≤ 21 := by decide +kernel
set_option maxRecDepth 100000 in
theorem rdA_rsv : ∀ k, k < 22 → rdA 102 k = rsv.getD k 0 := by decide +kernel
theorem rd_loop {Q : Nat → Qt} {P : Kt} (hc : Cl (AM 0) false false 0 (fun _ => 0) 0 5 kRd Q P) {I : Im} {J0 : Jm} {R : Rm} (hR : ¬ R 3 2 = 0)
    (hL : ∀ (v1 v2 : Int32) (J : Jm), P 91 5 [(0, .ref 3), (1, .int v1), (2, .int v2)] [.int 102, .int v2] I J R → P 86 5 [(0, .ref 3), (1, .int v1), (2, .int v2)] [.int v2] I J R)
    (hC : ∀ (v1 v2 : Int32) (J : Jm), ¬ v2 < 0 → v2 < 102 → P 100 5 [(0, .ref 3), (1, .int v1), (2, .int v2)] [.int (rd_by.getD v2.toNatClampNeg 0 &&& 255)] I J R → P 94 5 [(0, .ref 3), (1, .int v1), (2, .int v2)] [] I J R)
    (hQ : ∀ J : Jm, (∀ i, i ≠ 5 → J i = J0 i) → (∀ k, k < 22 → J 5 k = rsv.getD k 0) → Q 5 0 0 I J R) : ∀ (m i : Nat) (J : Jm), i + m = 102 → (∀ i, i ≠ 5 → J i = J0 i) → (∀ k, k < 22 → J 5 k = rdA i k) → P 85 5 [(0, .ref 3), (1, .int (nI (rdN i))), (2, .int (nI i))] [] I J R := by
  intro m
  induction m with
  | zero =>
    intro i J hi hJ hA
    obtain rfl : i = 102 := by omega
    exact rs_85 hc _ _ _ _ _ (hL _ _ _ (rs_91 hc _ _ _ _ _ ⟨fun _ => hQ J hJ (fun k hk => by rw [hA k hk]; exact rdA_rsv k hk), fun c => absurd (by decide) c⟩))
  | succ m ih =>
    intro i J hi hJ hA
    have hn := rdN_in i (by omega)
    refine rs_85 hc _ _ _ _ _ (hL _ _ _ (rs_91 hc _ _ _ _ _ ⟨fun c => absurd c (nI_ge (a := i) (b := 102) (by omega) (by omega)), fun _ => ?_⟩))
    refine hC _ _ _ (nI_pos (by omega)) (nI_lt (a := i) (b := 102) (by omega) (by omega)) (rs_100 hc _ _ _ _ _ _ ?_)
    rw [nI_clamp (by omega), nI_clamp (by omega), ← nI_succ, ← nI_succ]
    change (¬ rdC i = 32 → _) ∧ (rdC i = 32 → _)
    have hv : vp_in (nI (rdN i)) 22 := vp_of (nI_toInt (by omega)) (by omega) (by omega)
    refine ⟨fun c => ⟨fun c2 => absurd c2 (nI_nlt (a := 21) (b := rdN i) (by omega) (by omega)), fun _ => ⟨hR, hR, hv, hv, ?_⟩⟩, fun c => ?_⟩
    · have e1 : rdN (i + 1) = rdN i := by
        show (if rdC i = 32 then rdN i + 1 else rdN i) = rdN i
        rw [if_neg c]
      have := ih (i + 1) (uJ J 5 (rdN i) (J 5 (rdN i) * 32 + (rdC i - 97 + 1).toInt64)) (by omega) (fun j hj => (uJ_ne hj).trans (hJ j hj)) (fun k hk => by
        show _ = (if rdC i = 32 then rdA i k else (if k = rdN i then rdA i k * 32 + (rdC i - 97 + 1).toInt64 else rdA i k))
        rw [if_neg c]
        by_cases q : k = rdN i
        · subst q; rw [if_pos rfl, ← hA _ hk]; simp [uJ, vp_updL]
        · rw [if_neg q, ← hA _ hk]; simp [uJ, vp_updL, q])
      rw [e1] at this; exact this
    · have e1 : rdN (i + 1) = rdN i + 1 := by
        show (if rdC i = 32 then rdN i + 1 else rdN i) = rdN i + 1
        rw [if_pos c]
      have := ih (i + 1) J (by omega) hJ (fun k hk => by
        show _ = (if rdC i = 32 then rdA i k else (if k = rdN i then rdA i k * 32 + (rdC i - 97 + 1).toInt64 else rdA i k))
        rw [if_pos c]; exact hA k hk)
      rw [e1] at this; exact this
set_option maxRecDepth 100000 in
theorem dx_86 : decode cX6_init 86 = .ok (.ldc 58, 2) := by decide +kernel
set_option maxRecDepth 100000 in
theorem dx_88 : decode cX6_init 88 = .ok (.invokevirtual 60, 3) := by decide +kernel
set_option maxRecDepth 100000 in
theorem dx_94 : decode cX6_init 94 = .ok (.ldc 58, 2) := by decide +kernel
set_option maxRecDepth 100000 in
theorem dx_96 : decode cX6_init 96 = .ok (.iload_n 2, 1) := by decide +kernel
set_option maxRecDepth 100000 in
theorem dx_97 : decode cX6_init 97 = .ok (.invokevirtual 66, 3) := by decide +kernel
theorem rd_row : mQ mReader = (kX6_init, yX6_init, cX6_init, none, [4, 0, 2, 0, 0, 6, 1, 1, 1]) := rfl
set_option maxHeartbeats 4000000 in
theorem met_reader (l : Launch) : MetR l := by
  intro d D ca h0 b n as I J R Q h
  obtain ⟨o, rfl, hO, ⟨hA1, hA2, hA3, hA4, hno⟩, hQ⟩ := h
  obtain rfl : n = o := by omega
  obtain rfl := rd_three hO
  rw [rd_row]
  show Met l yX6_init (Cond.code yX6_init cX6_init 4 none :: wsG) (rmD (d + 6) 2 (sl (3 + 2) - sl 3)) (va_Pc [.ref (ad h0 b 3)] (fun U => Wok D ca h0 b 3 I J R U)) (mPost D ca h0 b (3 + 2) 0 0 R Q (mFree ca h0 b 3 I J R)) 2 (sl (3 + 2) - sl 3) (mFree ca h0 b 3 I J R)
  refine Met.ofW (cc := cX6_init) (maxL := 4) (ret := none) (by decide) rfl ?_
  intro p e s m args below meth c s₁ B hml hv
  obtain ⟨rfl, hsz, hP, hK, hNN, hSK⟩ := hv
  have hx := B.exec
  have hb := B.bytes
  have hr := B.returns
  have hts := atoms_spec (ws := Cond.code yX6_init cX6_init 4 none :: wsG) B.pre
  have hown : s.vm.findClass RX6 = some m.cls := findClass_of_methodNamed B.named
  have hlocks := B.notSynchronized
  have hA : ∀ q : Nat, h0 ≤ q → mFree ca h0 b 3 I J R q := fun q h => mFree_ge.mpr h
  have hIn : ∀ w ∈ wsG, w ∈ (Cond.code yX6_init cX6_init 4 none :: wsG) := fun w hw => List.mem_cons_of_mem _ hw
  have hC : Ctx p (rmD (d + 6) 2 (sl (3 + 2) - sl 3)) s m ([.ref (ad h0 b 3)] : List Value).toArray meth c RX6 cX6_init 4 1 (Cond.code yX6_init cX6_init 4 none :: wsG) D ca h0 b 3 5 0 (mFree ca h0 b 3 I J R) false (fun _ => 0) :=
    ⟨hx, hb, hml, hown, hts, hIn, hK, ⟨hNN, hSK, fun q h => mFree_ge.mp h⟩, hA, hsz, fun _ => (name_of_methodNamed B.named B.method).1, ⟨Nat.le_refl _, Nat.le_refl _⟩, ⟨by show 1 ≤ d + 6; omega, by show 64 ≤ 64 * (d + 6); omega⟩, fun q => by cases q⟩
  have hS0 : va_S (mFree ca h0 b 3 I J R) s.heap s.heap [] := va_S.rf
  have hRet : RetOk p l e (rmD (d + 6) 2 (sl (3 + 2) - sl 3)) s m ([.ref (ad h0 b 3)] : List Value).toArray below meth c (MQ below (mPost D ca h0 b (3 + 2) 0 0 R Q (mFree ca h0 b 3 I J R)) ([.ref (ad h0 b 3)] : List Value).toArray s 2 (sl (3 + 2) - sl 3) (mFree ca h0 b 3 I J R)) cX6_init D ca h0 b 3 (mFree ca h0 b 3 I J R) 0 (fun n' x y I' J' R' => n' = 5 ∧ Q x y I' J' R') := by
    intro pc n' I' J' R' H locs ls hn hP' hS'
    refine ⟨fun hk hdg hq => ?_, fun hk => by omega, fun hk => by omega⟩
    obtain ⟨rfl, hq⟩ := hq
    refine W_cs2 (n := 3) (al := 2) hsz hP' hS' (fun hz => ?_)
    exact W.vret hx hb hr (fun t ht hW => ⟨⟨(I', J', R'), rfl, ⟨(fun z => by cases z), hq⟩, by rw [ht]; exact hz, by rw [ht]; exact hP'⟩, hS'.F ht⟩) hS'.2.2 hdg
  have hc : Cl (AM 0) false false 0 (fun _ => 0) 0 5 kRd (fun n' x y I' J' R' => n' = 5 ∧ Q x y I' J' R') (PW p l e (rmD (d + 6) 2 (sl (3 + 2) - sl 3)) s m ([.ref (ad h0 b 3)] : List Value).toArray below meth c (MQ below (mPost D ca h0 b (3 + 2) 0 0 R Q (mFree ca h0 b 3 I J R)) ([.ref (ad h0 b 3)] : List Value).toArray s 2 (sl (3 + 2) - sl 3) (mFree ca h0 b 3 I J R)) 4 D ca h0 b 3 (mFree ca h0 b 3 I J R) false) :=
    ⟨fun en hen n' lv st I' J' R' h => step_ok (isl := false) (xs := fun _ => 0) (L := 0) hC (metd0 l) ⟨by show 0 + 1 ≤ d + 6; omega, by show 64 * (0 + 1) ≤ 64 * (d + 6); omega⟩ qRk_le hRet (rd_okE en hen) (rd_need en hen) h, fun pc n' ks lv st I' J' R' h => PW_pk h⟩
  obtain ⟨tx, aK, aV, byt0, hby, hk1, hk2, hk3, hk4⟩ := hSK
  subst hby
  have hU0 : ∀ (H : Heap) (locs : List Loc), va_S (mFree ca h0 b 3 I J R) s.heap H locs → ∀ U : State, U.heap = H → s.WarmedH U.vm → SKc aK aV rd_by U := by
    intro H locs hS U hU hW
    have hq : ∀ a : Nat, a < s.heap.size → ¬ h0 ≤ a → U.heap[a]? = s.heap[a]? := fun a h1 h2 => by rw [hU]; exact hS.2.1 a h1 (fun z => h2 (mFree_ge.mp z))
    exact ⟨((vk_S.moved hW.alike hk2).kept hq).narrow (fun _ z => z.elim), ((va_Z.moved hW.alike hk3).kept hq).narrow (fun _ z => z.elim), ((va_Zq.moved hW.alike hk4).kept hq).narrow (fun _ z => z.elim)⟩
  have hk2' : vk_S 1 [102] [rd_by] (fun _ => aK) (fun _ => aV) (mFree ca h0 b 3 I J R) s s.heap := hk2.narrow (fun q z => mFree_ge.mp z)
  have key := rs_0 hc I J R (rd_loop hc (I := rdI I) (J0 := rdJ J) (R := rdR R) (show ¬ (5 : Nat) = 0 by decide) ?_ ?_ ?_ 102 0 (rdJ J) (by decide) (fun _ _ => rfl) (fun _ _ => rfl))
  · have hl := lv_entry ([.ref (ad h0 b 3)] : List Value) (n := 4) (Nat.le_of_ble_eq_true rfl)
    rw [lg_entry_eq]
    exact key s.heap [] _ (Nat.le_refl 3) (fun q => by cases q) hP hS0 hl
  · intro v1 v2 J1 h H locs ls hn hph hP hS hl
    refine va_ldcS hx hb hown hk1 dx_86 ?_
    refine va_calli (va_runV (As := []) (b := aK) (rest := [.int v2]) ⟨hx, hb, hml, hown, hts⟩ (m_length l (aK := aK) (aV := aV) (byt := rd_by))
      (cwV 0 hts (by unfold wsV; exact good_app (good_list hIn wv_length) (wsY_good hIn wc_length)) rfl rfl rfl ⟨rfl, by decide +kernel⟩ ⟨by show 2 + 1 ≤ d + 6; omega, by show 8 + (1 + 11) + 64 * 2 ≤ 64 * (d + 6); omega⟩)
      ⟨SKc.blind, vk_recv (i := 0) hk2' (by decide) hS, fun U hU hW => ⟨rfl, hU0 H locs hS U hU hW⟩⟩ rfl rfl hl.1 rfl (Nat.le_of_ble_eq_true rfl) dx_88 ⟨?_, ?_⟩) hS (fun _ _ h => h.elim) (fun _ h => h.elim) (fun x u t H1 locs1 ht hal hp hB hz hk hS1 => ?_)
    · show 5 - 3 + 0 ≤ 2; omega
    · exact Nat.le_refl _
    · subst hp
      exact h H1 locs1 ls hn hph (hP.kept (fun k x hx => hk x.1 (hP k x hx).lt (fun z => z))) hS1 hl
  · intro v1 v2 J1 hv0 hv1 h H locs ls hn hph hP hS hl
    refine va_ldcS hx hb hown hk1 dx_94 ?_
    refine lv_iload_n hx hb dx_96 (i := 2) (x := v2) rfl (lv_gt (v := .int v2) hl rfl (by intro q; cases q)) ?_
    refine va_calli (va_runV (As := [.int v2]) (b := aK) (rest := []) ⟨hx, hb, hml, hown, hts⟩ (m_charAt l (aK := aK) (aV := aV) (byt := rd_by) hv0 hv1)
      (cwV 1 hts (by unfold wsV; exact good_app (good_list hIn wv_charAt) (wsY_good hIn wc_charAt)) rfl rfl rfl ⟨rfl, by decide +kernel⟩ ⟨by show 4 + 1 ≤ d + 6; omega, by show 8 + (2 + 11) + 64 * 4 ≤ 64 * (d + 6); omega⟩)
      ⟨SKc.blind, vk_recv (i := 0) hk2' (by decide) hS, fun U hU hW => ⟨rfl, hU0 H locs hS U hU hW⟩⟩ rfl rfl hl.1 rfl (Nat.le_of_ble_eq_true rfl) dx_97 ⟨?_, ?_⟩) hS (fun _ _ h => h.elim) (fun _ h => h.elim) (fun x u t H1 locs1 ht hal hp hB hz hk hS1 => ?_)
    · show 5 - 3 + 0 ≤ 2; omega
    · exact Nat.le_refl _
    · subst hp
      exact h H1 locs1 ls hn hph (hP.kept (fun k x hx => hk x.1 (hP k x hx).lt (fun z => z))) hS1 hl
  · intro J1 hJ hA
    refine ⟨rfl, hQ (rdI I) J1 (rdR R) (fun i h1 h2 h3 => ?_) (fun i h1 h2 h3 => ?_) (fun i h1 h2 h3 => ?_) ⟨fun k => rfl, rfl, rfl, rfl, rfl, rfl, rfl, rfl, rfl, rfl, rfl, ?_, rfl, rfl, rfl, hA⟩⟩
    · simp only [rdI, uI_ne h1, zI_ne h2, zI_ne h3]
    · rw [hJ i h3]
      simp only [rdJ, uJ_ne h1, zJ_ne h2, zJ_ne h3]
    · simp only [rdR, uR_ne h1, zR_ne h2, zR_ne h3]
    · rw [hJ 3 (by decide)]
      rfl
end PT17x5
section PT17x6
noncomputable def RA (a b : Int32) : Int := 100 * (a.toInt - b.toInt)
noncomputable def RB (a b c : Int32) : Int := 100 * (a.toInt - b.toInt) - 60 + c.toInt
theorem ra_nn6 {a b : Int32} (h : b.toInt ≤ a.toInt) : 0 ≤ RA a b := by unfold RA; omega
theorem rb_nn6 {a b c : Int32} (h : b.toInt < a.toInt) (h2 : 0 ≤ c.toInt) : 0 ≤ RB a b c := by unfold RB; omega
theorem rb_lt60 {a b c : Int32} (h : c.toInt ≤ 30) : RB a b c < RA a b := by unfold RA RB; omega
theorem rb_lt6 {a b c e : Int32} (h : e.toInt < c.toInt) : RB a b e < RB a b c := by unfold RB; omega
theorem ra_lt6 {a b c e : Int32} (h : e.toInt = b.toInt + 1) (hc : 0 ≤ c.toInt) : RA a e < RB a b c := by unfold RA RB; omega
theorem ms_lt6 {a b : Int} {n : Nat} (h1 : a < b) (h2 : b < ((n + 1 : Nat) : Int)) : a < (n : Int) := by omega
theorem ra_ub62 (a b : Int32) : RA a b < ((900000000000 : Nat) : Int) := by have := i32 a; have := i32 b; unfold RA; omega
theorem in4 {v2 v4 : Int32} (h3 : 0 ≤ v4.toInt) (h4 : v4.toInt < v2.toInt) : (v4 + 1 : Int32).toInt = v4.toInt + 1 := ti_add rfl rfl (by have := i32 v2; omega)
theorem le30 {a : Int} (h : a ≤ 30) : a < ((31 : Nat) : Int) := by omega
theorem le1 {a : Int} (h : 1 ≤ a) : 0 ≤ a := by omega
theorem dc_v6 {v6 : Int32} (h6 : 1 ≤ v6.toInt) : (v6 + (-1) : Int32).toInt = v6.toInt + (-1) := ti_add rfl rfl (by have := i32 v6; omega)
theorem rn_dc6 {M : Im} {v3 v5 v6 : Int32} (h : RN M v3 v5 v6) (h6 : 1 ≤ v6.toInt) (hne : (M 108 v6.toNatClampNeg).toInt = (M 108 v3.toNatClampNeg).toInt - 1 → CO v3 v6 → False) : RN M v3 v5 (v6 + (-1)) := by
  rcases h with z | ⟨z, e, e1, e2, e0, e3, e4⟩
  · exact Or.inl z
  · have y : ¬ e = v6 := fun q => by subst q; exact hne e3 e4
    have y2 : ¬ e.toInt = v6.toInt := fun w => y (Int32.toInt_inj.mp w)
    have y3 : e.toInt ≤ v6.toInt + (-1) := by clear e3 e4 hne; omega
    exact Or.inr ⟨z, e, e1, (by rw [dc_v6 h6]; exact y3), e0, e3, e4⟩
theorem rn_nw6 {M : Im} {v3 v6 : Int32} (h6 : 1 ≤ v6.toInt) (h7 : v6.toInt ≤ 30) (h : (M 108 v6.toNatClampNeg).toInt = (M 108 v3.toNatClampNeg).toInt - 1) : RN M v3 v6 (v6 + (-1)) := Or.inl ⟨h6, h7, h⟩
theorem iv_dc6 {v2 v3 v4 v6 : Int32} (h : 1 ≤ v3.toInt ∧ v3.toInt ≤ 30 ∧ 0 ≤ v4.toInt ∧ v4.toInt < v2.toInt ∧ 0 ≤ v6.toInt ∧ v6.toInt ≤ 30 ∧ 0 ≤ RB v2 v4 v6) (h6 : 1 ≤ v6.toInt) : 1 ≤ v3.toInt ∧ v3.toInt ≤ 30 ∧ 0 ≤ v4.toInt ∧ v4.toInt < v2.toInt ∧ 0 ≤ (v6 + (-1) : Int32).toInt ∧ (v6 + (-1) : Int32).toInt ≤ 30 ∧ 0 ≤ RB v2 v4 (v6 + (-1)) := by
  obtain ⟨a1, a2, a3, a4, a5, a6, -⟩ := h
  have z : 0 ≤ (v6 + (-1) : Int32).toInt := (by rw [dc_v6 h6]; omega)
  exact ⟨a1, a2, a3, a4, z, (by clear z; rw [dc_v6 h6]; omega), rb_nn6 a4 z⟩
theorem ms_dc6 {v2 v4 v6 : Int32} {n : Nat} (h6 : 1 ≤ v6.toInt) (hm : RB v2 v4 v6 < ((n + 1 : Nat) : Int)) : RB v2 v4 (v6 + (-1)) < (n : Int) := ms_lt6 (rb_lt6 (by clear hm; rw [dc_v6 h6]; omega)) hm
theorem rd_ps6 {M : Im} {v2 v4 v3 : Int32} (h : RD M v2 v4 v3) (hlt : v4.toInt < v2.toInt) : 1 ≤ (M 108 v3.toNatClampNeg).toInt := by unfold RD at h; omega
theorem RE1 {a b : Int32} (h : ¬ a = b - 1) (hb : 1 ≤ b.toInt) : a.toInt = b.toInt - 1 → False := fun q => ci_ne rfl (ti_sub rfl (show (1 : Int32).toInt = 1 from rfl) (by have := i32 b; omega)) h q
theorem RE2 {a b : Int32} (h : a = b - 1) (hb : 1 ≤ b.toInt) : a.toInt = b.toInt - 1 := ci_eq rfl (ti_sub rfl (show (1 : Int32).toInt = 1 from rfl) (by have := i32 b; omega)) h
theorem rn_gt6 {M : Im} {v3 v5 v6 : Int32} (h : RN M v3 v5 v6) (h6 : v6.toInt < 1) : 1 ≤ v5.toInt ∧ v5.toInt ≤ 30 ∧ (M 108 v5.toNatClampNeg).toInt = (M 108 v3.toNatClampNeg).toInt - 1 := by
  rcases h with z | ⟨_, e, e1, e2, _⟩
  · exact z
  · omega
theorem rd_nx6 {M : Im} {v2 v4 v3 v5 : Int32} (h : RD M v2 v4 v3) (h4 : (v4 + 1 : Int32).toInt = v4.toInt + 1) (h5 : (M 108 v5.toNatClampNeg).toInt = (M 108 v3.toNatClampNeg).toInt - 1) : RD M v2 (v4 + 1) v5 := by
  unfold RD at h ⊢
  rw [h4, h5]
  omega
theorem iv_nx6 {v2 v4 v5 : Int32} (h1 : 1 ≤ v5.toInt) (h2 : v5.toInt ≤ 30) (h3 : 0 ≤ v4.toInt) (h4 : v4.toInt < v2.toInt) (z : (v4 + 1 : Int32).toInt = v4.toInt + 1) : 1 ≤ v5.toInt ∧ v5.toInt ≤ 30 ∧ 0 ≤ (v4 + 1 : Int32).toInt ∧ (v4 + 1 : Int32).toInt ≤ v2.toInt ∧ 0 ≤ RA v2 (v4 + 1) :=
  ⟨h1, h2, by rw [z]; omega, by rw [z]; omega, ra_nn6 (by rw [z]; omega)⟩
set_option maxHeartbeats 2000000 in
theorem sp_X12_reachAt {d : Nat} {Q : Qt} {v1 : Int32} {v2 : Int32} {I : Im} {J : Jm} {R : Rm} (hB0 : Bd I) (hR0 : RI R) (hQ : ∀ (x : Int32) (y : Int64) (I2 : Im) (J2 : Jm), Bd I2 → (Fr pT I I2) → Q x y I2 J2 R) : AM (d + 5) 292 112 [.ref 97, .int v1, .int v2] I J R Q := by
  have i_v1 := i32 v1
  have i_v2 := i32 v2
  refine am_X12_reachAt (fun P hc => ?_)
  have L : ∀ n : Nat, (∀ (v3 : Int32) (v4 : Int32) (M : Im) (JM : Jm), Bd M → Fr pT I M → (RQ M) → (RD M v2 v4 v3) → (1 ≤ v3.toInt ∧ v3.toInt ≤ 30 ∧ 0 ≤ v4.toInt ∧ v4.toInt ≤ v2.toInt ∧ 0 ≤ RA v2 v4) → RA v2 v4 < (n : Int) → P 59 112 [(0, .ref 97), (2, .int v2), (3, .int v3), (4, .int v4)] [] M JM R) ∧ (∀ (v3 : Int32) (v4 : Int32) (v5 : Int32) (v6 : Int32) (M : Im) (JM : Jm), Bd M → Fr pT I M → (RQ M) → (RD M v2 v4 v3) → (RN M v3 v5 v6) → (1 ≤ v3.toInt ∧ v3.toInt ≤ 30 ∧ 0 ≤ v4.toInt ∧ v4.toInt < v2.toInt ∧ 0 ≤ v6.toInt ∧ v6.toInt ≤ 30 ∧ 0 ≤ RB v2 v4 v6) → RB v2 v4 v6 < (n : Int) → P 72 112 [(0, .ref 97), (2, .int v2), (3, .int v3), (4, .int v4), (5, .int v5), (6, .int v6)] [] M JM R) := by
    intro n
    induction n with
    | zero =>
      exact ⟨fun v3 v4 M J _ _ _ _ hi hm => absurd hm (by omega), fun v3 v4 v5 v6 M J _ _ _ _ _ hi hm => absurd hm (by omega)⟩
    | succ n ih =>
      refine ⟨?_, ?_⟩
      · skip
        intro v3 v4 M JM hB hf hq_0 hq_1 hi hm
        have i_v2 := i32 v2
        have i_v3 := i32 v3
        have i_v4 := i32 v4
        refine sg_X12_reachAt_59 hc _ _ _ _ _ _ ?_
        refine ⟨fun c1 => ?_, fun c1 => ?_⟩
        · skip
          have d2 : ((v2.toInt) : Int) ≤ (v4.toInt) := ci_le rfl rfl c1
          exact hQ _ _ _ _ hB hf
        · skip
          have d3 : ((v4.toInt) : Int) < (v2.toInt) := ci_nle rfl rfl c1
          have z6 : (30 : Int32).toInt = 30 := rfl
          have hv4 : RQ M := hq_0
          have hv5 : RD M v2 v4 v3 := hq_1
          have hv6 : RN M v3 ((-1) : Int32) (30 : Int32) := (Or.inr ⟨rfl, by have z2 := hq_1; unfold RD at z2; obtain ⟨e, e1, e2, e3, e4⟩ := hq_0 v3 (by omega) (by omega) (by omega); exact ⟨e, e1, by have z : ((30 : Int32)).toInt = 30 := rfl; omega, e2, e3, e4⟩⟩)
          exact ih.2 _ _ _ _ _ _ hB hf hv4 hv5 hv6 ⟨by omega, by omega, by omega, by omega, by omega, by omega, rb_nn6 (by omega) (by omega)⟩ (ms_lt6 (rb_lt60 (by omega)) hm)
      · intro v3 v4 v5 v6 M JM hB hf hq_0 hq_1 hq_2 hi hm
        refine sg_X12_reachAt_72 hc _ _ _ _ _ _ _ _ ?_
        have hp3 := rd_ps6 hq_1 hi.2.2.2.1
        refine ⟨fun c7 => ?_, fun c7 => ?_⟩
        · have d8 : v6.toInt < 1 := ci_lt rfl rfl c7
          obtain ⟨w1, w2, w3⟩ := rn_gt6 hq_2 d8
          have z4 : (v4 + 1 : Int32).toInt = v4.toInt + 1 := in4 hi.2.2.1 hi.2.2.2.1
          exact ih.1 _ _ _ _ hB hf hq_0 (rd_nx6 hq_1 z4 w3) (iv_nx6 w1 w2 hi.2.2.1 hi.2.2.2.1 z4) (ms_lt6 (ra_lt6 z4 hi.2.2.2.2.1) hm)
        · have d11 : 1 ≤ v6.toInt := ci_nlt rfl rfl c7
          refine ⟨vp_of (a := v6.toInt) rfl hi.2.2.2.2.1 (le30 hi.2.2.2.2.2.1), vp_of (a := v3.toInt) rfl (le1 hi.1) (le30 hi.2.1), fun c12 => ?_, fun c12 => ?_⟩
          · exact ih.2 _ _ _ _ _ _ hB hf hq_0 hq_1 (rn_dc6 hq_2 d11 (fun q _ => RE1 c12 hp3 q)) (iv_dc6 hi d11) (ms_dc6 d11 hm)
          · refine sp_X12_comesOf hB hR0 ⟨hi.1, hi.2.1⟩ ⟨d11, hi.2.2.2.2.2.1⟩ (fun x20 y25 I21 J22 hB23 p24 o26 => ?_)
            obtain ⟨heI21, p24⟩ := p24
            subst heI21
            refine ⟨fun c28 => ?_, fun c28 => ?_⟩
            · have d29 : x20.toInt = 0 := ci_eq rfl rfl c28
              exact ih.2 _ _ _ _ _ _ hB hf hq_0 hq_1 (rn_dc6 hq_2 d11 (fun _ q => p24.1 d29 q)) (iv_dc6 hi d11) (ms_dc6 d11 hm)
            · exact ih.2 _ _ _ _ _ _ hB hf hq_0 hq_1 (rn_nw6 d11 hi.2.2.2.2.2.1 (RE2 c12 hp3)) (iv_dc6 hi d11) (ms_dc6 d11 hm)
  refine sg_X12_reachAt_0 hc _ _ _ _ _ ?_
  have hB37 : Bd (uI I 97 1 0) := Bd.o0 hB0 io9_112_97_12 (by omega) bd9_12_1
  have hB38 : Bd (uI (uI I 97 1 0) 97 0 0) := Bd.o0 hB37 io9_112_97_12 (by omega) bd9_12_0
  have f38 : Fr pT I (uI (uI I 97 1 0) 97 0 0) := ((Fr.refl pT I).o (by decide) (by decide)).o (by decide) (by decide)
  refine w_X12_isSlice ?_
  refine w_X12_isIn ?_
  refine ⟨fun c39 => ?_, fun c39 => ?_⟩
  · skip
    rw [lg_cmp_lt] at c39
    have d40 : ((v1.toInt) : Int) < (1) := cl_lt (tl_i2l rfl) rfl c39
    refine ⟨Or.inl rfl, ?_⟩
    intro o41
    refine ⟨Or.inl rfl, ?_⟩
    intro o42
    refine ⟨fun c43 => ?_, fun c43 => ?_⟩
    · exact absurd c43 (by decide)
    · skip
      refine w_X12_refuse ?_
      have hB44 : Bd (uI (uI (uI I 97 1 0) 97 0 0) 97 0 2) := Bd.o0 hB38 io9_112_97_12 (by omega) bd9_12_0
      exact hQ _ _ _ _ hB44 (f38.o (by decide) (by decide))
  · skip
    rw [lg_cmp_lt] at c39
    have d45 : ((1) : Int) ≤ (v1.toInt) := cl_nlt (tl_i2l rfl) rfl c39
    refine ⟨fun c46 => ?_, fun c46 => ?_⟩
    · skip
      rw [lg_cmp_gt] at c46
      have d47 : ((30) : Int) < (v1.toInt) := cl_lt rfl (tl_i2l rfl) c46
      refine ⟨Or.inl rfl, ?_⟩
      intro o48
      refine ⟨Or.inl rfl, ?_⟩
      intro o49
      refine ⟨fun c50 => ?_, fun c50 => ?_⟩
      · exact absurd c50 (by decide)
      · skip
        refine w_X12_refuse ?_
        have hB51 : Bd (uI (uI (uI I 97 1 0) 97 0 0) 97 0 2) := Bd.o0 hB38 io9_112_97_12 (by omega) bd9_12_0
        exact hQ _ _ _ _ hB51 (f38.o (by decide) (by decide))
    · skip
      rw [lg_cmp_gt] at c46
      have d52 : ((v1.toInt) : Int) ≤ (30) := cl_nlt rfl (tl_i2l rfl) c46
      refine ⟨Or.inr rfl, ?_⟩
      intro o53
      refine ⟨Or.inr rfl, ?_⟩
      intro o54
      refine ⟨fun c55 => ?_, fun c55 => ?_⟩
      · skip
        refine sp_X12_reachFrom hB38 hR0 (fun x56 y61 I57 J58 hB59 p60 => ?_)
        have i62 := i32 x56
        refine ⟨fun c63 => ?_, fun c63 => ?_⟩
        · skip
          have d64 : ((x56.toInt) : Int) < (0) := ci_lt rfl rfl c63
          refine w_X12_refuse ?_
          have hB65 : Bd (uI I57 97 0 8) := Bd.o0 hB59 io9_112_97_12 (by omega) bd9_12_0
          exact hQ _ _ _ _ hB65 ((Fr.tr f38 p60.1 (fun _ _ => trivial)).o (by decide) (by decide))
        · skip
          have d66 : ((0) : Int) ≤ (x56.toInt) := ci_nlt rfl rfl c63
          refine ⟨vp_of (a := x56.toInt) rfl (by omega) (by omega), ?_⟩
          refine w_X12_isIn ?_
          refine ⟨fun c67 => ?_, fun c67 => ?_⟩
          · skip
            rw [lg_cmp_lt] at c67
            have d68 : ((v2.toInt) : Int) < (0) := cl_lt (tl_i2l rfl) rfl c67
            refine ⟨Or.inl rfl, ?_⟩
            intro o69
            refine ⟨fun c70 => ?_, fun c70 => ?_⟩
            · exact absurd c70 (by decide)
            · skip
              refine w_X12_refuse ?_
              have hB71 : Bd (uI I57 97 0 8) := Bd.o0 hB59 io9_112_97_12 (by omega) bd9_12_0
              exact hQ _ _ _ _ hB71 ((Fr.tr f38 p60.1 (fun _ _ => trivial)).o (by decide) (by decide))
          · skip
            rw [lg_cmp_lt] at c67
            have d72 : ((0) : Int) ≤ (v2.toInt) := cl_nlt (tl_i2l rfl) rfl c67
            refine ⟨fun c73 => ?_, fun c73 => ?_⟩
            · skip
              rw [lg_cmp_gt] at c73
              have i74 := i32 ((I57 108 (Int32.toNatClampNeg x56)))
              have d75 : (((I57 108 (Int32.toNatClampNeg x56)).toInt) : Int) < (v2.toInt) := cl_lt (tl_i2l rfl) (tl_i2l rfl) c73
              refine ⟨Or.inl rfl, ?_⟩
              intro o76
              refine ⟨fun c77 => ?_, fun c77 => ?_⟩
              · exact absurd c77 (by decide)
              · skip
                refine w_X12_refuse ?_
                have hB78 : Bd (uI I57 97 0 8) := Bd.o0 hB59 io9_112_97_12 (by omega) bd9_12_0
                exact hQ _ _ _ _ hB78 ((Fr.tr f38 p60.1 (fun _ _ => trivial)).o (by decide) (by decide))
            · skip
              rw [lg_cmp_gt] at c73
              have i79 := i32 ((I57 108 (Int32.toNatClampNeg x56)))
              have d80 : ((v2.toInt) : Int) ≤ ((I57 108 (Int32.toNatClampNeg x56)).toInt) := cl_nlt (tl_i2l rfl) (tl_i2l rfl) c73
              refine ⟨Or.inr rfl, ?_⟩
              intro o81
              refine ⟨fun c82 => ?_, fun c82 => ?_⟩
              · skip
                have z4 : (0 : Int32).toInt = 0 := rfl
                have hv83 : RQ I57 := p60.2.2
                have hv84 : RD I57 v2 (0 : Int32) x56 := (by have z0 : (0 : Int32).toInt = 0 := rfl; unfold RD; omega)
                exact (L 900000000000).1 _ _ _ _ hB59 (Fr.tr f38 p60.1 (fun _ _ => trivial)) hv83 hv84 ⟨by omega, by omega, by omega, by omega, ra_nn6 (by omega)⟩ (ra_ub62 v2 0)
              · exact absurd c82 (by decide)
      · exact absurd c55 (by decide)
end PT17x6
