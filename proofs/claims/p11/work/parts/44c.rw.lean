/-! ===== the reference's rows of slices, exactly ===== -/
abbrev RfS : Type := Nat × List Nat × (Nat → Nat)
def rfStep (s : RfS) (r : List Nat) : RfS := (s.1 + 1, if s.1 = 0 then r else s.2.1, fun d => s.2.2 d + r.count d)
def rfRun : List (List Nat) → RfS → RfS
  | [], s => s
  | r :: rs, s => rfRun rs (rfStep s r)
theorem rfRun_app : ∀ (a b : List (List Nat)) (s : RfS), rfRun (a ++ b) s = rfRun b (rfRun a s) := by
  intro a
  induction a with
  | nil => intro b s; rfl
  | cons r a ih => intro b s; exact ih b (rfStep s r)
theorem rfRun_n : ∀ (rs : List (List Nat)) (s : RfS), (rfRun rs s).1 = s.1 + rs.length := by
  intro rs
  induction rs with
  | nil => intro s; rfl
  | cons r rs ih =>
    intro s
    refine (ih (rfStep s r)).trans ?_
    show s.1 + 1 + rs.length = s.1 + (rs.length + 1)
    omega
theorem rfRun_o {d : Nat} : ∀ (rs : List (List Nat)) (s : RfS), (rfRun rs s).2.2 d = s.2.2 d + cntR rs d := by
  intro rs
  induction rs with
  | nil => intro s; rfl
  | cons r rs ih =>
    intro s
    refine (ih (rfStep s r)).trans ?_
    show s.2.2 d + r.count d + cntR rs d = s.2.2 d + cntR (r :: rs) d
    rw [cntR_cons]; omega
theorem rfRun_f : ∀ (rs : List (List Nat)) (s : RfS), ¬ s.1 = 0 → (rfRun rs s).2.1 = s.2.1 := by
  intro rs
  induction rs with
  | nil => intro s _; rfl
  | cons r rs ih =>
    intro s h
    refine (ih (rfStep s r) (by show ¬ s.1 + 1 = 0; omega)).trans ?_
    exact if_neg h
theorem rfRun_c {r : List Nat} {rs : List (List Nat)} {s : RfS} (h : s.1 = 0) : (rfRun (r :: rs) s).2.1 = r := by
  refine (rfRun_f rs (rfStep s r) (by show ¬ s.1 + 1 = 0; omega)).trans ?_
  exact if_pos h
/-- a set's slices below another -/
def SB (A : Int32) (b d : Nat) : Bool := inS A (nI d) && decide (d < b)
def RfI (s : RfS) (I : Im) : Prop := I 97 31 = nI s.1 ∧ (∀ i, i < s.2.1.length → I 106 i = nI (s.2.1.getD i 0)) ∧ (∀ d : Nat, d ≤ 30 → I 107 d = nI (s.2.2 d))
def RfP (r : List Nat) (I : Im) : Prop := ∀ i, i < r.length → I 105 i = nI (r.getD i 0)
abbrev WRf : Nat → Nat → Prop := fun c k => (c = 97 ∧ k = 31) ∨ c = 105 ∨ c = 106 ∨ c = 107
abbrev FrF (I : Im) (J : Jm) (I2 : Im) (J2 : Jm) : Prop := FrW WRf nV I J I2 J2
section CRR
variable {I : Im} {J : Jm} {R : Rm}
theorem px_parts {d n : Nat} {Q : Qt} (h1 : 1 ≤ n) (h2 : n ≤ 30) (hQ : ∀ y : Int64, y.toInt = pt n → Q 0 y I J R) : AM (d + 1) 240 112 [.int (nI n)] I J R Q :=
  w_X12_partsOf ⟨(ptL n (by omega) h1).2.2, hQ _ (ptL n (by omega) h1).2.1⟩
theorem nI_z9 {n : Nat} (h : n < 2 ^ 31) : nI n = 0 ↔ n = 0 := nI_eq (b := 0) h (by decide)
/-- a row that is full -/
theorem px_row0 {z : Nat} {r : List Nat} {s : RfS} {v3 v4 v7 : Int32} {v5 : Int64} {l : Int} {d : Nat} {Q : Qt} (hv : v5.toInt = l) (hl : r.length = z) (h5 : z ≤ 5) (hm : ∀ x, x ∈ r → 1 ≤ x ∧ x ≤ 30) (hs : s.1 < 2 ^ 31) (h : RfI s I) (hr : RfP r I) (hQ : ∀ I2, RfI (if l = 0 then rfStep s r else s) I2 → I2 105 = I 105 → FrF I J I2 J → Q 0 0 I2 J R) : AM (d + 1) 271 112 [.ref 97, .int (nI z), .int (nI z), .int v3, .int v4, .long v5, .int v7] I J R Q := by
  refine am_X12_rows (fun P hc => sg_X12_rows_0 hc _ _ _ _ _ _ _ _ _ ⟨fun c => absurd rfl c, fun _ => ⟨fun c => ?_, fun c => ?_⟩⟩)
  · rw [lg_cmp_eq] at c
    have l0 : l = 0 := cl_eq hv (show (0 : Int64).toInt = 0 from rfl) c
    rw [if_pos l0] at hQ
    -- how often each is in the rows
    have L62 : ∀ (t q : List Nat) (M : Im), r = q ++ t → FrF I J M J → M 105 = I 105 → M 97 31 = nI (s.1 + 1) → (∀ i, i < (rfStep s r).2.1.length → M 106 i = nI ((rfStep s r).2.1.getD i 0)) → (∀ d : Nat, d ≤ 30 → M 107 d = nI (s.2.2 d + q.count d)) → P 62 112 [(0, .ref 97), (2, .int (nI z)), (8, .int (nI q.length))] [] M J R := by
      intro t
      induction t with
      | nil =>
        intro q M hq hF h5' h31 h6 h7
        rw [List.append_nil] at hq
        subst hq
        refine sg_X12_rows_62 hc _ _ _ _ _ ⟨fun _ => hQ M ⟨h31, h6, h7⟩ h5' hF, fun c2 => ?_⟩
        rw [← hl] at c2
        exact absurd ((nle_nI (by omega) (by omega)).mpr (Nat.le_refl _)) c2
      | cons x t ih =>
        intro q M hq hF h5' h31 h6 h7
        have hlen : r.length = q.length + (t.length + 1) := by rw [hq, List.length_append, List.length_cons]
        have hx := hm x (by rw [hq]; exact List.mem_append_right _ (List.mem_cons_self ..))
        have hgx : r.getD q.length 0 = x := by
          rw [hq, List.getD_eq_getElem?_getD, List.getElem?_append_right (Nat.le_refl _), Nat.sub_self]
          rfl
        have hrow : M 105 q.length = nI x := by rw [h5', hr q.length (by omega), hgx]
        refine sg_X12_rows_62 hc _ _ _ _ _ ⟨fun c2 => ?_, fun _ => ⟨vp_nI (by omega) (by omega), ?_⟩⟩
        · have := (nle_nI (by omega) (by omega)).mp c2
          omega
        · rw [tn_nI (by omega), hrow, tn_nI (by omega), nI_k1]
          refine ⟨vp_nI (by omega) (by omega), vp_nI (by omega) (by omega), ?_⟩
          have eq2 : r = (q ++ [x]) ++ t := by rw [hq, List.append_assoc]; rfl
          have elen : (q ++ [x]).length = q.length + 1 := by rw [List.length_append]; rfl
          rw [← elen]
          refine ih (q ++ [x]) _ eq2 (hF.u (Or.inr (Or.inr (Or.inr rfl)))) ((uI_ne (by decide)).trans h5') ((rd_ne (by decide)).trans h31) (fun i hi => (rd_ne (by decide)).trans (h6 i hi)) (fun d hd => ?_)
          rw [List.count_append, List.count_singleton]
          by_cases qd : d = x
          · subst qd
            rw [rd_eq, h7 d hd, nI_k1, if_pos (by rw [beq_self_eq_true])]
            exact congrArg nI (by omega)
          · rw [rd_k qd, h7 d hd, if_neg (by intro z; exact qd (beq_iff_eq.mp z).symm)]
            rfl
    have L49 : ∀ M : Im, FrF I J M J → M 105 = I 105 → M 97 31 = nI s.1 → M 107 = I 107 → (∀ i, i < (rfStep s r).2.1.length → M 106 i = nI ((rfStep s r).2.1.getD i 0)) → P 49 112 [(0, .ref 97), (2, .int (nI z))] [] M J R := fun M hF h5' h31 h7 h6 => by
      refine sg_X12_rows_49 hc _ _ _ _ (L62 r [] _ rfl (hF.u (Or.inl ⟨rfl, rfl⟩)) ((uI_ne (by decide)).trans h5') ?_ (fun i hi => (rd_ne (by decide)).trans (h6 i hi)) (fun d hd => ?_))
      · rw [rd_eq, h31, nI_k1]
      · rw [rd_ne (by decide), h7, h.2.2 d hd]; rfl
    refine ⟨fun c2 => ?_, fun c2 => ?_⟩
    · have s0 : ¬ s.1 = 0 := fun q => c2 (by rw [h.1, q]; rfl)
      have es : (rfStep s r).2.1 = s.2.1 := if_neg s0
      refine L49 I FrW.rf rfl h.1 rfl ?_
      rw [es]; exact h.2.1
    · rw [h.1] at c2
      have s0 : s.1 = 0 := (nI_z9 hs).mp c2
      have es : (rfStep s r).2.1 = r := if_pos s0
      have L23 : ∀ (t q : List Nat) (M : Im), r = q ++ t → FrF I J M J → M 105 = I 105 → M 97 31 = nI s.1 → M 107 = I 107 → (∀ i, i < q.length → M 106 i = nI (r.getD i 0)) → P 23 112 [(0, .ref 97), (2, .int (nI z)), (8, .int (nI q.length))] [] M J R := by
        intro t
        induction t with
        | nil =>
          intro q M hq hF h5' h31 h7 h6
          rw [List.append_nil] at hq
          subst hq
          refine sg_X12_rows_23 hc _ _ _ _ _ ⟨fun _ => L49 M hF h5' h31 h7 (by rw [es]; exact h6), fun c3 => ?_⟩
          rw [← hl] at c3
          exact absurd ((nle_nI (by omega) (by omega)).mpr (Nat.le_refl _)) c3
        | cons x t ih =>
          intro q M hq hF h5' h31 h7 h6
          have hlen : r.length = q.length + (t.length + 1) := by rw [hq, List.length_append, List.length_cons]
          refine sg_X12_rows_23 hc _ _ _ _ _ ⟨fun c3 => ?_, fun _ => ⟨vp_nI (by omega) (by omega), vp_nI (by omega) (by omega), ?_⟩⟩
          · have := (nle_nI (by omega) (by omega)).mp c3
            omega
          · rw [tn_nI (by omega), nI_k1]
            have eq2 : r = (q ++ [x]) ++ t := by rw [hq, List.append_assoc]; rfl
            have elen : (q ++ [x]).length = q.length + 1 := by rw [List.length_append]; rfl
            rw [← elen]
            refine ih (q ++ [x]) _ eq2 (hF.u (Or.inr (Or.inr (Or.inl rfl)))) ((uI_ne (by decide)).trans h5') ((rd_ne (by decide)).trans h31) ((uI_ne (by decide)).trans h7) (fun i hi => ?_)
            rw [elen] at hi
            by_cases qi : i = q.length
            · subst qi
              rw [rd_eq, h5']; exact hr _ (by omega)
            · rw [rd_k qi]; exact h6 i (by omega)
      exact L23 r [] I rfl FrW.rf rfl h.1 rfl (fun i hi => absurd hi (Nat.not_lt_zero _))
  · rw [lg_cmp_eq] at c
    have l0 : ¬ l = 0 := cl_ne hv (show (0 : Int64).toInt = 0 from rfl) c
    rw [if_neg l0] at hQ
    exact hQ I h rfl FrW.rf
theorem rsP_0 {rs : List (List Nat)} : rsP [] rs = rs := by
  unfold rsP
  exact List.map_id rs
theorem px_rrows {A : Int32} {b z : Nat} (hA : 0 ≤ A.toInt) (hb : b ≤ 31) (h5 : z ≤ 5) : ∀ (m f : Nat) (p : List Nat) (l : Int) (v5 : Int64) (s : RfS) (d : Nat) (I : Im) (Q : Qt), v5.toInt = l → -1000000000000000 ≤ l ∧ l ≤ 1000000000000000 → p.length + m = z → f ≤ 30 → (∀ x, x ∈ p → 1 ≤ x ∧ x ≤ 30) → RfI s I → RfP p I → s.1 + (rws (SB A b) f m l).length ≤ 2 ^ 30 → (∀ I2, RfI (rfRun (rsP p (rws (SB A b) f m l)) s) I2 → RfP p I2 → FrF I J I2 J → Q 0 0 I2 J R) → AM (d + m + 2) 271 112 [.ref 97, .int (nI p.length), .int (nI z), .int (nI (31 - f)), .int (nI b), .long v5, .int A] I J R Q := by
  intro m
  induction m with
  | zero =>
    intro f p l v5 s d I Q hv hl hz hf hm h hp hn hQ
    have hz2 : p.length = z := hz
    rw [hz2]
    refine px_row0 (d := d + 1) hv hz2 h5 hm (by have : (2 : Nat) ^ 30 < 2 ^ 31 := by decide
                                                 omega) h hp (fun I2 a e c => hQ I2 ?_ (fun i hi => by rw [e]; exact hp i hi) c)
    rw [rws_0]
    by_cases q : l = 0
    · rw [if_pos q] at a
      rw [if_pos q]
      have e1 : rfRun (rsP p [[]]) s = rfStep s p := by
        show rfStep s (p ++ []) = _
        rw [List.append_nil]
      rw [e1]; exact a
    · rw [if_neg q] at a
      rw [if_neg q]; exact a
  | succ m ih =>
    intro f p l v5 s d I Q hv hl hz hf hm h hp hn hQ
    have ne : ¬ nI p.length = nI z := fun q => by
      have := (nK (a := p.length) (b := z) (by omega) (by omega)).mp q
      omega
    refine am_X12_rows (fun P hc => sg_X12_rows_0 hc _ _ _ _ _ _ _ _ _ ⟨fun _ => ?_, fun c => absurd c ne⟩)
    have esz : nI z - nI p.length = nI (m + 1) := (nI_sub (by omega) (by omega)).trans (congrArg nI (by omega))
    have L94 : ∀ (f : Nat) (s : RfS) (M : Im), f ≤ 30 → RfI s M → RfP p M → FrF I J M J → s.1 + (rws (SB A b) f (m + 1) l).length ≤ 2 ^ 30 → (∀ I2, RfI (rfRun (rsP p (rws (SB A b) f (m + 1) l)) s) I2 → RfP p I2 → FrF I J I2 J → Q 0 0 I2 J R) → P 94 112 [(0, .ref 97), (1, .int (nI p.length)), (2, .int (nI z)), (4, .int (nI b)), (5, .long v5), (7, .int A), (8, .int (nI (31 - f)))] [] M J R := by
      intro f
      induction f with
      | zero =>
        intro s M hf h hp hF hn hQ
        exact sg_X12_rows_94 hc _ _ _ _ _ _ _ _ _ ⟨fun _ => hQ M h hp hF, fun c => absurd ((nle_nI (a := b) (b := 31 - 0) (by omega) (by omega)).mpr (by omega)) c⟩
      | succ f ihf =>
        intro s M hf h hp hF hn hQ
        have ed : 31 - (f + 1) = 30 - f := by omega
        have d1 : 1 ≤ 30 - f := by omega
        rw [ed]
        by_cases qb : b ≤ 30 - f
        · have e : rws (SB A b) (f + 1) (m + 1) l = [] := rws_none (f + 1) m l (by omega) (fun x h1 h2 => by unfold SB; rw [decide_eq_false (by omega), Bool.and_false])
          rw [e] at hQ
          exact sg_X12_rows_94 hc _ _ _ _ _ _ _ _ _ ⟨fun _ => hQ M h hp hF, fun c => absurd ((nle_nI (by omega) (by omega)).mpr qb) c⟩
        have nx : nI (30 - f) + 1 = nI (31 - f) := by rw [nI_k1]; exact congrArg nI (by omega)
        obtain ⟨p1, p2, p3⟩ := pt_b (d := 30 - f) d1 (by omega)
        have ek : ((m + 1 : Nat) : Int) * pt (30 - f) ≤ 5 * 2329089562800 := Int.le_trans (Int.mul_le_mul_of_nonneg_right (by omega) (by omega)) (Int.mul_le_mul_of_nonneg_left p2 (by decide))
        have ek0 : 0 ≤ ((m + 1 : Nat) : Int) * pt (30 - f) := Int.mul_nonneg (by omega) (by omega)
        have e5 : (Int32.toInt64 (nI (m + 1))).toInt = ((m + 1 : Nat) : Int) := tl_i2l (nI_toInt (by omega))
        have elen : (rws (SB A b) (f + 1) (m + 1) l).length = (if SB A b (30 - f) = true then (rws (SB A b) f m (l - pt (30 - f))).length else 0) + (rws (SB A b) f (m + 1) l).length := by
          rw [rws_s, List.length_append]
          split
          · rw [List.length_map]
          · rfl
        -- on to the next slice
        have go : rws (SB A b) (f + 1) (m + 1) l = rws (SB A b) f (m + 1) l → P 94 112 [(0, .ref 97), (1, .int (nI p.length)), (2, .int (nI z)), (4, .int (nI b)), (5, .long v5), (7, .int A), (8, .int (nI (30 - f) + 1))] [] M J R := fun e => by
          rw [nx]
          rw [e] at hQ hn
          exact ihf s M (by omega) h hp hF hn hQ
        refine sg_X12_rows_94 hc _ _ _ _ _ _ _ _ _ ⟨fun c => absurd ((nle_nI (by omega) (by omega)).mp c) qb, fun _ => px_parts d1 (by omega) (fun y hy => ?_)⟩
        rw [esz]
        have e6 : (y * Int32.toInt64 (nI (m + 1))).toInt = pt (30 - f) * ((m + 1 : Nat) : Int) := tl_mul9 hy e5 (by rw [Int.mul_comm]; omega)
        refine ⟨fun c1 => ?_, fun c1 => ?_⟩
        · rw [lg_cmp_lt] at c1
          have := cl_lt e6 hv c1
          rw [Int.mul_comm] at this
          rw [rws_big f m l (by omega) this] at hQ
          exact hQ M h hp hF
        · refine px_isOf hA ((nle_nI (a := 1) (by omega) (by omega)).mpr d1) ((nle_nI (b := 30) (by omega) (by omega)).mpr (by omega)) (fun hi _ => ⟨fun q => absurd q (by decide), fun _ => ?_⟩) (fun hi _ => ⟨fun _ => ?_, fun q => absurd rfl q⟩)
          · have hS : SB A b (30 - f) = true := by unfold SB; rw [hi, decide_eq_true (by omega)]; rfl
            rw [if_pos hS] at elen
            refine px_parts d1 (by omega) (fun y3 hy3 => ⟨fun c3 => ⟨vp_nI (by omega) (by omega), ?_⟩, fun c3 => ?_⟩)
            · rw [lg_cmp_le] at c3
              have le3 := cl_le hy3 hv c3
              rw [tn_nI (by omega)]
              refine px_parts d1 (by omega) (fun y4 hy4 => ?_)
              have ep : (p ++ [30 - f]).length = p.length + 1 := by rw [List.length_append]; rfl
              rw [nI_k1, nx, ← ep]
              have hm2 : ∀ x, x ∈ p ++ [30 - f] → 1 ≤ x ∧ x ≤ 30 := fun x hx => by
                rcases List.mem_append.mp hx with q | q
                · exact hm x q
                · rw [List.mem_singleton.mp q]; omega
              have h' : RfI s (uI M 105 p.length (nI (30 - f))) := by
                have n97 : uI M 105 p.length (nI (30 - f)) 97 = M 97 := uI_ne (by decide)
                have n106 : uI M 105 p.length (nI (30 - f)) 106 = M 106 := uI_ne (by decide)
                have n107 : uI M 105 p.length (nI (30 - f)) 107 = M 107 := uI_ne (by decide)
                unfold RfI
                rw [n97, n106, n107]
                exact h
              have hp' : RfP (p ++ [30 - f]) (uI M 105 p.length (nI (30 - f))) := fun i hi2 => by
                rw [ep] at hi2
                by_cases q : i = p.length
                · subst q
                  rw [rd_eq, List.getD_eq_getElem?_getD, List.getElem?_append_right (Nat.le_refl _), Nat.sub_self]; rfl
                · have hi3 : i < p.length := by omega
                  rw [rd_k q, hp i hi3, List.getD_eq_getElem?_getD, List.getD_eq_getElem?_getD, List.getElem?_append_left hi3]
              have hF' : FrF I J (uI M 105 p.length (nI (30 - f))) J := hF.u (Or.inr (Or.inl rfl))
              have hv' : (v5 - y4).toInt = l - pt (30 - f) := tl_sub hv hy4 (by omega)
              have eall : rsP p (rws (SB A b) (f + 1) (m + 1) l) = rsP (p ++ [30 - f]) (rws (SB A b) f m (l - pt (30 - f))) ++ rsP p (rws (SB A b) f (m + 1) l) := by
                rw [rws_s, if_pos hS, rsP_app, rsP_cons]
              rw [eall, rfRun_app] at hQ
              refine ih f (p ++ [30 - f]) (l - pt (30 - f)) (v5 - y4) s d _ _ hv' (by omega) (by omega) (by omega) hm2 h' hp' (by omega) (fun I2 a b2 c => ?_)
              have hp2 : RfP p I2 := fun i hi2 => by
                have hb2 := b2 i (by omega)
                rw [hb2, List.getD_eq_getElem?_getD, List.getD_eq_getElem?_getD, List.getElem?_append_left hi2]
              refine ihf _ I2 (by omega) a hp2 (hF'.tr c) ?_ hQ
              rw [rfRun_n]
              unfold rsP
              rw [List.length_map]
              omega
            · rw [lg_cmp_le] at c3
              have lt3 := cl_nle hy3 hv c3
              refine go ?_
              rw [rws_s, if_pos hS]
              have e0 : rws (SB A b) f m (l - pt (30 - f)) = [] := by
                cases m with
                | zero => rw [rws_0, if_neg (by omega)]
                | succ m => exact rws_np f m _ (by omega) (by omega)
              rw [e0]; rfl
          · refine go ?_
            have hS : ¬ SB A b (30 - f) = true := by unfold SB; rw [hi, Bool.false_and]; exact Bool.false_ne_true
            rw [rws_s, if_neg hS]; rfl
    exact L94 f s I hf h hp FrW.rf hn hQ
end CRR
