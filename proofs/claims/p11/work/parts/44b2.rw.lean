/-! ===== the search itself ===== -/
section CSK
variable {I : Im} {J : Jm} {R : Rm}
def rsP (p : List Nat) (rs : List (List Nat)) : List (List Nat) := rs.map fun r => p ++ r
theorem rsP_nil {p : List Nat} : rsP p [] = [] := rfl
theorem rsP_app {p : List Nat} {a b : List (List Nat)} : rsP p (a ++ b) = rsP p a ++ rsP p b := List.map_append
theorem rsP_cons {p : List Nat} {x : Nat} {a : List (List Nat)} : rsP p (a.map fun r => x :: r) = rsP (p ++ [x]) a := by
  unfold rsP
  rw [List.map_map]
  refine congrArg (fun h => List.map h a) (funext fun r => ?_)
  show p ++ x :: r = (p ++ [x]) ++ r
  rw [List.append_assoc]; rfl
theorem loaf_div {y : Int64} {l : Int} (hy : y.toInt = l) (h1 : 1 ≤ l) : (2329089562800 / y).toInt = 2329089562800 / l := by
  have e : (2329089562800 : Int64).toInt = 2329089562800 := rfl
  have h2 : (2329089562800 : Int) / l ≤ 2329089562800 := Int.ediv_le_self _ (by decide)
  have h3 : 0 ≤ (2329089562800 : Int) / l := Int.ediv_nonneg (by decide) (by omega)
  rw [Int64.toInt_div, hy, e, Int.tdiv_eq_ediv_of_nonneg (by decide)]
  exact tl_bmod (by omega) (by omega)
theorem loaf_rem {y : Int64} {l : Int} (hy : y.toInt = l) (h1 : 1 ≤ l) : (2329089562800 - 2329089562800 / y * y).toInt = 2329089562800 % l := by
  have h3 : 0 ≤ (2329089562800 : Int) % l := Int.emod_nonneg _ (by omega)
  have h2 : (2329089562800 : Int) % l ≤ 2329089562800 := by
    rcases Int.lt_or_le 2329089562800 l with q | q
    · rw [Int.emod_eq_of_lt (by decide) q]; exact Int.le_refl _
    · have := Int.emod_lt_of_pos 2329089562800 (b := l) (by omega); omega
  rw [show (2329089562800 - 2329089562800 / y * y).toInt = ((2329089562800 : Int).tmod l).bmod (2 ^ 64) from by
    rw [Int64.toInt_sub, Int64.toInt_mul, Int64.toInt_div, hy, show (2329089562800 : Int64).toInt = 2329089562800 from rfl, Int.bmod_mul_bmod, Int.sub_bmod_bmod, Int.tmod_def, Int.mul_comm l], Int.tmod_eq_emod_of_nonneg (by decide)]
  exact tl_bmod (by omega) (by omega)
theorem pt_div {x : Nat} {l : Int} (h1 : 1 ≤ x) (h2 : x ≤ 30) (hl : pt x = l) : (2329089562800 : Int) % l = 0 ∧ (2329089562800 : Int) / l = x := by
  obtain ⟨a, b, c⟩ := pt_b h1 h2
  rw [hl] at a c
  rw [← c, Int.mul_emod_right, Int.mul_ediv_cancel_left _ (by omega)]
  exact ⟨rfl, rfl⟩
theorem pt_of {l : Int} (h1 : 1 ≤ l) (hm : (2329089562800 : Int) % l = 0) {x : Nat} (hx : (2329089562800 : Int) / l = x) (h2 : 1 ≤ x) : pt x = l := by
  have e := Int.mul_ediv_add_emod 2329089562800 l
  rw [hm, hx, Int.add_zero] at e
  unfold pt
  rw [← e, Int.mul_ediv_cancel _ (by omega)]
theorem px_putLast {g f z : Nat} {A : Int32} {s : RwS} {p : List Nat} {v3 : Int64} {l : Int} {d : Nat} {Q : Qt} (hv : v3.toInt = l) (hf : f ≤ 30) (hz : p.length + 1 = z) (h5 : z ≤ 5) (hm : ∀ x, x ∈ p → 1 ≤ x ∧ x ≤ 30) (h : RwI g A z s I) (hp : RwP p I) (hQ : ∀ I2, RwI g A z (rwRun g (rsP p (rws (SA A) f 1 l)) s).1 I2 → RwP p I2 → FrO I J I2 J → Q (bl (rwRun g (rsP p (rws (SA A) f 1 l)) s).2) 0 I2 J R) : AM (d + 3) 83 112 [.ref 35, .int (nI p.length), .int (nI (31 - f)), .long v3] I J R Q := by
  have no : rws (SA A) f 1 l = [] → Q 0 0 I J R := fun e => by
    rw [e] at hQ
    exact hQ I h hp FrW.rf
  refine w_X7_putLast ⟨fun c => ⟨Or.inl rfl, ?_⟩, fun c => ?_⟩
  · rw [lg_cmp_lt] at c
    have := cl_lt hv (show (1 : Int64).toInt = 1 from rfl) c
    exact no (rws_np f 0 l hf (by omega))
  rw [lg_cmp_lt] at c
  have h1 := cl_nlt hv (show (1 : Int64).toInt = 1 from rfl) c
  have nz : ¬ v3 = 0 := fun q => by rw [q] at hv; have : (0 : Int64).toInt = 0 := rfl; omega
  refine ⟨nz, fun c2 => ⟨nz, ?_⟩, fun c2 => ⟨Or.inl rfl, ?_⟩⟩
  · rw [lg_cmp_eq] at c2
    have hm0 := cl_eq (loaf_rem hv h1) (show (0 : Int64).toInt = 0 from rfl) c2
    have hdv := loaf_div hv h1
    have h0 : 0 ≤ (2329089562800 : Int) / l := Int.ediv_nonneg (by decide) (by omega)
    have ef : (Int32.toInt64 (nI (31 - f))).toInt = ((31 - f : Nat) : Int) := tl_i2l (nI_toInt (by omega))
    obtain ⟨x, hx⟩ : ∃ x : Nat, (2329089562800 : Int) / l = x := ⟨((2329089562800 : Int) / l).toNat, by omega⟩
    rw [hx] at hdv h0
    refine ⟨fun c3 => ⟨Or.inl rfl, ?_⟩, fun c3 => ⟨fun c4 => ⟨Or.inl rfl, ?_⟩, fun c4 => ?_⟩⟩
    · rw [lg_cmp_lt] at c3
      have := cl_lt hdv ef c3
      exact no (rws_one_no f hf (fun y y1 y2 _ q => by have := (pt_div (by omega) y2 q).2; omega))
    · rw [lg_cmp_gt] at c4
      have := cl_lt (show (30 : Int64).toInt = 30 from rfl) hdv c4
      exact no (rws_one_no f hf (fun y y1 y2 _ q => by have := (pt_div (by omega) y2 q).2; omega))
    · rw [lg_cmp_lt] at c3
      rw [lg_cmp_gt] at c4
      have k1 := cl_nlt hdv ef c3
      have k2 := cl_nlt (show (30 : Int64).toInt = 30 from rfl) hdv c4
      have x1 : 31 - f ≤ x := by omega
      have x2 : x ≤ 30 := by omega
      have hpt := pt_of h1 hm0 hx (by omega)
      have exI : Int64.toInt32 (2329089562800 / v3) = nI x := Int32.toInt_inj.mp (by rw [tl_l2i hdv (by omega), nI_toInt (by omega)])
      rw [exI]
      have hin := h.2.1 x (by omega) x2
      have hlast : lastN (p ++ [x]) = x := lastN_app p
      have hml : ∀ y, y ∈ p ++ [x] → 1 ≤ y ∧ y ≤ 30 := fun y hy => by
        rcases List.mem_append.mp hy with q | q
        · exact hm y q
        · rw [List.mem_singleton.mp q]; omega
      refine px_isIn (fun hi _ => ⟨fun _ => ⟨vp_nI (by omega) (by omega), ?_⟩, fun q => absurd q (by decide)⟩) (fun hi _ => ⟨fun q => absurd rfl q, fun _ => ⟨Or.inl rfl, ?_⟩⟩)
      · rw [hin, Bool.and_eq_true, decide_eq_true_eq] at hi
        rw [rws_one x2 hi.1 hpt f hf x1] at hQ
        rw [tn_nI (by omega)]
        have h' : RwI g A z s (uI I 36 p.length (nI x)) := by
          obtain ⟨e0, e1, e2, e5, e7, e6, e8, eb, hg⟩ := h
          have n35 : uI I 36 p.length (nI x) 35 = I 35 := uI_ne (by decide)
          have n37 : uI I 36 p.length (nI x) 37 = I 37 := uI_ne (by decide)
          have n38 : uI I 36 p.length (nI x) 38 = I 38 := uI_ne (by decide)
          unfold RwI
          rw [n35, n37, n38]
          exact ⟨e0, e1, e2, e5, e7, e6, e8, eb, hg⟩
        have hr' : RwP (p ++ [x]) (uI I 36 p.length (nI x)) := fun i hi => by
          rw [List.length_append] at hi
          by_cases q : i = p.length
          · subst q
            rw [rd_eq, List.getD_eq_getElem?_getD, List.getElem?_append_right (Nat.le_refl _), Nat.sub_self]; rfl
          · have hi2 : i < p.length := by have : [x].length = 1 := rfl; omega
            rw [rd_k q, hp i hi2, List.getD_eq_getElem?_getD, List.getD_eq_getElem?_getD, List.getElem?_append_left hi2]
        have key := px_meet (d := d) (J := J) (R := R) (Q := fun x2 _ I2 J2 R2 => (x2 = 0 ∨ x2 = 1) → (((x2 : Int32) = 0 ∨ (x2 : Int32) = 1) ∧ Q x2 0 I2 J2 R)) h' hr' (by rw [List.length_append]; exact hz) (by omega) h5 hml (fun _ => by rw [hlast]; exact hi.2) (fun I2 a b c _ => ⟨bl_01, ?_⟩)
        · rw [hlast] at key; exact key
        · have eR : rwRun g (rsP p [[x]]) s = rwStep g s (p ++ [x]) := by
            show (if (rwStep g s (p ++ [x])).2 = true then rwStep g s (p ++ [x]) else ((rwStep g s (p ++ [x])).1, false)) = _
            by_cases q : (rwStep g s (p ++ [x])).2 = true
            · rw [if_pos q]
            · rw [if_neg q]
              generalize rwStep g s (p ++ [x]) = w at q
              obtain ⟨w1, w2⟩ := w
              cases w2 with
              | false => rfl
              | true => exact absurd rfl q
          rw [eR] at hQ
          refine hQ I2 a (fun i hi => ?_) ((FrW.rf.u (Or.inr (Or.inl rfl))).tr c)
          rw [b, rd_k (by omega)]; exact hp i hi
      · rw [hin] at hi
        by_cases q : SA A x = true
        · rw [q, Bool.true_and, decide_eq_false_iff_not] at hi
          have g2 : g = 2 := h.2.2.2.2.2.2.2.1.resolve_right (fun z => hi (by omega))
          subst g2
          rw [rws_one x2 q hpt f hf x1, rwRun_skip (rsP p [[x]]) (fun r hr => by
            have hr2 : r ∈ [p ++ [x]] := hr
            rw [List.mem_singleton.mp hr2, hlast]; exact hi)] at hQ
          exact hQ I h hp FrW.rf
        · exact no (rws_one_no f hf (fun y y1 y2 hy e => by
            have := (pt_div (by omega) y2 e).2
            have : y = x := by omega
            subst this
            exact q hy))
  · rw [lg_cmp_eq] at c2
    have hm0 : ¬ (2329089562800 : Int) % l = 0 := cl_ne (loaf_rem hv h1) (show (0 : Int64).toInt = 0 from rfl) c2
    exact no (rws_one_no f hf (fun y y1 y2 _ q => hm0 (pt_div (by omega) y2 q).1))
theorem px_seek {g : Nat} {A : Int32} : ∀ (k f : Nat) (p : List Nat) (l : Int) (v3 : Int64) (s : RwS) (d : Nat) (I : Im) (Q : Qt), v3.toInt = l → -1000000000000000 ≤ l ∧ l ≤ 1000000000000000 → p.length + (k + 1) ≤ 5 → f ≤ 30 → (∀ x, x ∈ p → 1 ≤ x ∧ x ≤ 30) → RwI g A (p.length + (k + 1)) s I → RwP p I → (∀ I2, RwI g A (p.length + (k + 1)) (rwRun g (rsP p (rws (SA A) f (k + 1) l)) s).1 I2 → RwP p I2 → FrO I J I2 J → Q (bl (rwRun g (rsP p (rws (SA A) f (k + 1) l)) s).2) 0 I2 J R) → AM (d + k + 4) 82 112 [.ref 35, .int (nI p.length), .int (nI (31 - f)), .long v3] I J R Q := by
  intro k
  induction k with
  | zero =>
    intro f p l v3 s d I Q hv hl h5 hf hm h hp hQ
    have eo : I 35 2 - nI p.length = nI 1 := by rw [h.2.2.1]; exact nI_sub9 (by omega)
    refine am_X7_seek (fun P hc => sg_X7_seek_0 hc _ _ _ _ _ _ ?_)
    rw [eo]
    refine ⟨fun c => absurd c (by decide), fun _ => ⟨fun _ => ⟨fun c => absurd rfl c, fun _ => px_putLast (d := d) hv hf rfl h5 hm h hp (fun I2 a b c _ => ⟨bl_01, hQ I2 a b c⟩)⟩, fun c => absurd ((nlt_nI (a := p.length) (b := 5) (by omega) (by omega)).mpr (by omega)) c⟩⟩
  | succ k ihk =>
    intro f p l v3 s d I Q hv hl h5 hf hm h hp hQ
    have eo : I 35 2 - nI p.length = nI (k + 2) := by rw [h.2.2.1]; exact nI_sub9 (by omega)
    refine am_X7_seek (fun P hc => sg_X7_seek_0 hc _ _ _ _ _ _ ?_)
    rw [eo]
    have L38 : ∀ (f : Nat) (s : RwS) (M : Im), f ≤ 30 → RwI g A (p.length + (k + 1 + 1)) s M → RwP p M → FrO I J M J → (∀ I2, RwI g A (p.length + (k + 1 + 1)) (rwRun g (rsP p (rws (SA A) f (k + 1 + 1) l)) s).1 I2 → RwP p I2 → FrO I J I2 J → Q (bl (rwRun g (rsP p (rws (SA A) f (k + 1 + 1) l)) s).2) 0 I2 J R) → P 38 112 [(0, .ref 35), (1, .int (nI p.length)), (3, .long v3), (5, .int (nI (k + 2))), (6, .int (nI (31 - f)))] [] M J R := by
      intro f
      induction f with
      | zero =>
        intro s M hf h hp hF hQ
        exact sg_X7_seek_38 hc _ _ _ _ _ _ _ ⟨fun _ => ⟨Or.inl rfl, hQ M h hp hF⟩, fun c => absurd (by decide) c⟩
      | succ f ih =>
        intro s M hf h hp hF hQ
        have ed : 31 - (f + 1) = 30 - f := by omega
        have d1 : 1 ≤ 30 - f := by omega
        obtain ⟨p1, p2, p3⟩ := pt_b (d := 30 - f) d1 (by omega)
        have e5 : (Int32.toInt64 (nI (k + 2))).toInt = ((k + 2 : Nat) : Int) := tl_i2l (nI_toInt (by omega))
        have ek : ((k + 2 : Nat) : Int) * pt (30 - f) ≤ 5 * 2329089562800 := Int.le_trans (Int.mul_le_mul_of_nonneg_right (by omega) (by omega)) (Int.mul_le_mul_of_nonneg_left p2 (by decide))
        have ek0 : 0 ≤ ((k + 2 : Nat) : Int) * pt (30 - f) := Int.mul_nonneg (by omega) (by omega)
        have nx : nI (30 - f) + 1 = nI (31 - f) := by rw [nI_k1]; exact congrArg nI (by omega)
        rw [ed]
        -- on to the next slice
        have go : rws (SA A) (f + 1) (k + 1 + 1) l = rws (SA A) f (k + 1 + 1) l → P 38 112 [(0, .ref 35), (1, .int (nI p.length)), (3, .long v3), (5, .int (nI (k + 2))), (6, .int (nI (30 - f) + 1))] [] M J R := fun e => by
          rw [nx]
          rw [e] at hQ
          exact ih s M (by omega) h hp hF hQ
        refine sg_X7_seek_38 hc _ _ _ _ _ _ _ ⟨fun c => absurd ((nlt_nI (a := 30) (by omega) (by omega)).mp c) (by omega), fun _ => px_cr1 d1 (by omega) (fun y hy => ⟨fun c1 => ?_, fun c1 => ⟨Or.inl rfl, ?_⟩⟩)⟩
        · refine ⟨fun c2 => ?_, fun c2 => ?_⟩
          · rw [lg_cmp_ge] at c2
            have := cl_le hv hy c2
            refine go ?_
            rw [rws_s, rws_np f k _ (by omega) (by omega)]
            split <;> rfl
          rw [lg_cmp_ge] at c2
          have lt := cl_nle hv hy c2
          have hin := h.2.1 (30 - f) d1 (by omega)
          refine px_isIn (fun hi _ => ⟨fun q => absurd q (by decide), fun _ => ⟨vp_nI (by omega) (by omega), ?_⟩⟩) (fun hi _ => ⟨fun _ => ?_, fun q => absurd rfl q⟩)
          · rw [hin, Bool.and_eq_true, decide_eq_true_eq] at hi
            rw [tn_nI (by omega), nI_k1, nx]
            have ep : (p ++ [30 - f]).length = p.length + 1 := by rw [List.length_append]; rfl
            have hm2 : ∀ x, x ∈ p ++ [30 - f] → 1 ≤ x ∧ x ≤ 30 := fun x hx => by
              rcases List.mem_append.mp hx with q | q
              · exact hm x q
              · rw [List.mem_singleton.mp q]; omega
            have h' : RwI g A ((p ++ [30 - f]).length + (k + 1)) s (uI M 36 p.length (nI (30 - f))) := by
              obtain ⟨e0, e1, e2, e5, e7, e6, e8, eb, hg⟩ := h
              have n35 : uI M 36 p.length (nI (30 - f)) 35 = M 35 := uI_ne (by decide)
              have n37 : uI M 36 p.length (nI (30 - f)) 37 = M 37 := uI_ne (by decide)
              have n38 : uI M 36 p.length (nI (30 - f)) 38 = M 38 := uI_ne (by decide)
              unfold RwI
              rw [n35, n37, n38, ep]
              exact ⟨e0, e1, e2.trans (congrArg nI (by omega)), e5, e7, e6, e8, eb, hg⟩
            have hp' : RwP (p ++ [30 - f]) (uI M 36 p.length (nI (30 - f))) := fun i hi => by
              rw [ep] at hi
              by_cases q : i = p.length
              · subst q
                rw [rd_eq, List.getD_eq_getElem?_getD, List.getElem?_append_right (Nat.le_refl _), Nat.sub_self]; rfl
              · have hi2 : i < p.length := by omega
                rw [rd_k q, hp i hi2, List.getD_eq_getElem?_getD, List.getD_eq_getElem?_getD, List.getElem?_append_left hi2]
            have hF' : FrO I J (uI M 36 p.length (nI (30 - f))) J := hF.u (Or.inr (Or.inl rfl))
            have hv' : (v3 - y).toInt = l - pt (30 - f) := tl_sub hv hy (by omega)
            have eall : rsP p (rws (SA A) (f + 1) (k + 1 + 1) l) = rsP (p ++ [30 - f]) (rws (SA A) f (k + 1) (l - pt (30 - f))) ++ rsP p (rws (SA A) f (k + 1 + 1) l) := by
              rw [rws_s, if_pos hi.1, rsP_app, rsP_cons]
            rw [eall, rwRun_app] at hQ
            rw [← ep]
            refine ihk f (p ++ [30 - f]) (l - pt (30 - f)) (v3 - y) s d _ _ hv' (by omega) (by omega) (by omega) hm2 h' hp' (fun I2 a b c _ => ?_)
            have ez : (p ++ [30 - f]).length + (k + 1) = p.length + (k + 1 + 1) := by omega
            rw [ez] at a
            have hp2 : RwP p I2 := fun i hi => by
              have hb := b i (by omega)
              rw [hb, List.getD_eq_getElem?_getD, List.getD_eq_getElem?_getD, List.getElem?_append_left hi]
            cases q : (rwRun g (rsP (p ++ [30 - f]) (rws (SA A) f (k + 1) (l - pt (30 - f)))) s).2 with
            | true =>
              rw [q, if_pos rfl, q] at hQ
              exact ⟨fun z => absurd z (by decide), fun _ => ⟨Or.inr rfl, hQ I2 a hp2 (hF'.tr c)⟩⟩
            | false =>
              rw [q, if_neg (by decide)] at hQ
              refine ⟨fun _ => ?_, fun z => absurd rfl z⟩
              exact ih _ I2 (by omega) a hp2 (hF'.tr c) hQ
          · rw [hin] at hi
            by_cases q : SA A (30 - f) = true
            · rw [q, Bool.true_and, decide_eq_false_iff_not] at hi
              have g2 : g = 2 := h.2.2.2.2.2.2.2.1.resolve_right (fun z => hi (by omega))
              subst g2
              have eall : rsP p (rws (SA A) (f + 1) (k + 1 + 1) l) = rsP (p ++ [30 - f]) (rws (SA A) f (k + 1) (l - pt (30 - f))) ++ rsP p (rws (SA A) f (k + 1 + 1) l) := by
                rw [rws_s, if_pos q, rsP_app, rsP_cons]
              have hskip : rwRun 2 (rsP (p ++ [30 - f]) (rws (SA A) f (k + 1) (l - pt (30 - f)))) s = (s, false) := by
                refine rwRun_skip _ (fun r hr => ?_)
                obtain ⟨r2, hr2, rfl⟩ := List.mem_map.mp hr
                obtain ⟨l1, l2⟩ := rws_mem f (k + 1) _ r2 (by omega) hr2
                cases r2 with
                | nil => rw [List.length_nil] at l1; omega
                | cons x r2 =>
                  rw [lastN_app]
                  have := (l2 _ (lastN_mem (x := x) (r := r2))).1
                  omega
              rw [eall, rwRun_app, hskip, if_neg (show ¬ ((s, false) : RwS × Bool).2 = true from Bool.false_ne_true)] at hQ
              rw [nx]
              exact ih s M (by omega) h hp hF hQ
            · refine go ?_
              rw [rws_s, if_neg q]; rfl
        · rw [lg_cmp_gt] at c1
          have e6 : (y * Int32.toInt64 (nI (k + 2))).toInt = pt (30 - f) * ((k + 2 : Nat) : Int) := tl_mul9 hy e5 (by rw [Int.mul_comm]; omega)
          have := cl_nlt hv e6 c1
          rw [Int.mul_comm] at this
          rw [rws_big2 (by omega) this] at hQ
          exact hQ M h hp hF
    refine ⟨fun c => absurd ((nlt_nI (a := k + 2) (b := 1) (by omega) (by omega)).mp c) (by omega), fun _ => ⟨fun _ => ⟨fun _ => L38 f s I hf h hp FrW.rf hQ, fun c => absurd ((nK (a := k + 2) (b := 1) (by omega) (by omega)).mp c) (by omega)⟩, fun c => absurd ((nlt_nI (a := p.length) (b := 5) (by omega) (by omega)).mpr (by omega)) c⟩⟩
end CSK
