section PT14x1
section RNC
variable {I I1 : Im} {J : Jm} {R : Rm} {Q : Qt} {M v0 o p : Nat} {c0 : Int32} {r : Rn9} {m od : Int32} {s : DS}
theorem px_lSplit2 {e : Nat} {d n : Int32} {s1 : StS9} (e1 : r.1 = s1) (hL : isO 112 v0 4 = true) (hO : isO 112 o 0 = true) (hv : o + 5 < v0) (h : LfA v0 o M c0 r I) (hQ : ∀ I2, LfA v0 o M c0 (sv9 r (opSplit d n s1)).2 I2 → FrAc v0 o I J I2 J → Q (sv9 r (opSplit d n s1)).1 0 I2 J R) : AM (e + 3) 49 112 [.ref v0, .ref o, .int d, .int n] I J R Q := by
  subst e1
  exact px_lSplit hL hO hv h hQ
theorem px_lGive {e : Nat} {k d : Int32} (hL : isO 112 v0 4 = true) (hO : isO 112 o 0 = true) (hv : o + 5 < v0) (em : I o 4 = m) (hm : m.toInt = (M : Int) ∧ M ≤ 6) (h : LfA v0 o M c0 r I) (hQ : ∀ I2, LfA v0 o M c0 (gv9 m k d r).2 I2 → FrAc v0 o I J I2 J → Q (gv9 m k d r).1 0 I2 J R) : AM (e + 3) 50 112 [.ref v0, .ref o, .int k, .int d] I J R Q := by
  subst em
  have hy := give_c9 (m := I o 4) (k := k) (d := d) (s := r.1)
  refine w_X4_handOver (bif_t hO (px_handOver hO hm h.1 (fun I1 h1 hF => ⟨fun c => bif_t hL ⟨fun _ => bif_t hL ⟨Or.inl rfl, ?_⟩, fun z => absurd rfl z⟩, fun c => bif_t hL ⟨fun z => absurd z (by decide), fun _ => bif_t hL ⟨Or.inr rfl, ?_⟩⟩⟩)))
  · have e0 : b9 (opGive (I o 4) k d r.1).1 = 0 := if_neg c
    have k := hQ _ (h.gi (y := b9 (opGive (I o 4) k d r.1).1) hv h1 hF hy) (hF.ac.u (Or.inr ⟨rfl, by decide⟩))
    unfold gv9 at k
    rw [e0] at k
    exact k
  · have e0 : b9 (opGive (I o 4) k d r.1).1 = 1 := if_pos c
    have k := hQ _ (h.gi (y := b9 (opGive (I o 4) k d r.1).1) hv h1 hF hy) (hF.ac.u (Or.inr ⟨rfl, by decide⟩))
    unfold gv9 at k
    rw [e0] at k
    exact k
theorem px_lAdd {e : Nat} {n : Int32} (hL : isO 112 v0 4 = true) (hO : isO 112 o 0 = true) (hv : o + 5 < v0) (h : LfA v0 o M c0 r I) (hQ : ∀ I2, LfA v0 o M c0 (bv9 n r).2 I2 → FrAc v0 o I J I2 J → Q (bv9 n r).1 0 I2 J R) : AM (e + 2) 51 112 [.ref v0, .ref o, .int n] I J R Q := by
  have hy := add_c9 (n := n) (s := r.1)
  refine w_X4_addLoaves (bif_t hO (px_addLoaves hO h.1 (fun I1 h1 hF => ⟨fun c => bif_t hL ⟨fun _ => bif_t hL ⟨Or.inl rfl, ?_⟩, fun z => absurd rfl z⟩, fun c => bif_t hL ⟨fun z => absurd z (by decide), fun _ => bif_t hL ⟨Or.inr rfl, ?_⟩⟩⟩)))
  · have e0 : b9 (opAdd n r.1).1 = 0 := if_neg c
    have k := hQ _ (h.ba (y := if (opAdd n r.1).1 = 0 then n else 0) hv h1 hF hy) (hF.ac.u (Or.inr ⟨rfl, by decide⟩))
    unfold bv9 at k
    rw [e0, if_neg c] at k
    exact k
  · have e0 : b9 (opAdd n r.1).1 = 1 := if_pos c
    have k := hQ _ (h.ba (y := if (opAdd n r.1).1 = 0 then n else 0) hv h1 hF hy) (hF.ac.u (Or.inr ⟨rfl, by decide⟩))
    unfold bv9 at k
    rw [e0, if_pos c] at k
    exact k
theorem px_lAny {e : Nat} (hL : isO 112 v0 4 = true) (hO : isO 112 o 0 = true) (hv : o + 5 < v0) (em : I o 4 = m) (hm : m.toInt = (M : Int) ∧ M ≤ 6) (eo : I o 1 = od) (h : LfA v0 o M c0 r I) (hQ : ∀ I2, LfA v0 o M c0 (an9 m od r).2 I2 → FrAc v0 o I J I2 J → Q (an9 m od r).1 0 I2 J R) : AM (e + 4) 47 112 [.ref v0, .ref o] I J R Q := by
  refine w_X4_doAny (bif_t hO ?_)
  rw [em]
  have e7 := h.2.1
  refine ⟨fun c1 => bif_t hO (bif_t hL (px_cDraw hL c1 (bif_t hL (px_cDraw hL (by decide) (bif_t hL (px_cDraw hL (by decide) (bif_t hO ?_))))))), fun c1 => ?_⟩
  · have n0 : ¬ m = 0 := fun z => by rw [z] at c1; exact absurd c1 (by decide)
    rw [rd_eq, rd_eq, e7]
    have h3 : LfA v0 o M c0 (sd9 (dr9 (dr9 (dr9 r.2.1))) r) (uI (uI (uI I v0 7 (dr9 r.2.1)) v0 7 (dr9 (dr9 r.2.1))) v0 7 (dr9 (dr9 (dr9 r.2.1)))) := h.sd3 hv
    have hF3 : FrAc v0 o I J (uI (uI (uI I v0 7 (dr9 r.2.1)) v0 7 (dr9 (dr9 r.2.1))) v0 7 (dr9 (dr9 (dr9 r.2.1)))) J := ((FrW.rf.u (Or.inr ⟨rfl, by decide⟩)).u (Or.inr ⟨rfl, by decide⟩)).u (Or.inr ⟨rfl, by decide⟩)
    have em3 : uI (uI (uI I v0 7 (dr9 r.2.1)) v0 7 (dr9 (dr9 r.2.1))) v0 7 (dr9 (dr9 (dr9 r.2.1))) o 4 = m := by rw [rd_ne (by first | decide | omega), rd_ne (by first | decide | omega), rd_ne (by first | decide | omega)]; exact em
    have eo3 : uI (uI (uI I v0 7 (dr9 r.2.1)) v0 7 (dr9 (dr9 r.2.1))) v0 7 (dr9 (dr9 (dr9 r.2.1))) o 1 = od := by rw [rd_ne (by first | decide | omega), rd_ne (by first | decide | omega), rd_ne (by first | decide | omega)]; exact eo
    rw [eo3]
    generalize uI (uI (uI I v0 7 (dr9 r.2.1)) v0 7 (dr9 (dr9 r.2.1))) v0 7 (dr9 (dr9 (dr9 r.2.1))) = A at h3 hF3 em3
    refine ⟨fun c => bif_t hL ?_, fun c => bif_t hL ?_⟩
    · have ea : an9 m od r = gv9 m (dm9 (dr9 r.2.1) m) (dm9 (dr9 (dr9 r.2.1)) 30 + 1) (sd9 (dr9 (dr9 (dr9 r.2.1))) r) := (if_neg n0).trans (if_pos c)
      rw [ea] at hQ
      exact px_lGive hL hO hv em3 hm h3 (fun I2 h2 hF hb => ⟨hb, hQ I2 h2 (hF3.tr hF)⟩)
    · have ea : an9 m od r = sv9 (sd9 (dr9 (dr9 (dr9 r.2.1))) r) (opSplit (dm9 (dr9 (dr9 r.2.1)) 30 + 1) 2 r.1) := (if_neg n0).trans (if_neg c)
      rw [ea] at hQ
      exact px_lSplit2 (s1 := r.1) sd9_1 hL hO hv h3 (fun I2 h2 hF hb => ⟨hb, hQ I2 h2 (hF3.tr hF)⟩)
  · have n0 : m = 0 := by
      apply Int32.toInt_inj.mp
      rw [le_i, show (1 : Int32).toInt = 1 from rfl] at c1
      rw [show (0 : Int32).toInt = 0 from rfl]
      omega
    have ea : an9 m od r = (0, r) := if_pos n0
    rw [ea] at hQ
    exact ⟨Or.inl rfl, hQ I h FrW.rf⟩
theorem px_lAct {e a : Nat} {c : CD} (hL : isO 112 v0 4 = true) (hO : isO 112 o 0 = true) (hP : isO 112 p 2 = true) (hv : o + 5 < v0) (ha : a < 60) (g1 : I (p + 1) a = c.1) (g2 : I (p + 2) a = c.2.1) (g3 : I (p + 3) a = c.2.2.1) (g4 : I (p + 4) a = c.2.2.2) (n14 : ¬ c.1 = 14) (em : I o 4 = m) (hm : m.toInt = (M : Int) ∧ M ≤ 6) (h : LfA v0 o M c0 r I) (hQ : ∀ I2, LfA v0 o M c0 (ac9 m od c r).2 I2 → FrAc v0 o I J I2 J → Q (ac9 m od c r).1 0 I2 J R) : AM (e + 4) 46 112 [.ref v0, .ref o, .ref p, .int (nI a)] I J R Q := by
  obtain ⟨a1, l1, -⟩ := fa_2_3 hP
  obtain ⟨a2, l2, -⟩ := fa_2_4 hP
  obtain ⟨a3, l3, -⟩ := fa_2_5 hP
  obtain ⟨a4, l4, -⟩ := fa_2_6 hP
  have v60 : vp_in (nI a) 60 := vp_nI (by omega) (by omega)
  have x1 : vp_in (nI a) (aL (p + 1)) := by rw [l1]; exact v60
  have x2 : vp_in (nI a) (aL (p + 2)) := by rw [l2]; exact v60
  have x3 : vp_in (nI a) (aL (p + 3)) := by rw [l3]; exact v60
  have x4 : vp_in (nI a) (aL (p + 4)) := by rw [l4]; exact v60
  refine w_X4_act (bif_t hP (bif_t a2 ⟨x2, bif_t hP (bif_t a3 ⟨x3, bif_t hP (bif_t a1 ⟨x1, ?_⟩)⟩)⟩))
  rw [tn_nI (by omega), g1, g2, g3, g4]
  refine ⟨fun c9 => bif_t hP (bif_t a4 ⟨x4, bif_t hL ?_⟩), fun n9 => ⟨fun c10 => bif_t hL ?_, fun n10 => ⟨fun c11 => bif_t hL ?_, fun n11 => ⟨fun c12 => bif_t hO ?_, fun n12 => bif_t hL ?_⟩⟩⟩⟩
  · have ea : ac9 m od c r = sv9 r (opCut c.2.1 c.2.2.1 c.2.2.2 r.1) := if_pos c9
    rw [ea] at hQ
    exact px_lCut hL hO hv h (fun I2 h2 hF hb => ⟨hb, hQ I2 h2 hF⟩)
  · have ea : ac9 m od c r = sv9 r (opSplit c.2.1 c.2.2.1 r.1) := (if_neg n9).trans (if_pos c10)
    rw [ea] at hQ
    exact px_lSplit hL hO hv h (fun I2 h2 hF hb => ⟨hb, hQ I2 h2 hF⟩)
  · have ea : ac9 m od c r = gv9 m c.2.1 c.2.2.1 r := (if_neg n9).trans ((if_neg n10).trans (if_pos c11))
    rw [ea] at hQ
    exact px_lGive hL hO hv em hm h (fun I2 h2 hF hb => ⟨hb, hQ I2 h2 hF⟩)
  · have ea : ac9 m od c r = sv9 r (opTake m c.2.1 c.2.2.1 r.1) := (if_neg n9).trans ((if_neg n10).trans ((if_neg n11).trans (if_pos c12)))
    rw [ea] at hQ
    have hm2 : (I o 4).toInt = (M : Int) ∧ M ≤ 6 := by rw [em]; exact hm
    refine px_handBack hO hm2 h.1 (fun I2 h2 hF => ?_)
    rw [em] at h2 ⊢
    have kq := hQ I2 (h.ta hv h2 hF take_c9) hF.ac
    unfold sv9 at kq
    refine ⟨fun z => ⟨Or.inl rfl, ?_⟩, fun z => ⟨Or.inr rfl, ?_⟩⟩
    · have e0 : b9 (opTake m c.2.1 c.2.2.1 r.1).1 = 0 := if_neg z
      rw [e0] at kq
      exact kq
    · have e0 : b9 (opTake m c.2.1 c.2.2.1 r.1).1 = 1 := if_pos z
      rw [e0] at kq
      exact kq
  · have ea : ac9 m od c r = bv9 c.2.1 r := (if_neg n9).trans ((if_neg n10).trans ((if_neg n11).trans ((if_neg n12).trans (if_neg n14))))
    rw [ea] at hQ
    exact px_lAdd hL hO hv h (fun I2 h2 hF hb => ⟨hb, hQ I2 h2 hF⟩)
theorem px_cmp9 {e : Nat} {a b : Int64} {g : Int32} (hQ : Q (bo9 (cp9 a g b)) 0 I J R) : AM (e + 1) 45 112 [.long a, .int g, .long b] I J R Q := by
  refine w_X4_compares ⟨fun n60 => ⟨fun n62 => ?_, fun c62 => ?_⟩, fun c60 => ?_⟩
  · have ec : cp9 a g b = decide (lg_cmp a b = (0 : Int32)) := (if_neg n60).trans (if_neg n62)
    rw [ec] at hQ
    refine ⟨fun c => ⟨Or.inl rfl, ?_⟩, fun c => ⟨Or.inr rfl, ?_⟩⟩
    · rw [bo9_f c] at hQ; exact hQ
    · rw [bo9_t c] at hQ; exact hQ
  · have ec : cp9 a g b = decide (¬ lg_cmp a b ≤ (0 : Int32)) := (if_neg n60).trans (if_pos c62)
    rw [ec] at hQ
    refine ⟨fun c => ⟨Or.inl rfl, ?_⟩, fun c => ⟨Or.inr rfl, ?_⟩⟩
    · rw [bo9_f (fun z => z c)] at hQ; exact hQ
    · rw [bo9_t c] at hQ; exact hQ
  · have ec : cp9 a g b = decide (¬ (0 : Int32) ≤ lg_cmp a b) := if_pos c60
    rw [ec] at hQ
    refine ⟨fun c => ⟨Or.inl rfl, ?_⟩, fun c => ⟨Or.inr rfl, ?_⟩⟩
    · rw [bo9_f (fun z => z c)] at hQ; exact hQ
    · rw [bo9_t c] at hQ; exact hQ
theorem of9 {y : Int64} {l : Int} (h : y.toInt = l) : y = Int64.ofInt l := by rw [← h]; exact (Int64.ofInt_toInt y).symm
/-- the tests' men and slices are there -/
noncomputable def VC9 (m : Int32) (c : CD) : Prop := (c.1 = 16 ∨ c.1 = 18 → (0 : Int32) ≤ c.2.1 ∧ c.2.1 < m) ∧ (c.1 = 17 → sq9 c.2.1)
theorem isTs_c {i : Int32} (h : isTs i = true) : i = 16 ∨ i = 17 ∨ i = 18 := by
  unfold isTs at h
  rw [Bool.or_eq_true, Bool.or_eq_true, beq_iff_eq, beq_iff_eq, beq_iff_eq] at h
  exact h
theorem px_lHold {e a : Nat} {c : CD} {du : Du9} (hO : isO 112 o 0 = true) (hP : isO 112 p 2 = true) (ha : a < 60) (g1 : I (p + 1) a = c.1) (g2 : I (p + 2) a = c.2.1) (g3 : I (p + 3) a = c.2.2.1) (g4 : I (p + 4) a = c.2.2.2) (hT : isTs c.1 = true) (hV : VC9 m c) (em : I o 4 = m) (hm : m.toInt = (M : Int) ∧ M ≤ 6) (hd : DuA o M du I) (hs : ∀ k, k < M → sh (du k).1 (du k).2) (h : BkA o M r.1 I) (hQ : Q (bo9 (ho9 du c r.1)) 0 I J R) : AM (e + 4) 44 112 [.ref o, .ref p, .int (nI a)] I J R Q := by
  obtain ⟨a1, l1, -⟩ := fa_2_3 hP
  obtain ⟨a2, l2, -⟩ := fa_2_4 hP
  obtain ⟨a3, l3, -⟩ := fa_2_5 hP
  obtain ⟨a4, l4, -⟩ := fa_2_6 hP
  obtain ⟨b0, k0, -⟩ := fa_0_0 hO
  have v60 : vp_in (nI a) 60 := vp_nI (by omega) (by omega)
  have x1 : vp_in (nI a) (aL (p + 1)) := by rw [l1]; exact v60
  have x2 : vp_in (nI a) (aL (p + 2)) := by rw [l2]; exact v60
  have x3 : vp_in (nI a) (aL (p + 3)) := by rw [l3]; exact v60
  have x4 : vp_in (nI a) (aL (p + 4)) := by rw [l4]; exact v60
  have hm2 : (I o 4).toInt = (M : Int) ∧ M ≤ 6 := by rw [em]; exact hm
  refine w_X4_holdsTrue (bif_t hP (bif_t a2 ⟨x2, bif_t hP (bif_t a4 ⟨x4, bif_t hP (bif_t a1 ⟨x1, ?_⟩)⟩)⟩))
  rw [tn_nI (by omega), g1, g2, g4]
  refine ⟨fun c16 => bif_t hO ?_, fun n16 => ⟨fun c17 => ?_, fun n17 => bif_t hO ?_⟩⟩
  · have hk := hV.1 (Or.inl c16)
    have hk2 : (0 : Int32) ≤ c.2.1 ∧ c.2.1 < I o 4 := by rw [em]; exact hk
    have nk := (mn_nn hk hm).1
    have eh : ho9 du c r.1 = decide (lg_cmp (Int64.ofInt (lk9 du r.1.2.1 (nn9 c.2.1))) 0 = (0 : Int32)) := if_pos c16
    rw [eh] at hQ
    refine px_cMan9 hO (fun _ _ => ⟨fun z => absurd z (by decide), fun _ => bif_t hO (px_lacking hO hk2 hm2 h hd (hs _ nk) (fun y hy => ?_))⟩) (fun z => absurd hk2 z)
    rw [← of9 hy] at hQ
    refine ⟨fun c => ⟨Or.inl rfl, ?_⟩, fun c => ⟨Or.inr rfl, ?_⟩⟩
    · rw [bo9_f c] at hQ; exact hQ
    · rw [bo9_t c] at hQ; exact hQ
  · have hq := hV.2 c17
    obtain ⟨-, q1, q2⟩ := sq_nn hq
    have eh : ho9 du c r.1 = cp9 (Int32.toInt64 (r.1.1 (nn9 c.2.1))) c.2.2.1 (Int32.toInt64 c.2.2.2) := (if_neg n16).trans (if_pos c17)
    rw [eh] at hQ
    refine px_sl9 (fun _ _ => ⟨fun z => absurd z (by decide), fun _ => bif_t hO (bif_t b0 ⟨by rw [k0]; exact sq_vp hq (by decide), bif_t hP (bif_t a3 ⟨x3, ?_⟩)⟩)⟩) (fun z => absurd hq z)
    have e1 : I (o + 1) (Int32.toNatClampNeg c.2.1) = r.1.1 (nn9 c.2.1) := h.1 _ q1 q2
    rw [e1, g3]
    refine px_cmp9 (fun _ => ?_)
    cases z : cp9 (Int32.toInt64 (r.1.1 (nn9 c.2.1))) c.2.2.1 (Int32.toInt64 c.2.2.2) with
    | true => rw [z] at hQ; exact ⟨fun y => absurd y (show ¬ bo9 true = 0 by decide), fun _ => ⟨Or.inr rfl, hQ⟩⟩
    | false => rw [z] at hQ; exact ⟨fun _ => ⟨Or.inl rfl, hQ⟩, fun y => absurd (show bo9 false = 0 from rfl) y⟩
  · have c18 : c.1 = 18 := (isTs_c hT).elim (fun z => absurd z n16) (fun z => z.elim (fun y => absurd y n17) id)
    have hk := hV.1 (Or.inr c18)
    have hk2 : (0 : Int32) ≤ c.2.1 ∧ c.2.1 < I o 4 := by rw [em]; exact hk
    have nk := (mn_nn hk hm).1
    have eh : ho9 du c r.1 = cp9 (Int64.ofInt (lk9 du r.1.2.1 (nn9 c.2.1))) c.2.2.1 ((Int32.toInt64 c.2.2.2) * 2329089562800) := (if_neg n16).trans (if_neg n17)
    rw [eh] at hQ
    refine px_cMan9 hO (fun _ _ => ⟨fun z => absurd z (by decide), fun _ => bif_t hO (px_lacking hO hk2 hm2 h hd (hs _ nk) (fun y hy => bif_t hP (bif_t a3 ⟨x3, ?_⟩)))⟩) (fun z => absurd hk2 z)
    rw [← of9 hy] at hQ
    rw [g3]
    refine px_cmp9 (fun _ => ?_)
    cases z : cp9 y c.2.2.1 ((Int32.toInt64 c.2.2.2) * 2329089562800) with
    | true => rw [z] at hQ; exact ⟨fun y => absurd y (show ¬ bo9 true = 0 by decide), fun _ => ⟨Or.inr rfl, hQ⟩⟩
    | false => rw [z] at hQ; exact ⟨fun _ => ⟨Or.inl rfl, hQ⟩, fun y => absurd (show bo9 false = 0 from rfl) y⟩
end RNC
end PT14x1
