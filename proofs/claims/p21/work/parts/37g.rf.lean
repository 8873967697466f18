/-! ===== the reference reads a bakery: men, the whole ===== -/
section MG
variable {T : Nat → Int32} {e a d : Nat} {I : Im} {J : Jm} {R : Rm} {Q : Qt} {B : BS}
/-- the first man of a name, in the block b -/
theorem px_mnamed {N : Nat → Int64} {w : Int64} {m b : Nat} {v : Int32} (h324 : 324 * v = nI (324 * b)) (h6 : 6 * v = nI (6 * b)) (hb : b < 5) (hm : m ≤ 6) (hC : I 102 (324 * b) = nI m) (hN : ∀ k, k < m → J 104 (6 * b + k) = N k) (hw : J 97 19 = w) (hQ : Q (nmG N w m 0) 0 I J R) : AM (d + 1) 226 112 [.ref 97, .int v] I J R Q := by
  refine am_X12_named (fun P hc => sg_X12_named_0 hc _ _ _ _ ?_)
  have L : ∀ f k : Nat, k + f = m → nmG N w m 0 = nmG N w f k → P 2 112 [(0, .ref 97), (1, .int v), (2, .int (nI k))] [] I J R := by
    intro f
    induction f with
    | zero =>
      intro k hk hv
      refine sg_X12_named_2 hc _ _ _ _ _ ?_
      rw [h324, tn_nI (by omega), hC]
      refine ⟨vp_of (nI_toInt (by omega)) (by omega) (by omega), fun _ => ?_, fun c => absurd ?_ c⟩
      · rw [hv] at hQ; exact hQ
      · rw [show k = m by omega]; exact (nle_nI (by omega) (by omega)).mpr (Nat.le_refl _)
    | succ f ih =>
      intro k hk hv
      refine sg_X12_named_2 hc _ _ _ _ _ ?_
      rw [h324, tn_nI (by omega), hC, h6, nI_add, tn_nI (by omega), hN k (by omega), hw, nI_k1, lg_cmp_eq]
      refine ⟨vp_of (nI_toInt (by omega)) (by omega) (by omega), fun c => absurd ((nle_nI (by omega) (by omega)).mp c) (by omega), fun _ => ⟨vp_nI (by omega) (by omega), ?_⟩⟩
      have e1 : nmG N w (f + 1) k = if N k = w then nI k else nmG N w f (k + 1) := rfl
      rw [e1] at hv
      refine ⟨fun c => ?_, fun c => ?_⟩
      · rw [if_neg c] at hv
        exact ih (k + 1) (by omega) hv
      · rw [if_pos c] at hv
        rw [hv] at hQ; exact hQ
  exact L m 0 (by omega) rfl
theorem nmG_in {N : Nat → Int64} {w : Int64} : ∀ f k, nmG N w f k = -1 ∨ ∃ j, k ≤ j ∧ j < k + f ∧ nmG N w f k = nI j := by
  intro f
  induction f with
  | zero => intro k; exact Or.inl rfl
  | succ f ih =>
    intro k
    unfold nmG
    by_cases q : N k = w
    · rw [if_pos q]; exact Or.inr ⟨k, by omega, by omega, rfl⟩
    · rw [if_neg q]
      rcases ih (k + 1) with h | ⟨j, h1, h2, h3⟩
      · exact Or.inl h
      · exact Or.inr ⟨j, by omega, by omega, h3⟩
theorem px_dueX (h : Mr T e a I J) (hQ : ∀ x : Int32, (x = 1 ∧ tI (tok T e a) = 5 ∨ x = 0 ∧ ¬ tI (tok T e a) = 5) → Q x 0 I J R) : AM (d + 2) 203 112 [.ref 97] I J R Q := px_isDue h (fun q => hQ 1 (Or.inl ⟨rfl, q⟩)) (fun q => hQ 0 (Or.inr ⟨rfl, q⟩))
theorem px_byX (h : Mr T e a I J) (hQ : ∀ x : Int32, (x = 1 ∧ tI (tok T e a) = 6 ∨ x = 0 ∧ ¬ tI (tok T e a) = 6) → Q x 0 I J R) : AM (d + 2) 204 112 [.ref 97] I J R Q := px_isBy h (fun q => hQ 1 (Or.inl ⟨rfl, q⟩)) (fun q => hQ 0 (Or.inr ⟨rfl, q⟩))
theorem px_mrM (hBO : BOk B) (h : Mr T e a I J) (hB : BkM B I J) (hE : ∀ p I2 J2, qrM T e B a = .error p → FrN I J I2 J2 → FtM p I2 → Q 0 0 I2 J2 R) (hK : ∀ B2 b I2 J2, qrM T e B a = .ok (B2, b) → FrN I J I2 J2 → Mr T e b I2 J2 → BkM B2 I2 J2 → Q 0 0 I2 J2 R) : AM (d + 6) 231 112 [.ref 97] I J R Q := by
  have hm := hBO.1.m
  have e0 : I 102 1296 = nI (mnN B.1) := (hB.1 0 (by omega)).trans hm.2
  refine am_X12_readMan (fun P hc => ?_)
  have b92 : ∀ p v I2 J2, qrM T e B a = .error p → FrN I J I2 J2 → FtM p I2 → P 92 112 [(0, .ref 97), (1, .int v)] [] I2 J2 R := fun p v I2 J2 he hF hf =>
    sg_X12_readMan_92 hc _ _ _ _ (px_mustB hf (px_duAny (fun x hx _ => px_bwB hf (px_byAny (fun x2 hx2 _ => px_bwB hf (px_haAny (fun x3 hx3 _ => px_perB hf (fun _ => ⟨fun _ => ⟨fun q => absurd q hf.ne.2.1, fun _ => hE p I2 J2 he hF hf⟩, fun q => absurd rfl q⟩))))))))
  have b72 : ∀ p v I2 J2, qrM T e B a = .error p → FrN I J I2 J2 → FtM p I2 → P 72 112 [(0, .ref 97), (1, .int v)] [] I2 J2 R := fun p v I2 J2 he hF hf => sg_X12_readMan_72 hc _ _ _ _ ⟨fun _ => b92 p v I2 J2 he hF hf, fun q => absurd q hf.ne.1⟩
  have b48 : ∀ p v I2 J2, qrM T e B a = .error p → FrN I J I2 J2 → FtM p I2 → P 48 112 [(0, .ref 97), (1, .int v)] [] I2 J2 R := fun p v I2 J2 he hF hf => sg_X12_readMan_48 hc _ _ _ _ ⟨fun _ => b72 p v I2 J2 he hF hf, fun q => absurd q hf.ne.1⟩
  have b25 : ∀ p v I2 J2, qrM T e B a = .error p → FrN I J I2 J2 → FtM p I2 → P 25 112 [(0, .ref 97), (1, .int v)] [] I2 J2 R := fun p v I2 J2 he hF hf => sg_X12_readMan_25 hc _ _ _ _ (px_mustB hf ⟨fun _ => b48 p v I2 J2 he hF hf, fun q => absurd q hf.ne.1⟩)
  refine sg_X12_readMan_0 hc _ _ _ ?_
  rw [show Int32.toNatClampNeg 1296 = 1296 from rfl, e0]
  refine ⟨vp_of (show (1296 : Int32).toInt = 1296 from rfl) (by omega) (by omega), fun c => ?_, fun c => px_fail (k := 6) h (by decide) h.s (fun I2 hF hf => b25 _ _ I2 J ?_ hF.nb hf)⟩
  · have hm5 : mnN B.1 ≤ 5 := by
      rcases Nat.lt_or_ge (mnN B.1) 6 with z | z
      · omega
      · exact absurd (by rw [show mnN B.1 = 6 by omega]; rfl) c
    have hv : qrM T e B a = rb (tkM T e (tB (tok T e a))) fun w b => if nmG B.2.1 w (mnN B.1) 0 = -1 then
        rb (rb (tkW T e 5 b) fun _ b => tkN T e 1 99 b) fun p b => rb (rb (tkW T e 6 b) fun _ b => tkN T e 1 30 b) fun q b =>
        rb (if tI (tok T e b) = 7 then tkL T e 31 0 (tB (tok T e b)) else .ok (0, b)) fun h b =>
        .ok ((upd (upd (upd (upd B.1 (34 + mnN B.1) p) (40 + mnN B.1) q) (46 + mnN B.1) h) 0 (B.1 0 + 1), vp_updL B.2.1 (mnN B.1) w, B.2.2), b)
      else .error (3, tS (tok T e (tB (tok T e a)))) := by
      unfold qrM; rw [if_neg (by rw [hm.2]; exact c)]
    refine sg_X12_readMan_25 hc _ _ _ _ (px_mustY h (fun I2 J2 hF2 h2 => ⟨fun q => absurd h2.f q, fun _ => ?_⟩))
    have hB2 := hB.m hF2
    refine px_isName h2 (fun n1 n2 _ => ⟨fun _ => ?_, fun q => absurd q (by decide)⟩) (fun hn _ => ⟨fun q => absurd rfl q, fun _ => px_amiss h2 (fun I3 hF3 hf => b48 _ _ I3 J2 ?_ (hF2.nb.tr hF3.nb) hf)⟩)
    · have hp : tkM T e (tB (tok T e a)) = .ok (tW (tok T e (tB (tok T e a))), tB (tok T e (tB (tok T e a)))) := by
        unfold tkM; rw [if_pos n1, if_neg n2]
      rw [rb_k hp] at hv
      have hk := tI_k (t := tok T e (tB (tok T e a))) (by rw [n1]; decide)
      have hw : J2 97 19 = tW (tok T e (tB (tok T e a))) := by rw [h2.w hk, if_neg n2]
      have e02 : I2 102 (324 * 4) = nI (mnN B.1) := (hB2.1 0 (by omega)).trans hm.2
      refine sg_X12_readMan_48 hc _ _ _ _ ⟨fun q => absurd h2.f q, fun _ => px_mnamed (b := 4) (m := mnN B.1) (by decide) (by decide) (by decide) hm.1 e02 hB2.2.1 hw ⟨fun c3 => ?_, fun c3 => ?_⟩⟩
      · have hnm : nmG B.2.1 (tW (tok T e (tB (tok T e a)))) (mnN B.1) 0 = -1 := by
          rcases nmG_in (N := B.2.1) (w := tW (tok T e (tB (tok T e a)))) (mnN B.1) 0 with z | ⟨j, _, hj, z⟩
          · exact z
          · rw [z] at c3; exact absurd c3 (nI_pos (by omega))
        rw [if_pos hnm] at hv
        refine sg_X12_readMan_72 hc _ _ _ _ ⟨fun q => absurd h2.f q, fun _ => ?_⟩
        have e24 : (24 + nI (mnN B.1) : Int32) = nI (24 + mnN B.1) := nI_add 24 _
        rw [e24, tn_nI (by omega), hw]
        refine ⟨vp_nI (by omega) (by omega), ?_⟩
        have hFw : FrN I J I2 (uJ J2 104 (24 + mnN B.1) (tW (tok T e (tB (tok T e a))))) := hF2.nb.uj (Or.inr ⟨rfl, by omega⟩)
        have h3 : Mr T e (tB (tok T e a)) I2 (uJ J2 104 (24 + mnN B.1) (tW (tok T e (tB (tok T e a))))) := h2.o (fun _ _ => rfl) rfl (uJ_ne (by decide))
        -- the names, with the new one
        have hB3 : ∀ I4 J4, FrM I2 (uJ J2 104 (24 + mnN B.1) (tW (tok T e (tB (tok T e a))))) I4 J4 → (∀ k, k < 324 → I4 102 (1296 + k) = B.1 k) ∧ (∀ k, k < mnN B.1 + 1 → J4 104 (24 + k) = vp_updL B.2.1 (mnN B.1) (tW (tok T e (tB (tok T e a)))) k) ∧ I4 97 24 = B.2.2.1 ∧ I4 97 25 = B.2.2.2.1 ∧ I4 97 26 = B.2.2.2.2 := fun I4 J4 hF4 => by
          refine ⟨fun k hk => ?_, fun k hk => ?_, ?_, ?_, ?_⟩
          · rw [hF4.i (by intro q; exact absurd q.1 (by decide))]; exact hB2.1 k hk
          · rw [hF4.j (by intro q; exact absurd q.1 (by decide))]
            by_cases z : k = mnN B.1
            · subst z; rw [rj_eq]; simp [vp_updL]
            · rw [rj_k (by omega)]; simp [vp_updL, z]; exact hB2.2.1 k (by omega)
          · rw [hF4.i (by decide)]; exact hB2.2.2.1
          · rw [hF4.i (by decide)]; exact hB2.2.2.2.1
          · rw [hF4.i (by decide)]; exact hB2.2.2.2.2
        refine sg_X12_readMan_92 hc _ _ _ _ (px_mustY h3 (fun I4 J4 hF4 h4 => ?_))
        -- the tail, from the first word on
        have fin : ∀ (p q s : Int32) (b : Nat) (I7 : Im) (J7 : Jm), qrM T e B a = .ok ((upd (upd (upd (upd B.1 (34 + mnN B.1) p) (40 + mnN B.1) q) (46 + mnN B.1) s) 0 (B.1 0 + 1), vp_updL B.2.1 (mnN B.1) (tW (tok T e (tB (tok T e a)))), B.2.2), b) → FrM I2 (uJ J2 104 (24 + mnN B.1) (tW (tok T e (tB (tok T e a))))) I7 J7 → Mr T e b I7 J7 → (((I7 97 12) ≤ (0 : Int32) → (vp_in (1330 + nI (mnN B.1)) 1620 ∧ (vp_in (1336 + nI (mnN B.1)) 1620 ∧ (vp_in (1342 + nI (mnN B.1)) 1620 ∧ (vp_in 1296 1620 ∧ (vp_in 1296 1620 ∧ Q 0 0 (uI (uI (uI (uI I7 102 (Int32.toNatClampNeg (1330 + nI (mnN B.1))) p) 102 (Int32.toNatClampNeg (1336 + nI (mnN B.1))) q) 102 (Int32.toNatClampNeg (1342 + nI (mnN B.1))) s) 102 (Int32.toNatClampNeg 1296) (((uI (uI (uI I7 102 (Int32.toNatClampNeg (1330 + nI (mnN B.1))) p) 102 (Int32.toNatClampNeg (1336 + nI (mnN B.1))) q) 102 (Int32.toNatClampNeg (1342 + nI (mnN B.1))) s) 102 (Int32.toNatClampNeg 1296)) + 1)) J7 R)))))) ∧ (¬ (I7 97 12) ≤ (0 : Int32) → Q 0 0 I7 J7 R)) := fun p q s b I7 J7 hv7 hF7 h7 => by
          have f1 : (1330 + nI (mnN B.1) : Int32) = nI (1296 + (34 + mnN B.1)) := (nI_add 1330 _).trans (by rw [show 1330 + mnN B.1 = 1296 + (34 + mnN B.1) by omega])
          have f2 : (1336 + nI (mnN B.1) : Int32) = nI (1296 + (40 + mnN B.1)) := (nI_add 1336 _).trans (by rw [show 1336 + mnN B.1 = 1296 + (40 + mnN B.1) by omega])
          have f3 : (1342 + nI (mnN B.1) : Int32) = nI (1296 + (46 + mnN B.1)) := (nI_add 1342 _).trans (by rw [show 1342 + mnN B.1 = 1296 + (46 + mnN B.1) by omega])
          have hv1296 : vp_in 1296 1620 := vp_of (show (1296 : Int32).toInt = 1296 from rfl) (by omega) (by omega)
          rw [f1, f2, f3, tn_nI (by omega), tn_nI (by omega), tn_nI (by omega), show Int32.toNatClampNeg 1296 = 1296 from rfl]
          refine ⟨fun _ => ⟨vp_of (nI_toInt (by omega)) (by omega) (by omega), vp_of (nI_toInt (by omega)) (by omega) (by omega), vp_of (nI_toInt (by omega)) (by omega) (by omega), hv1296, hv1296, ?_⟩, fun z => absurd h7.le.1 z⟩
          obtain ⟨g1, g2, g3, g4, g5⟩ := hB3 I7 J7 hF7
          have e7 : uI (uI (uI I7 102 (1296 + (34 + mnN B.1)) p) 102 (1296 + (40 + mnN B.1)) q) 102 (1296 + (46 + mnN B.1)) s 102 1296 = B.1 0 := by
            rw [rd_k (by omega), rd_k (by omega), rd_k (by omega)]; exact g1 0 (by omega)
          rw [e7]
          have hC2 : mnN (upd (upd (upd (upd B.1 (34 + mnN B.1) p) (40 + mnN B.1) q) (46 + mnN B.1) s) 0 (B.1 0 + 1)) = mnN B.1 + 1 := mnN_of (by omega) (by rw [upd_s, hm.2, nI_k1])
          refine hK _ b _ J7 hv7 (((((hFw.tr hF7.nb).u (Or.inr ⟨rfl, by omega⟩)).u (Or.inr ⟨rfl, by omega⟩)).u (Or.inr ⟨rfl, by omega⟩)).u (Or.inr ⟨rfl, by omega⟩)) ((((h7.w_ (Or.inl (by decide)) (by decide)).w_ (Or.inl (by decide)) (by decide)).w_ (Or.inl (by decide)) (by decide)).w_ (Or.inl (by decide)) (by decide)) ⟨fun k hk => ?_, fun k hk => ?_, ?_, ?_, ?_⟩
          · show _ = upd (upd (upd (upd B.1 (34 + mnN B.1) p) (40 + mnN B.1) q) (46 + mnN B.1) s) 0 (B.1 0 + 1) k
            by_cases z0 : k = 0
            · subst z0; rw [rd_eq, upd_s]
            · rw [rd_k (by omega), upd_i z0]
              by_cases z1 : k = 46 + mnN B.1
              · subst z1; rw [rd_eq, upd_s]
              · rw [rd_k (by omega), upd_i z1]
                by_cases z2 : k = 40 + mnN B.1
                · subst z2; rw [rd_eq, upd_s]
                · rw [rd_k (by omega), upd_i z2]
                  by_cases z3 : k = 34 + mnN B.1
                  · subst z3; rw [rd_eq, upd_s]
                  · rw [rd_k (by omega), upd_i z3]; exact g1 k hk
          · change k < mnN (upd (upd (upd (upd B.1 (34 + mnN B.1) p) (40 + mnN B.1) q) (46 + mnN B.1) s) 0 (B.1 0 + 1)) at hk
            rw [hC2] at hk
            exact g2 k hk
          · rw [rd_ne (by decide), rd_ne (by decide), rd_ne (by decide), rd_ne (by decide)]; exact g3
          · rw [rd_ne (by decide), rd_ne (by decide), rd_ne (by decide), rd_ne (by decide)]; exact g4
          · rw [rd_ne (by decide), rd_ne (by decide), rd_ne (by decide), rd_ne (by decide)]; exact g5
        have er : ∀ p I5 J5, qrM T e B a = .error p → FrM I2 (uJ J2 104 (24 + mnN B.1) (tW (tok T e (tB (tok T e a))))) I5 J5 → FtM p I5 → Q 0 0 I5 J5 R := fun p I5 J5 he hF5 hf => hE p I5 J5 he (hFw.tr hF5.nb) hf
        refine px_dueX h4 (fun x2 hx2 _ => px_bw hx2 h4 (fun p2 I5 J5 hp hF5 hf => px_byAny (fun x4 hx4 _ => px_bwB hf (px_haAny (fun x3 hx3 _ => px_perB hf (fun _ => ⟨fun _ => ⟨fun q => absurd q hf.ne.2.1, fun _ => er p2 I5 J5 (by rw [hv, rb_e hp]) (hF4.tr hF5) hf⟩, fun q => absurd rfl q⟩))))) (fun p b5 I5 J5 hp _ _ hF5 h5 => ?_))
        rw [rb_k hp] at hv
        refine px_byX h5 (fun x4 hx4 _ => px_bw hx4 h5 (fun p2 I6 J6 hp hF6 hf => px_haAny (fun x3 hx3 _ => px_perB hf (fun _ => ⟨fun _ => ⟨fun q => absurd q hf.ne.2.1, fun _ => er p2 I6 J6 (by rw [hv, rb_e hp]) ((hF4.tr hF5).tr hF6) hf⟩, fun q => absurd rfl q⟩))) (fun q b6 I6 J6 hp6 _ _ hF6 h6 => ?_))
        rw [rb_k hp6] at hv
        have hFz := (hF4.tr hF5).tr hF6
        refine px_isHas h6 (fun ht _ => ?_) (fun ht _ => ?_)
        · rw [if_pos ht] at hv
          exact px_perY h6 (fun I7 J7 hF7 h7 _ => ⟨fun z => absurd z (by decide), fun _ => px_msl h7 (fun p2 x I8 J8 hp8 hF8 hf => ⟨fun z => absurd z hf.ne.2.1, fun _ => er p2 I8 J8 (by rw [hv, rb_e hp8]) ((hFz.tr hF7).tr hF8) hf⟩) (fun s b8 I8 J8 hp8 hF8 h8 => fin p q s b8 I8 J8 (by rw [hv, rb_k hp8]) ((hFz.tr hF7).tr hF8) h8)⟩)
        · rw [if_neg ht] at hv
          exact px_perN h6 (fun _ => ⟨fun _ => fin p q 0 b6 I6 J6 hv hFz h6, fun z => absurd rfl z⟩)
      · have hnm : ¬ nmG B.2.1 (tW (tok T e (tB (tok T e a)))) (mnN B.1) 0 = -1 := fun z => by rw [z] at c3; exact c3 (by decide)
        rw [if_neg hnm] at hv
        exact px_fail (k := 3) h2 (by decide) h2.s (fun I3 hF3 hf => b72 _ _ I3 J2 hv (hF2.nb.tr hF3.nb) hf)
    · have hp : tkM T e (tB (tok T e a)) = .error (mis T e (tB (tok T e a))) := by
        unfold tkM
        rcases hn with hn | hn
        · rw [if_neg hn]
        · rw [if_pos hn]
          split <;> rfl
      rw [hv, rb_e hp]
  · unfold qrM; rw [if_pos (by rw [hm.2]; exact c)]
end MG
