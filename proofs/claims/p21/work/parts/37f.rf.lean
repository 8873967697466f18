/-! ===== the reference reads a bakery ===== -/
noncomputable abbrev msC : List Nat := [12, 13, 14, 15, 16, 17, 18, 24, 25, 26]
noncomputable abbrev WN : Nat → Nat → Prop := fun c k => (c = 97 ∧ k ∈ msC) ∨ (c = 102 ∧ 1296 ≤ k)
noncomputable abbrev VN : Nat → Nat → Prop := fun c k => (c = 97 ∧ k = 19) ∨ (c = 104 ∧ 24 ≤ k)
noncomputable abbrev FrN (I : Im) (J : Jm) (I2 : Im) (J2 : Jm) : Prop := FrW WN VN I J I2 J2
theorem FrW.nb {I I2 : Im} {J J2 : Jm} (h : FrM I J I2 J2) : FrN I J I2 J2 := h.up (fun _ _ q => Or.inl ⟨q.1, (show ∀ k, k ∈ msB → k ∈ msC by decide) _ q.2⟩) (fun _ _ q => Or.inl q)
/-- the new block holds what is read -/
noncomputable def BkM (B : BS) (I : Im) (J : Jm) : Prop := (∀ k, k < 324 → I 102 (1296 + k) = B.1 k) ∧ (∀ k, k < mnN B.1 → J 104 (24 + k) = B.2.1 k) ∧ I 97 24 = B.2.2.1 ∧ I 97 25 = B.2.2.2.1 ∧ I 97 26 = B.2.2.2.2
section MB
variable {T : Nat → Int32} {e a d : Nat} {I : Im} {J : Jm} {R : Rm} {Q : Qt} {B : BS}
theorem BkM.m {I2 : Im} {J2 : Jm} (h : BkM B I J) (hF : FrM I J I2 J2) : BkM B I2 J2 := by
  obtain ⟨h1, h2, h3, h4, h5⟩ := h
  refine ⟨fun k hk => ?_, fun k hk => ?_, ?_, ?_, ?_⟩
  · rw [hF.i (by intro q; exact absurd q.1 (by decide))]; exact h1 k hk
  · rw [hF.j (by intro q; exact absurd q.1 (by decide))]; exact h2 k hk
  · rw [hF.i (by decide)]; exact h3
  · rw [hF.i (by decide)]; exact h4
  · rw [hF.i (by decide)]; exact h5
/-- a number in the new block -/
theorem BkM.u {j : Nat} {v : Int32} {N : Nat → Int64} {x y z : Int32} {C : Nat → Int32} (h : BkM (C, N, x, y, z) I J) (hj : j < 324) (h0 : ¬ j = 0) : BkM (upd C j v, N, x, y, z) (uI I 102 (1296 + j) v) J := by
  obtain ⟨h1, h2, h3, h4, h5⟩ := h
  refine ⟨fun k hk => ?_, fun k hk => ?_, ?_, ?_, ?_⟩
  · by_cases q : k = j
    · subst q; rw [rd_eq]; exact upd_s.symm
    · rw [rd_k (by omega)]
      show I 102 (1296 + k) = upd C j v k
      rw [upd_i q]; exact h1 k hk
  · exact h2 k (by change k < mnN (upd C j v) at hk; rw [mnN_u h0] at hk; exact hk)
  · rw [rd_ne (by decide)]; exact h3
  · rw [rd_ne (by decide)]; exact h4
  · rw [rd_ne (by decide)]; exact h5
theorem Mr.w_ {c k : Nat} {v : Int32} (h : Mr T e a I J) (hc : ¬ c = 97 ∨ (k = 24 ∨ k = 25 ∨ k = 26)) (hc4 : ¬ c = 101) : Mr T e a (uI I c k v) J := h.o (fun j hj => by
  by_cases q : c = 97
  · subst q; exact rd_k (by omega)
  · exact rd_ne (fun z => q z.symm)) (uI_ne (fun q => hc4 q.symm)) rfl
theorem FtM.w_ {p : Nat × Nat} {c k : Nat} {v : Int32} (h : FtM p I) (hc : ¬ c = 97 ∨ (k = 24 ∨ k = 25 ∨ k = 26)) : FtM p (uI I c k v) := by
  have e1 : ∀ j, j = 12 ∨ j = 13 → uI I c k v 97 j = I 97 j := fun j hj => by
    by_cases q : c = 97
    · subst q; exact rd_k (by omega)
    · exact rd_ne (fun z => q z.symm)
  unfold FtM at h ⊢
  rw [e1 12 (by omega), e1 13 (by omega)]
  exact h
theorem px_mrO (h : Mr T e a I J) (hB : BkM B I J) (hE : ∀ p I2 J2, qrO T e B a = .error p → FrN I J I2 J2 → FtM p I2 → Q 0 0 I2 J2 R) (hK : ∀ B2 b I2 J2, qrO T e B a = .ok (B2, b) → FrN I J I2 J2 → Mr T e b I2 J2 → BkM B2 I2 J2 → Q 0 0 I2 J2 R) : AM (d + 6) 228 112 [.ref 97] I J R Q := by
  refine am_X12_readOdds (fun P hc => sg_X12_readOdds_0 hc _ _ _ ?_)
  rw [hB.2.2.1]
  refine ⟨fun c => ?_, fun c => px_fail (k := 5) h (by decide) h.s (fun I2 hF hf => ?_)⟩
  · have hv : qrO T e B a = rb (tkN T e 0 16 (tB (tok T e a))) fun v b => .ok ((upd B.1 1 v, B.2.1, 1, B.2.2.2.1, B.2.2.2.2), b) := by
      unfold qrO; rw [if_pos c]
    refine sg_X12_readOdds_16 hc _ _ _ ⟨Or.inr rfl, ?_⟩
    have hFw : FrN I J (uI I 97 24 1) J := FrW.rf.u (Or.inl ⟨rfl, by decide⟩)
    have hBw : BkM (B.1, B.2.1, 1, B.2.2.2.1, B.2.2.2.2) (uI I 97 24 1) J := ⟨fun k hk => by rw [rd_ne (by decide)]; exact hB.1 k hk, hB.2.1, rd_eq, by rw [rd_k (by decide)]; exact hB.2.2.2.1, by rw [rd_k (by decide)]; exact hB.2.2.2.2⟩
    refine px_mustY (h.w_ (Or.inr (Or.inl rfl)) (by decide)) (fun I2 J2 hF2 h2 => px_count h2 (fun p I3 hp hF3 hf => ⟨fun _ => hE p I3 J2 (by rw [hv, rb_e hp]) ((hFw.tr hF2.nb).tr hF3.nb) hf, fun q => absurd q hf.ne.1⟩) (fun v b I3 J3 hp l1 l2 hF3 h3 => ⟨fun q => absurd h3.f q, fun _ => ⟨vp_of (show (1297 : Int32).toInt = 1297 from rfl) (by omega) (by omega), ?_⟩⟩))
    exact hK _ b _ J3 (by rw [hv, rb_k hp]) (((hFw.tr hF2.nb).tr hF3.nb).u (Or.inr ⟨rfl, by decide⟩)) (h3.w_ (Or.inl (by decide)) (by decide)) (((hBw.m hF2).m hF3).u (j := 1) (by decide) (by decide))
  · refine sg_X12_readOdds_16 hc _ _ _ ⟨Or.inr rfl, ?_⟩
    have hf2 : FtM (5, tS (tok T e a)) (uI I2 97 24 1) := hf.w_ (Or.inr (Or.inl rfl))
    refine px_mustB hf2 (px_countB hf2 ⟨fun _ => hE _ _ J (by unfold qrO; rw [if_neg c]) (hF.nb.u (Or.inl ⟨rfl, by decide⟩)) hf2, fun q => absurd q hf2.ne.1⟩)
theorem px_mrK (h : Mr T e a I J) (hB : BkM B I J) (hE : ∀ p I2 J2, qrK T e B a = .error p → FrN I J I2 J2 → FtM p I2 → Q 0 0 I2 J2 R) (hK : ∀ B2 b I2 J2, qrK T e B a = .ok (B2, b) → FrN I J I2 J2 → Mr T e b I2 J2 → BkM B2 I2 J2 → Q 0 0 I2 J2 R) : AM (d + 6) 229 112 [.ref 97] I J R Q := by
  refine am_X12_readKnown (fun P hc => sg_X12_readKnown_0 hc _ _ _ ?_)
  rw [hB.2.2.2.1]
  refine ⟨fun c => ?_, fun c => px_fail (k := 5) h (by decide) h.s (fun I2 hF hf => ?_)⟩
  · have hv : qrK T e B a = rb (tkL T e 31 0 (tB (tok T e a))) fun s b => .ok ((upd B.1 3 s, B.2.1, B.2.2.1, 1, B.2.2.2.2), b) := by
      unfold qrK; rw [if_pos c]
    refine sg_X12_readKnown_16 hc _ _ _ ⟨Or.inr rfl, ?_⟩
    have hFw : FrN I J (uI I 97 25 1) J := FrW.rf.u (Or.inl ⟨rfl, by decide⟩)
    have hBw : BkM (B.1, B.2.1, B.2.2.1, 1, B.2.2.2.2) (uI I 97 25 1) J := ⟨fun k hk => by rw [rd_ne (by decide)]; exact hB.1 k hk, hB.2.1, by rw [rd_k (by decide)]; exact hB.2.2.1, rd_eq, by rw [rd_k (by decide)]; exact hB.2.2.2.2⟩
    refine px_mustY (h.w_ (Or.inr (Or.inr (Or.inl rfl))) (by decide)) (fun I2 J2 hF2 h2 => px_msl h2 (fun p x I3 J3 hp hF3 hf => ⟨fun _ => hE p I3 J3 (by rw [hv, rb_e hp]) ((hFw.tr hF2.nb).tr hF3.nb) hf, fun q => absurd q hf.ne.1⟩) (fun v b I3 J3 hp hF3 h3 => ⟨fun q => absurd h3.f q, fun _ => ⟨vp_of (show (1299 : Int32).toInt = 1299 from rfl) (by omega) (by omega), ?_⟩⟩))
    exact hK _ b _ J3 (by rw [hv, rb_k hp]) (((hFw.tr hF2.nb).tr hF3.nb).u (Or.inr ⟨rfl, by decide⟩)) (h3.w_ (Or.inl (by decide)) (by decide)) (((hBw.m hF2).m hF3).u (j := 3) (by decide) (by decide))
  · refine sg_X12_readKnown_16 hc _ _ _ ⟨Or.inr rfl, ?_⟩
    have hf2 : FtM (5, tS (tok T e a)) (uI I2 97 25 1) := hf.w_ (Or.inr (Or.inr (Or.inl rfl)))
    refine px_mustB hf2 (px_mslB hf2 ⟨fun _ => hE _ _ J (by unfold qrK; rw [if_neg c]) (hF.nb.u (Or.inl ⟨rfl, by decide⟩)) hf2, fun q => absurd q hf2.ne.1⟩)
/-- words in a faulty state: whatever they say -/
theorem px_wAny {w : Int64} (hQ : ∀ x : Int32, x = 0 ∨ x = 1 → Q x 0 I J R) : AM (d + 1) 198 112 [.ref 97, .long w] I J R Q :=
  w_X12_isWord ⟨fun _ => ⟨Or.inl rfl, hQ 0 (Or.inl rfl)⟩, fun _ => ⟨fun _ => ⟨Or.inl rfl, hQ 0 (Or.inl rfl)⟩, fun _ => ⟨Or.inr rfl, hQ 1 (Or.inr rfl)⟩⟩⟩
theorem px_tiAny (hQ : ∀ x : Int32, x = 0 ∨ x = 1 → Q x 0 I J R) : AM (d + 2) 201 112 [.ref 97] I J R Q := w_X12_isTimes (px_spell (px_wAny (fun x hx _ => ⟨hx, hQ x hx⟩)))
theorem px_duAny (hQ : ∀ x : Int32, x = 0 ∨ x = 1 → Q x 0 I J R) : AM (d + 2) 203 112 [.ref 97] I J R Q := w_X12_isDue (px_spell (px_wAny (fun x hx _ => ⟨hx, hQ x hx⟩)))
theorem px_byAny (hQ : ∀ x : Int32, x = 0 ∨ x = 1 → Q x 0 I J R) : AM (d + 2) 204 112 [.ref 97] I J R Q := w_X12_isBy (px_spell (px_wAny (fun x hx _ => ⟨hx, hQ x hx⟩)))
theorem px_haAny (hQ : ∀ x : Int32, x = 0 ∨ x = 1 → Q x 0 I J R) : AM (d + 2) 205 112 [.ref 97] I J R Q := w_X12_isHas (px_spell (px_wAny (fun x hx _ => ⟨hx, hQ x hx⟩)))
theorem px_mrS (hBO : BOk B) (h : Mr T e a I J) (hB : BkM B I J) (hE : ∀ p I2 J2, qrS T e B a = .error p → FrN I J I2 J2 → FtM p I2 → Q 0 0 I2 J2 R) (hK : ∀ B2 b I2 J2, qrS T e B a = .ok (B2, b) → FrN I J I2 J2 → Mr T e b I2 J2 → BkM B2 I2 J2 → Q 0 0 I2 J2 R) : AM (d + 6) 230 112 [.ref 97] I J R Q := by
  refine am_X12_readStore (fun P hc => ?_)
  have bad : ∀ p I2 J2, qrS T e B a = .error p → FrN I J I2 J2 → FtM p I2 → P 44 112 [(0, .ref 97)] [] I2 J2 R := fun p I2 J2 he hF hf =>
    sg_X12_readStore_44 hc _ _ _ (px_countB hf (px_tiAny (fun x hx _ => px_perB hf (fun _ => ⟨fun _ => ⟨fun q => absurd q hf.ne.2.1, fun _ => hE p I2 J2 he hF hf⟩, fun q => absurd rfl q⟩))))
  refine sg_X12_readStore_0 hc _ _ _ (px_mustY h (fun I2 J2 hF2 h2 => px_mayBe h2 (fun p I3 hp hF3 hf => ⟨fun _ => bad p I3 J2 (by unfold qrS; rw [rb_e hp]) (hF2.nb.tr hF3.nb) hf, fun q => absurd q hf.ne.1⟩) (fun v b hp e17 l1 l2 hb => ⟨fun q => absurd h2.f q, fun _ => ?_⟩)))
  have hv : qrS T e B a = if inS B.2.2.2.2 v = true then .error (5, tS (tok T e (tB (tok T e a)))) else rb (if tI (tok T e b) = 3 then tkN T e 0 99 (tB (tok T e b)) else .ok (1, b)) fun n b => .ok ((upd B.1 (3 + v.toNatClampNeg) n, B.2.1, B.2.2.1, B.2.2.2.1, B.2.2.2.2 ||| biS v), b) := by
    unfold qrS; rw [rb_k hp]
  have hB2 := hB.m hF2
  obtain ⟨t1, t2, t3, t4⟩ := tn_sl l1 l2
  rw [hB2.2.2.2.2, e17]
  refine px_isOf hBO.2.1 l1 l2 (fun hi _ => ⟨fun q => absurd q (by decide), fun _ => px_fail (k := 5) h2 (by decide) h2.s (fun I3 hF3 hf => bad _ I3 J2 (by rw [hv, if_pos hi]) (hF2.nb.tr hF3.nb) hf)⟩) (fun hi _ => ⟨fun _ => ?_, fun q => absurd rfl q⟩)
  rw [if_neg (by rw [hi]; decide)] at hv
  refine sg_X12_readStore_44 hc _ _ _ (px_count h2 (fun p I3 hp3 _ _ => by rw [hp] at hp3; cases hp3) (fun v3 b3 I3 J3 hp3 _ _ hF3 h3 => ?_))
  rw [hp] at hp3
  cases hp3
  have hB3 := hB2.m hF3
  have hFa := hF2.nb.tr hF3.nb
  -- the writes
  have fin : ∀ (n : Int32) (b4 : Nat) (I4 : Im) (J4 : Jm), qrS T e B a = .ok ((upd B.1 (3 + v.toNatClampNeg) n, B.2.1, B.2.2.1, B.2.2.2.1, B.2.2.2.2 ||| biS v), b4) → FrN I J I4 J4 → Mr T e b4 I4 J4 → BkM B I4 J4 → (((I4 97 12) ≤ (0 : Int32) → (vp_in ((1300 + v) - 1) 1620 ∧ Q 0 0 (uI (uI I4 97 26 ((I4 97 26) ||| (1 <<< ((v - 1) &&& 31)))) 102 (Int32.toNatClampNeg ((1300 + v) - 1)) n) J4 R)) ∧ (¬ (I4 97 12) ≤ (0 : Int32) → Q 0 0 I4 J4 R)) := fun n b4 I4 J4 hv4 hF4 h4 hB4 => by
    have e9 : ((1300 + v) - 1 : Int32) = nI (1296 + (3 + v.toNatClampNeg)) := Int32.toInt_inj.mp (by
      have a1 := ti_add (x := 1300) (y := v) (show (1300 : Int32).toInt = 1300 from rfl) t4 (by omega)
      rw [ti_sub a1 (show (1 : Int32).toInt = 1 from rfl) (by omega), nI_toInt (by omega)]; omega)
    rw [e9, tn_nI (by omega), hB4.2.2.2.2]
    refine ⟨fun _ => ⟨vp_of (nI_toInt (by omega)) (by omega) (by omega), ?_⟩, fun q => absurd h4.le.1 q⟩
    have hB5 : BkM (B.1, B.2.1, B.2.2.1, B.2.2.2.1, B.2.2.2.2 ||| biS v) (uI I4 97 26 (B.2.2.2.2 ||| biS v)) J4 := ⟨fun k hk => by rw [rd_ne (by decide)]; exact hB4.1 k hk, hB4.2.1, by rw [rd_k (by decide)]; exact hB4.2.2.1, by rw [rd_k (by decide)]; exact hB4.2.2.2.1, rd_eq⟩
    exact hK _ b4 _ J4 hv4 ((hF4.u (Or.inl ⟨rfl, by decide⟩)).u (Or.inr ⟨rfl, by omega⟩)) ((h4.w_ (Or.inr (Or.inr (Or.inr rfl))) (by decide)).w_ (Or.inl (by decide)) (by decide)) (hB5.u (by omega) (by omega))
  refine px_isTimes h3 (fun ht _ => ?_) (fun ht _ => ?_)
  · rw [if_pos ht] at hv
    refine px_perY h3 (fun I4 J4 hF4 h4 _ => ⟨fun q => absurd q (by decide), fun _ => px_count h4 (fun p I5 hp5 hF5 hf => ⟨fun q => absurd q hf.ne.2.1, fun _ => hE p I5 J4 (by rw [hv, rb_e hp5]) ((hFa.tr hF4.nb).tr hF5.nb) hf⟩) (fun n b5 I5 J5 hp5 _ _ hF5 h5 => fin n b5 I5 J5 (by rw [hv, rb_k hp5]) ((hFa.tr hF4.nb).tr hF5.nb) h5 ((hB3.m hF4).m hF5))⟩)
  · rw [if_neg ht] at hv
    exact px_perN h3 (fun _ => ⟨fun _ => fin 1 b I3 J3 hv hFa h3 hB3, fun q => absurd rfl q⟩)
end MB
