section PT7x6
theorem px_mSlice {d : Nat} {Q : Qt} {v : Int32} {I : Im} {J : Jm} {R : Rm} (hY : (1 : Int32) ≤ v → v ≤ 30 → Q 1 0 I J R) (hN : ¬ ((1 : Int32) ≤ v ∧ v ≤ 30) → Q 0 0 I J R) : AM (d + 2) 238 112 [.int v] I J R Q :=
  w_X12_isSlice (px_isInI (lo := 1) (hi := 30) (fun l1 l2 _ => ⟨Or.inr rfl, hY l1 l2⟩) (fun z _ => ⟨Or.inl rfl, hN (fun y => z.elim (fun x => ile.mpr y.1 x) (fun x => x y.2))⟩))
noncomputable def slc (v : Int32) : Prop := (1 : Int32) ≤ v ∧ v ≤ 30
theorem slc_n {v : Int32} (h : v < 1 ∨ 30 < v) : ¬ slc v := fun y => h.elim (fun x => ile.mpr y.1 x) (fun x => ile.mpr y.2 x)
/-! a man more -/
noncomputable def HCm (o : Nat) (p q : Int32) (I : Im) (J : Jm) (x : Int32) (I1 : Im) (J1 : Jm) : Prop := (¬ (sh p q ∧ I o 4 < 6) ∧ x = -1 ∧ HN o 0 (I o 4) (I o 2) (J (o + 2)) I J I1 J1) ∨ (sh p q ∧ I o 4 < 6 ∧ x = I o 4 ∧ HN o 0 (I o 4 + 1) (I o 2) (vp_updL (J (o + 2)) (Int32.toNatClampNeg (I o 4)) 0) I J I1 J1)
noncomputable def MCm (p q : Int32) (I : Im) (J : Jm) (x : Int32) (I2 : Im) (J2 : Jm) : Prop := (¬ (sh p q ∧ ¬ I 102 0 = 6) ∧ x = -1 ∧ MN (I 102 0) (I 102 3) (J 104) I J I2 J2) ∨ (sh p q ∧ ¬ I 102 0 = 6 ∧ x = I 102 0 ∧ MN (I 102 0 + 1) (I 102 3) (vp_updL (J 104) (Int32.toNatClampNeg (I 102 0)) 0) I J I2 J2)
theorem HN.same {o e : Nat} {I I1 : Im} {J : Jm} (h : ∀ c, ¬ c = 1 → I1 c = I c) (h9 : 9 ≤ o) : HN o e (I o 4) (I o 2) (J (o + 2)) I J I1 J :=
  ⟨by rw [h o (by omega)], by rw [h o (by omega)], rfl, fun c hc _ _ => by rw [h c (fun q => by subst q; exact absurd hc (by decide))]; exact ⟨rfl, rfl⟩, fun _ _ _ _ => rfl, rfl, h 102 (by decide), by rw [h 97 (by decide)]⟩
theorem uJ_at {J : Jm} {o m : Nat} {w : Int64} : uJ J o m w o = vp_updL (J o) m w := if_pos rfl
theorem px_addM2 {d : Nat} {Q : Qt} {o m : Nat} {w : Int64} {p q : Int32} {I : Im} {J : Jm} {R : Rm} (hO : isO 112 o 0 = true) (hm : m ≤ 5) (e0 : I o 4 = nI m) (hQ : Q (nI m) 0 (uI (uI (uI (uI I (o + 3) m p) (o + 4) m q) (o + 5) m 0) o 4 (nI m + 1)) (uJ J (o + 2) m w) R) : AM (d + 1) 4 112 [.ref o, .long w, .int p, .int q] I J R Q := by
  refine w_X0_addMan (bif_t hO ?_)
  obtain ⟨hA2, hL2, -⟩ := fa_0_5 hO
  obtain ⟨hA3, hL3, -⟩ := fa_0_6 hO
  obtain ⟨hA4, hL4, -⟩ := fa_0_7 hO
  obtain ⟨hA5, hL5, -⟩ := fa_0_8 hO
  have e1 : uI I (o + 3) m p o 4 = nI m := (rd_ne (by first | decide | omega)).trans e0
  have e2 : uI (uI I (o + 3) m p) (o + 4) m q o 4 = nI m := (rd_ne (by first | decide | omega)).trans e1
  have e3 : uI (uI (uI I (o + 3) m p) (o + 4) m q) (o + 5) m 0 o 4 = nI m := (rd_ne (by first | decide | omega)).trans e2
  have tn : Int32.toNatClampNeg (nI m) = m := tn_nI (by omega)
  rw [e0, tn, e1, tn, e2, tn, e3, rd_eq]
  refine ⟨fun _ => bif_t hO (bif_t hO (bif_t hA2 ⟨vp_nI (by omega) (by omega), bif_t hO (bif_t hO (bif_t hA3 ⟨vp_nI (by omega) (by omega), bif_t hO (bif_t hO (bif_t hA4 ⟨vp_nI (by omega) (by omega), bif_t hO (bif_t hO (bif_t hA5 ⟨vp_nI (by omega) (by omega), bif_t hO (bif_t hO (bif_t hO ?_))⟩))⟩))⟩))⟩)), fun c => absurd ((nlt_nI (b := 6) (by omega) (by omega)).mpr (by omega)) c⟩
  have e5 : nI m + 1 - 1 = nI m := by rw [nI_k1, nI_pred]
  rw [e5]
  exact hQ
theorem cx_come {d : Nat} {p q : Int32} {I : Im} {J : Jm} {R : Rm} (hB : Bd I) (hR : RI R) : AM (d + 3) 124 112 [.ref 1, .int p, .int q] I J R (fun x _ I2 J2 _ => HCm (R 1 7) p q I J x I2 J2) := by
  have hO := hR.now.1
  have h9 := o_ge hO
  have h7 := o_lt hO
  have b4 := Bd.o hB hO bd9_0_4
  refine w_X11_come (px_isShare (fun hs _ => ⟨fun _ => ⟨hR.now.2, bif_t hO ⟨fun c6 => ⟨hR.now.2, bif_t hO ?_⟩, fun c6 => w_X11_refuse (Or.inl ⟨fun z => c6 z.2, rfl, HN.same (fun c hc => uI_ne hc) h9⟩)⟩⟩, fun c => absurd c (by decide)⟩) (fun hs _ => ⟨fun c => absurd rfl c, fun _ => w_X11_refuse (Or.inl ⟨fun z => hs z.1, rfl, HN.same (fun c hc => uI_ne hc) h9⟩)⟩))
  have c6' := c6
  rw [Int32.lt_iff_toInt_lt] at c6'
  have e6 : (6 : Int32).toInt = 6 := rfl
  have tm : ((Int32.toNatClampNeg (I (R 1 7) 4) : Nat) : Int) = (I (R 1 7) 4).toInt := by
    have := tn_of (x := I (R 1 7) 4) rfl b4.1; omega
  have em : I (R 1 7) 4 = nI (Int32.toNatClampNeg (I (R 1 7) 4)) := Int32.toInt_inj.mp (by rw [nI_toInt (by omega)]; omega)
  generalize hm : Int32.toNatClampNeg (I (R 1 7) 4) = m at em tm
  refine px_addM2 hO (m := m) (by omega) em (w_X11_answer (Or.inr ⟨hs, c6, em.symm, ?_⟩))
  have e9 : ∀ c, ¬ c = 1 → ¬ (R 1 7 ≤ c ∧ c ≤ R 1 7 + 5) → uI (uI (uI (uI (uI I (R 1 7 + 3) m p) (R 1 7 + 4) m q) (R 1 7 + 5) m 0) (R 1 7) 4 (nI m + 1)) 1 0 0 c = I c := fun c h1 h2 => (uI_ne h1).trans ((uI_ne (by first | decide | omega)).trans ((uI_ne (by first | decide | omega)).trans ((uI_ne (by first | decide | omega)).trans (uI_ne (by first | decide | omega)))))
  have hb : ∀ c, c ∈ BKL → ¬ c = R 1 7 → ¬ c = 1 ∧ ¬ (R 1 7 ≤ c ∧ c ≤ R 1 7 + 5) := fun c hc hne => by
    have h1 := bk_six hc
    have h2 := bk_six (now_bk hR)
    omega
  have n97 : R 1 7 + 5 < 97 := by
    have := bk_six (now_bk hR); omega
  refine ⟨?_, ?_, ?_, fun c hc hne _ => ?_, fun c hc hne _ => ?_, ?_, ?_, ?_⟩
  · rw [rd_ne (by first | decide | omega), rd_eq, ← em]
  · rw [rd_ne (by first | decide | omega), rd_k (by decide), rd_ne (by first | decide | omega), rd_ne (by first | decide | omega), rd_ne (by first | decide | omega)]
  · rw [uJ_at, hm]
  · rw [e9 c (hb c hc hne).1 (hb c hc hne).2]; exact ⟨rfl, rfl⟩
  · exact uJ_ne (by omega)
  · exact uJ_ne (by omega)
  · exact e9 102 (by decide) (by omega)
  · rw [e9 97 (by decide) (by omega)]
theorem MN.same {I I2 : Im} {J : Jm} (h : ∀ c, ¬ c = 97 → I2 c = I c) (h23 : I2 97 23 = I 97 23) : MN (I 102 0) (I 102 3) (J 104) I J I2 J :=
  ⟨by rw [h 102 (by decide)], by rw [h 102 (by decide)], fun _ _ => rfl, fun _ _ _ => by rw [h 102 (by decide)], fun _ _ _ => rfl, fun c hc => by rw [h c (fun q => by subst q; exact absurd hc (by decide))]; exact ⟨rfl, rfl⟩, fun _ _ => rfl, Int.le_of_eq (congrArg Int32.toInt h23)⟩
/-- a write into the first block beside the men and what is known; the same with a name -/
theorem nI_o8 {v : Int32} {a : Int} (h0 : 0 ≤ v.toInt) : ∃ m : Nat, v = nI m ∧ (m : Int) = v.toInt ∧ Int32.toNatClampNeg v = m := by
  have t := tn_of (x := v) rfl h0
  have hb := i32 v
  refine ⟨Int32.toNatClampNeg v, Int32.toInt_inj.mp ?_, t, rfl⟩
  rw [nI_toInt (by omega)]
  omega
theorem mx_come {d : Nat} {p q : Int32} {I : Im} {J : Jm} {R : Rm} (hB : Bd I) : AM (d + 3) 268 112 [.ref 97, .int p, .int q] I J R (fun x _ I2 J2 _ => MCm p q I J x I2 J2) := by
  obtain ⟨b0, b6⟩ := Bd.men hB
  obtain ⟨m, em, tm, tn⟩ := nI_o8 (a := 0) b0
  have e1 : uI (uI I 97 1 0) 97 0 0 102 = I 102 := (uI_ne (by decide)).trans (uI_ne (by decide))
  have t0 : Int32.toNatClampNeg 0 = 0 := rfl
  have f1 : ∀ c, ¬ c = 97 → uI (uI I 97 1 0) 97 0 0 c = I c := fun c h => (uI_ne h).trans (uI_ne h)
  have g1 : uI (uI I 97 1 0) 97 0 0 97 23 = I 97 23 := (rd_k (by decide)).trans (rd_k (by decide))
  refine w_X12_come (px_mShare (fun hs _ => ⟨fun _ => ⟨vp_of (a := 0) rfl (by decide) (by decide), ?_⟩, fun c => absurd c (by decide)⟩) (fun hs _ => ⟨fun c => absurd rfl c, fun _ => w_X12_refuse (Or.inl ⟨fun z => hs z.1, rfl, MN.same (fun c hc => (uI_ne hc).trans (f1 c hc)) ((rd_k (by decide)).trans g1)⟩)⟩))
  rw [t0, e1]
  refine ⟨fun c6 => ?_, fun c6 => w_X12_refuse (Or.inl ⟨fun z => z.2 c6, rfl, MN.same (fun c hc => (uI_ne hc).trans (f1 c hc)) ((rd_k (by decide)).trans g1)⟩)⟩
  have m5 : m ≤ 5 := by
    rcases Nat.lt_or_ge m 6 with h | h
    · omega
    · exact absurd (em.trans (by rw [show m = 6 by omega]; rfl)) c6
  have k34 : (34 : Int32) + nI m = nI (34 + m) := by rw [show (34 : Int32) = nI 34 from rfl]; exact nI_add 34 m
  have k40 : (40 : Int32) + nI m = nI (40 + m) := by rw [show (40 : Int32) = nI 40 from rfl]; exact nI_add 40 m
  have k46 : (46 : Int32) + nI m = nI (46 + m) := by rw [show (46 : Int32) = nI 46 from rfl]; exact nI_add 46 m
  rw [em, k34, k40, k46, tn_nI (by omega), tn_nI (by omega), tn_nI (by omega), tn_nI (by omega)]
  have hv : uI (uI (uI (uI (uI I 97 1 0) 97 0 0) 102 (34 + m) p) 102 (40 + m) q) 102 (46 + m) 0 102 0 = nI m := (rd_k (by omega)).trans ((rd_k (by omega)).trans ((rd_k (by omega)).trans ((congrFun e1 0).trans em)))
  rw [hv]
  refine ⟨vp_nI (by omega) (by omega), vp_nI (by omega) (by omega), vp_nI (by omega) (by omega), vp_nI (by omega) (by omega), vp_of (a := 0) rfl (by decide) (by decide), vp_of (a := 0) rfl (by decide) (by decide), Or.inr ⟨hs, c6, em.symm, ?_⟩⟩
  have fr : ∀ c, ¬ c = 97 → ¬ c = 102 → uI (uI (uI (uI (uI (uI I 97 1 0) 97 0 0) 102 (34 + m) p) 102 (40 + m) q) 102 (46 + m) 0) 102 0 (nI m + 1) c = I c := fun c h1 h2 => (uI_ne h2).trans ((uI_ne h2).trans ((uI_ne h2).trans ((uI_ne h2).trans (f1 c h1))))
  have fk : ∀ k, ¬ k = 0 → ¬ k = 34 + m → ¬ k = 40 + m → ¬ k = 46 + m → uI (uI (uI (uI (uI (uI I 97 1 0) 97 0 0) 102 (34 + m) p) 102 (40 + m) q) 102 (46 + m) 0) 102 0 (nI m + 1) 102 k = I 102 k := fun k h1 h2 h3 h4 => (rd_k h1).trans ((rd_k h4).trans ((rd_k h3).trans ((rd_k h2).trans (congrFun e1 k))))
  refine ⟨?_, ?_, fun i hi => ?_, fun j hj h6 => ?_, fun i hi _ => ?_, fun c hc => ?_, fun c hc => ?_, ?_⟩
  · rw [rd_eq, em]
  · exact fk 3 (by decide) (by omega) (by omega) (by omega)
  · rw [uJ_at, em, tn_nI (by omega)]
  · unfold pK at hj
    exact fk j (by omega) (by omega) (by omega) (by omega)
  · exact rj_k (by omega)
  · have h6 := bk_six hc
    rw [fr c (by omega) (by omega)]; exact ⟨rfl, rfl⟩
  · have h6 := bk_six hc
    exact uJ_ne (by omega)
  · rw [rd_ne (by decide), rd_ne (by decide), rd_ne (by decide), rd_ne (by decide), g1]; exact Int.le_refl _
end PT7x6
