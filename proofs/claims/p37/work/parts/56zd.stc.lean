section PT15x3
section LIV
variable {I I1 I2 : Im} {J J1 J2 : Jm} {R : Rm} {Q : Qt} {v x : Int32} {s : DS}
/-- the days' run of what is now -/
noncomputable abbrev RN9 (s : DS) (I : Im) (v : Int32) : Int32 × Nat × Rn9 := rn9 s (I 102 0) (I 102 1) (du9 I) 1000000 0 (I 50) 0 (s9 I, v, 0, 0, 0)
noncomputable def okV9 (v : Int32) (I : Im) : Prop := ((0 : Int32) ≤ v ∧ v ≤ 9999) ∧ ¬ I 102 52 = 0
noncomputable abbrev WLi9 (o : Nat) : Nat → Nat → Prop := fun c k => WLf 49 o c k ∨ (c = 1 ∧ k = 0)
/-- the class's live() -/
noncomputable def HLi9 (R : Rm) (v : Int32) (I : Im) (J : Jm) (x : Int32) (I1 : Im) (J1 : Jm) : Prop :=
  (¬ okV9 v I ∧ x = -1 ∧ I1 = uI I 1 0 (I1 1 0) ∧ J1 = J) ∨ (okV9 v I ∧ ∃ s, DG9 (R 1 9) (I 102) I s ∧ x = nI (RN9 s I v).2.1 ∧ LfA 49 (R 1 7) (mnN (I 102)) (I 102 2) (RN9 s I v).2.2 I1 ∧ I1 49 0 = 1 ∧ I1 49 6 = (RN9 s I v).1 ∧ FrW (WLi9 (R 1 7)) nV I J I1 J1)
theorem uI_self {k : Nat} {z : Int32} : uI I 1 0 z = uI I 1 0 (uI I 1 0 z 1 0) := by rw [rd_eq]
theorem cx_live9 {e : Nat} (hB : Bd I) (hR : RI R) (em : I (R 1 7) 4 = I 102 0) (h : W9 I R) : AM (e + 7) 144 112 [.ref 1, .int v] I J R (fun x _ I1 J1 _ => HLi9 R v I J x I1 J1) := by
  have hO := hR.now.1
  have hP := hR.plan.1
  have n7 := now_9 hR
  have n9 : R 1 9 = 21 ∨ R 1 9 = 27 := hR.rp.2.1.elim (fun q => Or.inl q.1) (fun q => Or.inr q.1)
  obtain ⟨c0, b0, d0⟩ := h.1
  have no : ∀ z : Int32, ¬ okV9 v I → HLi9 R v I J (-1) (uI I 1 0 z) J := fun z hz => Or.inl ⟨hz, rfl, uI_self (k := 0), rfl⟩
  refine w_X11_live ⟨fun c => w_X11_refuse (no _ (fun z => ile.mpr z.1.1 c)), fun c1 => ⟨fun c2 => ⟨hR.plan.2, bif_t hP ⟨fun c3 => ?_, fun c3 => w_X11_refuse (no _ (fun z => z.2 (by rw [← d0.1]; exact c3)))⟩⟩, fun c2 => w_X11_refuse (no _ (fun z => c2 z.1.2))⟩⟩
  have h52 : ¬ I 102 52 = 0 := fun z => c3 (d0.1.trans z)
  obtain ⟨s, hg⟩ := d0.2 h52
  have hE := h.ev hB h52 hg
  have hs := h.hs
  obtain ⟨g1, g2, g3, g4, g5, g6, g7⟩ := id hg
  have hV : ∀ a, a < dL s → VC9 (I 102 0) (dC s a) := fun a ha => by
    rcases (g2.2.2.2 a ha).2.2 with q | ⟨t, ht, q⟩
    · exact ⟨fun z => by rw [q] at z; exact absurd z (by decide), fun z => by rw [q] at z; exact absurd z (by decide)⟩
    · have := (hE.2.2.2.2 t ht).2.2
      rw [q] at this; exact this
  refine ⟨hR.now.2, hR.plan.2, px_run4 (du := du9 I) (od := I 102 1) (st := s9 I) rfl hO hP (by omega) (by omega) g1 g2 g5 hV em hE.2.1 b0.1 hs.2.2.2.2.1 hE.2.2.1 hs.1 (fun I2 hA e0 e1 e6 hF => w_X11_answer ?_)⟩
  refine Or.inr ⟨⟨⟨ile.mp c1, c2⟩, h52⟩, s, hg, e1, ?_, ?_, ?_, ?_⟩
  · obtain ⟨a1, a2, a3, a4, a5, a6⟩ := hA
    exact ⟨a1.one n7, (rd_ne (by decide)).trans a2, (rd_ne (by decide)).trans a3, (rd_ne (by decide)).trans a4, (rd_ne (by decide)).trans a5, (rd_ne (by decide)).trans a6⟩
  · exact (rd_ne (by decide)).trans e0
  · exact (rd_ne (by decide)).trans e6
  · exact (FrW.up hF (fun _ _ q => Or.inl q) (fun _ _ q => q)).u (Or.inr ⟨rfl, rfl⟩)
theorem Sq9.ct {s : DS} : ∀ {f t u a b : Nat}, Sq9 s f t u a b → Sq9 s (u - t) t u a b := by
  intro f
  induction f with
  | zero =>
    intro t u a b h
    obtain ⟨h1, h2⟩ := h
    subst h1
    rw [Nat.sub_self]
    exact ⟨rfl, h2⟩
  | succ f ih =>
    intro t u a b h
    rcases h with ⟨h1, h2⟩ | ⟨h1, h3, h4, h5, h6⟩ | ⟨n, m, h1, h3, h4, h5, h6, h7, h8, h9, k0, k1, k2⟩
    · subst h1
      rw [Nat.sub_self]
      exact ⟨rfl, h2⟩
    · have e : u - t = (u - (t + 1)) + 1 := by omega
      rw [e]
      exact Or.inr (Or.inl ⟨h1, h3, h4, h5, ih h6⟩)
    · have l1 := k1.le
      have l2 := k2.le
      have e : u - t = (u - (t + 1)) + 1 := by omega
      have b1 := (ih k1).up (u - n)
      have b2 := (ih k2).up (n - (t + 1))
      rw [show n - (t + 1) + (u - n) = u - (t + 1) by omega] at b1
      rw [show u - n + (n - (t + 1)) = u - (t + 1) by omega] at b2
      rw [e]
      exact Or.inr (Or.inr ⟨n, m, h1, h3, h4, h5, h6, h7, h8, h9, k0, b1, b2⟩)
noncomputable abbrev WRy9 : Nat → Nat → Prop := fun c k => WRs c k ∨ (c = 97 ∧ 41 ≤ k ∧ k ≤ 48)
theorem Ev9.o {M : Nat} {m od : Int32} {du : Du9} (h : Ev9 s M m od du I) (e : I1 102 = I 102) : Ev9 s M m od du I1 := by
  unfold Ev9 DuR at h ⊢
  rw [e]
  exact h
/-- the reference's run, from its beginning -/
theorem px_runs9 {e : Nat} {M : Nat} {m od : Int32} {du : Du9} {q : Nat → Int32} {st : StS9} (hE : Ev9 s M m od du I) (hD : DOk s) (hW : Wf9 s) (hd0 : dD s = 0) (h53 : I 102 53 = nI (dN s)) (hv : 0 ≤ v.toInt ∧ v.toInt ≤ 65535) (hb : StB M st) (hr : BkR M st I) (hQ : ∀ I2, FrW WRy9 nV I J I2 J → RfM M (rn9 s m od du 1000000 0 q 0 (st, v, 0, 0, 0)).2.1 (rn9 s m od du 1000000 0 q 0 (st, v, 0, 0, 0)).2.2 I2 → RB9 M (rn9 s m od du 1000000 0 q 0 (st, v, 0, 0, 0)).2.2 → I2 97 45 = I 102 2 → I2 97 48 = (rn9 s m od du 1000000 0 q 0 (st, v, 0, 0, 0)).1 → Q 0 0 I2 J R) : AM (e + 80) 312 112 [.ref 97, .int v] I J R Q := by
  have h30 := hD.1
  have t2 : Int32.toNatClampNeg 2 = 2 := rfl
  have t53 : Int32.toNatClampNeg 53 = 53 := rfl
  have hS : Sq9 s (dN s) 0 (dN s) 0 (dL s) := by
    obtain ⟨f, hf⟩ := hW.2.2.1 0 (by omega)
    have u1 : tB9 s 0 = 0 := if_pos rfl
    have u2 : aB9 s 0 = 0 := if_pos rfl
    have u3 : tE9 s 0 = dN s := if_pos hd0.symm
    have u4 : aE9 s 0 = dL s := if_pos hd0.symm
    rw [u1, u2, u3, u4] at hf
    exact hf.ct
  refine w_X12_runsDays ⟨vp_of (a := 2) rfl (by decide) (by decide), Or.inl rfl, vp_of (a := 53) rfl (by decide) (by decide), ?_⟩
  rw [t2, t53]
  have e2 : uI (uI (uI I 97 42 v) 97 43 0) 97 44 0 102 2 = I 102 2 := by rw [rd_ne (by decide), rd_ne (by decide), rd_ne (by decide)]
  rw [e2]
  have hF : FrW WRy9 nV I J (uI (uI (uI (uI (uI (uI (uI (uI I 97 42 v) 97 43 0) 97 44 0) 97 45 (I 102 2)) 97 46 0) 97 47 0) 97 48 0) 97 41 0) J := (((((((FrW.rf.u (Or.inr ⟨rfl, by decide⟩)).u (Or.inr ⟨rfl, by decide⟩)).u (Or.inr ⟨rfl, by decide⟩)).u (Or.inr ⟨rfl, by decide⟩)).u (Or.inr ⟨rfl, by decide⟩)).u (Or.inr ⟨rfl, by decide⟩)).u (Or.inr ⟨rfl, by decide⟩)).u (Or.inr ⟨rfl, by decide⟩)
  have c102 : uI (uI (uI (uI (uI (uI (uI (uI I 97 42 v) 97 43 0) 97 44 0) 97 45 (I 102 2)) 97 46 0) 97 47 0) 97 48 0) 97 41 0 102 = I 102 := by rw [uI_ne (by decide), uI_ne (by decide), uI_ne (by decide), uI_ne (by decide), uI_ne (by decide), uI_ne (by decide), uI_ne (by decide), uI_ne (by decide)]
  have k41 : uI (uI (uI (uI (uI (uI (uI (uI I 97 42 v) 97 43 0) 97 44 0) 97 45 (I 102 2)) 97 46 0) 97 47 0) 97 48 0) 97 41 0 97 41 = 0 := rd_eq
  have k48 : uI (uI (uI (uI (uI (uI (uI (uI I 97 42 v) 97 43 0) 97 44 0) 97 45 (I 102 2)) 97 46 0) 97 47 0) 97 48 0) 97 41 0 97 48 = 0 := by rw [rd_k (by decide), rd_eq]
  have k47 : uI (uI (uI (uI (uI (uI (uI (uI I 97 42 v) 97 43 0) 97 44 0) 97 45 (I 102 2)) 97 46 0) 97 47 0) 97 48 0) 97 41 0 97 47 = 0 := by rw [rd_k (by decide), rd_k (by decide), rd_eq]
  have k46 : uI (uI (uI (uI (uI (uI (uI (uI I 97 42 v) 97 43 0) 97 44 0) 97 45 (I 102 2)) 97 46 0) 97 47 0) 97 48 0) 97 41 0 97 46 = 0 := by rw [rd_k (by decide), rd_k (by decide), rd_k (by decide), rd_eq]
  have k45 : uI (uI (uI (uI (uI (uI (uI (uI I 97 42 v) 97 43 0) 97 44 0) 97 45 (I 102 2)) 97 46 0) 97 47 0) 97 48 0) 97 41 0 97 45 = I 102 2 := by rw [rd_k (by decide), rd_k (by decide), rd_k (by decide), rd_k (by decide), rd_eq]
  have k44 : uI (uI (uI (uI (uI (uI (uI (uI I 97 42 v) 97 43 0) 97 44 0) 97 45 (I 102 2)) 97 46 0) 97 47 0) 97 48 0) 97 41 0 97 44 = 0 := by rw [rd_k (by decide), rd_k (by decide), rd_k (by decide), rd_k (by decide), rd_k (by decide), rd_eq]
  have k43 : uI (uI (uI (uI (uI (uI (uI (uI I 97 42 v) 97 43 0) 97 44 0) 97 45 (I 102 2)) 97 46 0) 97 47 0) 97 48 0) 97 41 0 97 43 = nI 0 := by
    show _ = (0 : Int32)
    rw [rd_k (by decide), rd_k (by decide), rd_k (by decide), rd_k (by decide), rd_k (by decide), rd_k (by decide), rd_eq]
  have k42 : uI (uI (uI (uI (uI (uI (uI (uI I 97 42 v) 97 43 0) 97 44 0) 97 45 (I 102 2)) 97 46 0) 97 47 0) 97 48 0) 97 41 0 97 42 = v := by rw [rd_k (by decide), rd_k (by decide), rd_k (by decide), rd_k (by decide), rd_k (by decide), rd_k (by decide), rd_k (by decide), rd_eq]
  generalize uI (uI (uI (uI (uI (uI (uI (uI I 97 42 v) 97 43 0) 97 44 0) 97 45 (I 102 2)) 97 46 0) 97 47 0) 97 48 0) 97 41 0 = A at hF c102 k41 k42 k43 k44 k45 k46 k47 k48
  rw [c102, h53]
  have hrA : BkR M st A := by
    unfold BkR
    rw [c102]
    exact hr
  have up : ∀ {n2 : Nat} {r2 : Rn9} {I2 : Im}, In9 M A J n2 r2 I2 → FrW WRy9 nV I J I2 J ∧ I2 97 45 = I 102 2 := fun h2 => ⟨hF.tr (h2.1.up (fun _ _ z => z.elim Or.inl (fun y => Or.inr ⟨y.1, by have := y.2; omega⟩)) (fun _ _ z => z)), (h2.1.i (fun z => by rcases z with z | z <;> omega)).trans k45⟩
  refine am_X12_doAll (fun P hc => sg_X12_doAll_0 hc _ _ _ _ _ (px_all9 (I0 := A) (M := M) (m := m) (od := od) (du := du) (hE.o c102) (dN s) (e + 78) _ 0 (dN s) 0 (dL s) 0 1000000 0 q (st, v, 0, 0, 0) A (by omega) hS (Nat.le_refl _) (Nat.le_refl _) ⟨FrW.rf, ⟨hrA, k42, k44, k46, k47, k43⟩, by omega, hb, hv⟩ k41 k48 (by omega) (fun I2 f2 q2 n2 r2 hI2 _ j41 j48 hf2 _ eX => ?_) (fun I2 l n2 r2 hI2 _ hl eX => ?_) P hc))
  · have eX2 := eX.trans (rn9_end (by have := hI2.2.2.1; omega))
    rw [eX2] at hQ
    exact hQ I2 (up hI2).1 hI2.2.1 hI2.2.2.2 (up hI2).2 j48
  · rw [eX] at hQ
    exact hQ I2 (up hI2).1 hI2.2.1 hI2.2.2.2 (up hI2).2 hl
/-- the latest live() -/
noncomputable def LV9 (I : Im) : Prop := I 97 40 = I 49 0 ∧ (¬ I 49 0 = 0 → I 112 0 = I 49 2 ∧ I 112 1 = I 49 3 ∧ I 112 2 = I 49 4 ∧ I 112 3 = I 49 5 ∧ I 112 4 = I 49 6)
noncomputable abbrev WRx9 : Nat → Nat → Prop := fun c k => WRs c k ∨ (c = 97 ∧ (k ≤ 1 ∨ (40 ≤ k ∧ k ≤ 48))) ∨ c = 112
theorem mx_live9 {e : Nat} (hR : RI R) (hB : Bd I) (h : W9 I R) (H1 : HLi9 R v I J x I1 J1) : AM (e + 82) 313 112 [.ref 97, .int v] I1 J1 R (fun x2 _ I2 J2 _ => x2 = x ∧ W9 I2 R ∧ (LV9 I → LV9 I2)) := by
  have n7 := now_9 hR
  have n9 : R 1 9 = 21 ∨ R 1 9 = 27 := hR.rp.2.1.elim (fun q => Or.inl q.1) (fun q => Or.inr q.1)
  have t0 : Int32.toNatClampNeg 0 = 0 := rfl
  have t1 : Int32.toNatClampNeg 1 = 1 := rfl
  have t2 : Int32.toNatClampNeg 2 = 2 := rfl
  have t3 : Int32.toNatClampNeg 3 = 3 := rfl
  have t4 : Int32.toNatClampNeg 4 = 4 := rfl
  have t52 : Int32.toNatClampNeg 52 = 52 := rfl
  have v52 : vp_in 52 1620 := vp_of (a := 52) rfl (by decide) (by decide)
  have v2 : vp_in 2 1620 := vp_of (a := 2) rfl (by decide) (by decide)
  have w0 : vp_in 0 5 := vp_of (a := 0) rfl (by decide) (by decide)
  have w1 : vp_in 1 5 := vp_of (a := 1) rfl (by decide) (by decide)
  have w2 : vp_in 2 5 := vp_of (a := 2) rfl (by decide) (by decide)
  have w3 : vp_in 3 5 := vp_of (a := 3) rfl (by decide) (by decide)
  have w4 : vp_in 4 5 := vp_of (a := 4) rfl (by decide) (by decide)
  rcases H1 with ⟨n1, x1, eI, eJ⟩ | ⟨⟨hv, h52⟩, s, hg, x1, hA, f0, f6, hF⟩
  · subst eJ
    have hF1 : FrU9 (R 1 7) I J1 I1 J1 := by
      rw [eI]
      exact FrW.rf.u (Or.inr (Or.inr (Or.inl rfl)))
    have e102 : I1 102 = I 102 := by rw [eI]; exact uI_ne (by decide)
    have fin : ∀ z : Int32, (-1 : Int32) = x ∧ W9 (uI (uI (uI I1 97 1 0) 97 0 0) 97 0 z) R ∧ (LV9 I → LV9 (uI (uI (uI I1 97 1 0) 97 0 0) 97 0 z)) := fun z => by
      have hF2 : FrU9 (R 1 7) I J1 (uI (uI (uI I1 97 1 0) 97 0 0) 97 0 z) J1 := ((hF1.u (Or.inr (Or.inr (Or.inr (Or.inr (Or.inr (Or.inl ⟨rfl, by decide⟩))))))).u (Or.inr (Or.inr (Or.inr (Or.inr (Or.inr (Or.inl ⟨rfl, by decide⟩))))))).u (Or.inr (Or.inr (Or.inr (Or.inr (Or.inr (Or.inl ⟨rfl, by decide⟩))))))
      have c : ∀ k, ¬ k = 1 → ¬ k = 97 → uI (uI (uI I1 97 1 0) 97 0 0) 97 0 z k = I k := fun k a b => by rw [uI_ne b, uI_ne b, uI_ne b, eI]; exact uI_ne a
      have c40 : uI (uI (uI I1 97 1 0) 97 0 0) 97 0 z 97 40 = I 97 40 := by rw [rd_k (by decide), rd_k (by decide), rd_k (by decide), eI]; exact rd_ne (by decide)
      refine ⟨x1.symm, h.kp (I2 := uI (uI (uI I1 97 1 0) 97 0 0) 97 0 z) hR ⟨fun a ha => ?_, fun a ha => ?_, fun a ha => ?_⟩ (c 102 (by decide) (by decide)) ?_, ?_⟩
      · have hm := arW9_sh a (badW9_mem ha)
        refine c a (fun q => ?_) (fun q => ?_)
        · subst q; exact absurd hm (by decide)
        · subst q; exact absurd hm (by decide)
      · have := bk_six ha
        rw [c a (by omega) (by omega)]; exact ⟨rfl, rfl⟩
      · have := bp_five ha
        exact c a (by omega) (by omega)
      · rw [rd_k (by decide), rd_k (by decide), rd_k (by decide), eI]; exact rd_ne (by decide)
      · intro hL
        unfold LV9 at hL ⊢
        rw [c40, c 49 (by decide) (by decide), c 112 (by decide) (by decide)]
        exact hL
    refine w_X12_live (px_isInI (lo := 0) (hi := 9999) (fun l1 l2 _ => ⟨fun _ => ⟨v52, ?_⟩, fun z => absurd z (by decide)⟩) (fun m1 _ => ⟨fun z => absurd rfl z, fun _ => w_X12_refuse (fin 5)⟩))
    rw [t52, rd_ne (by decide), rd_ne (by decide), e102]
    exact ⟨fun z => absurd ⟨⟨l1, l2⟩, z⟩ n1, fun _ => w_X12_refuse (fin 8)⟩
  · have hJ : J1 = J := funext fun o => hF.cj (fun _ q => q)
    subst hJ
    have e102 : I1 102 = I 102 := hF.c (fun k q => by rcases q with ((q | q | q) | q | q) | q <;> omega)
    have hE := h.ev hB h52 hg
    have hs := h.hs
    obtain ⟨g1, g2, g3, g4, g5, g6, g7⟩ := hg
    have b1 : uI (uI I1 97 1 0) 97 0 0 102 = I 102 := by rw [uI_ne (by decide), uI_ne (by decide)]; exact e102
    have hv' : 0 ≤ v.toInt ∧ v.toInt ≤ 65535 := by
      obtain ⟨l1, l2⟩ := hv
      rw [le_i, show (0 : Int32).toInt = 0 from rfl] at l1
      rw [le_i, show (9999 : Int32).toInt = 9999 from rfl] at l2
      omega
    refine w_X12_live (px_isInI (lo := 0) (hi := 9999) (fun l1 l2 _ => ⟨fun _ => ⟨v52, ?_⟩, fun z => absurd z (by decide)⟩) (fun m1 _ => m1.elim (fun y => absurd y (ile.mpr hv.1)) (fun y => absurd hv.2 y)))
    rw [t52, b1]
    refine ⟨fun _ => ?_, fun z => absurd z h52⟩
    have hrb : BkR (mnN (I 102)) (s9 I) (uI (uI I1 97 1 0) 97 0 0) := by
      unfold BkR
      rw [b1]
      exact hs.2.1
    refine px_runs9 (e := e + 1) (q := I 50) (hE.o b1) g1 g2 g3 (by rw [b1]; exact g6) hv' hs.2.2.1 hrb (fun I2 hF2 hM hRB e45 e48 => ?_)
    simp only [t0, t1, t2, t3, t4, rd_ne (show ¬ (97 : Nat) = 112 by decide), rd_ne (show ¬ (102 : Nat) = 112 by decide), rd_k (show ¬ (43 : Nat) = 40 by decide)]
    refine ⟨w0, v2, w1, w2, w3, w4, Or.inr trivial, ?_⟩
    rw [b1] at e45
    have hFm : FrW WRx9 nV I1 J1 I2 J1 := ((FrW.rf.u (Or.inr (Or.inl ⟨rfl, by decide⟩))).u (Or.inr (Or.inl ⟨rfl, by decide⟩))).tr (hF2.up (fun _ _ z => z.elim Or.inl (fun y => Or.inr (Or.inl ⟨y.1, by have := y.2; omega⟩))) (fun _ _ z => z))
    obtain ⟨m1, m2, m3, m4, m5, m6⟩ := hM
    have hF3 : FrW WRx9 nV I1 J1 (uI (uI (uI (uI (uI (uI I2 112 0 (I2 97 44)) 112 1 (I2 102 2 - I2 97 45)) 112 2 (I2 97 46)) 112 3 (I2 97 47)) 112 4 (I2 97 48)) 97 40 1) J1 := (((((hFm.u (Or.inr (Or.inr rfl))).u (Or.inr (Or.inr rfl))).u (Or.inr (Or.inr rfl))).u (Or.inr (Or.inr rfl))).u (Or.inr (Or.inr rfl))).u (Or.inr (Or.inl ⟨rfl, by decide⟩))
    have y102 : uI (uI (uI (uI (uI (uI I2 112 0 (I2 97 44)) 112 1 (I2 102 2 - I2 97 45)) 112 2 (I2 97 46)) 112 3 (I2 97 47)) 112 4 (I2 97 48)) 97 40 1 102 = I2 102 := by rw [uI_ne (by decide), uI_ne (by decide), uI_ne (by decide), uI_ne (by decide), uI_ne (by decide), uI_ne (by decide)]
    have y40 : uI (uI (uI (uI (uI (uI I2 112 0 (I2 97 44)) 112 1 (I2 102 2 - I2 97 45)) 112 2 (I2 97 46)) 112 3 (I2 97 47)) 112 4 (I2 97 48)) 97 40 1 97 40 = 1 := rd_eq
    have y0 : uI (uI (uI (uI (uI (uI I2 112 0 (I2 97 44)) 112 1 (I2 102 2 - I2 97 45)) 112 2 (I2 97 46)) 112 3 (I2 97 47)) 112 4 (I2 97 48)) 97 40 1 112 0 = I2 97 44 := by rw [rd_ne (by decide), rd_k (by decide), rd_k (by decide), rd_k (by decide), rd_k (by decide), rd_eq]
    have y1 : uI (uI (uI (uI (uI (uI I2 112 0 (I2 97 44)) 112 1 (I2 102 2 - I2 97 45)) 112 2 (I2 97 46)) 112 3 (I2 97 47)) 112 4 (I2 97 48)) 97 40 1 112 1 = I2 102 2 - I2 97 45 := by rw [rd_ne (by decide), rd_k (by decide), rd_k (by decide), rd_k (by decide), rd_eq]
    have y2 : uI (uI (uI (uI (uI (uI I2 112 0 (I2 97 44)) 112 1 (I2 102 2 - I2 97 45)) 112 2 (I2 97 46)) 112 3 (I2 97 47)) 112 4 (I2 97 48)) 97 40 1 112 2 = I2 97 46 := by rw [rd_ne (by decide), rd_k (by decide), rd_k (by decide), rd_eq]
    have y3 : uI (uI (uI (uI (uI (uI I2 112 0 (I2 97 44)) 112 1 (I2 102 2 - I2 97 45)) 112 2 (I2 97 46)) 112 3 (I2 97 47)) 112 4 (I2 97 48)) 97 40 1 112 3 = I2 97 47 := by rw [rd_ne (by decide), rd_k (by decide), rd_eq]
    have y4 : uI (uI (uI (uI (uI (uI I2 112 0 (I2 97 44)) 112 1 (I2 102 2 - I2 97 45)) 112 2 (I2 97 46)) 112 3 (I2 97 47)) 112 4 (I2 97 48)) 97 40 1 112 4 = I2 97 48 := by rw [rd_ne (by decide), rd_eq]
    generalize uI (uI (uI (uI (uI (uI I2 112 0 (I2 97 44)) 112 1 (I2 102 2 - I2 97 45)) 112 2 (I2 97 46)) 112 3 (I2 97 47)) 112 4 (I2 97 48)) 97 40 1 = A at hF3 y102 y40 y0 y1 y2 y3 y4
    have cl : ∀ c, c ≤ 96 → A c = I1 c := fun c hc => hF3.c (fun k q => by rcases q with q | q | q <;> omega)
    obtain ⟨a1, a7, a2, a4, a5, a3⟩ := hA
    refine ⟨m6.trans x1.symm, ?_, ?_⟩
    · have hFu : FrU9 (R 1 7) I J1 A J1 := (FrW.up hF (fun _ _ q => by
          rcases q with (q | q | q) | q
          · exact Or.inl q
          · exact Or.inr (Or.inr (Or.inr (Or.inl q)))
          · exact Or.inr (Or.inr (Or.inr (Or.inr (Or.inl q))))
          · exact Or.inr (Or.inr (Or.inl q.1))) (fun _ _ q => q)).tr (hF3.up (fun _ _ q => by
          rcases q with q | q | q
          · exact Or.inr (Or.inl q)
          · exact Or.inr (Or.inr (Or.inr (Or.inr (Or.inr (Or.inl ⟨q.1, by have := q.2; omega⟩)))))
          · exact Or.inr (Or.inr (Or.inr (Or.inr (Or.inr (Or.inr q)))))) (fun _ _ q => q))
      refine h.op hR hFu (s' := (RN9 s I v).2.2.1) ⟨⟨fun d b c => ?_, fun k hk => ?_, ?_⟩, ?_, hRB.1, hRB.1, ?_, ?_, hs.2.2.2.2.2.2⟩
      · rw [cl _ (by omega)]; exact a1.1 d b c
      · rw [cl _ (by omega)]; exact a1.2.1 k hk
      · rw [cl _ (by omega)]; exact a1.2.2
      · unfold BkR
        rw [y102]
        exact m1
      · intro k hk
        have q := hs.2.2.2.2.1 k hk
        rw [cl _ (by omega), cl _ (by omega), hF.i (by intro z; rcases z with ((z | z | z) | z | z) | z <;> omega), hF.i (by intro z; rcases z with ((z | z | z) | z | z) | z <;> omega)]
        exact q
      · intro k hk
        have l6 := hs.2.2.2.2.2.2
        rw [y102, hF2.i (by intro z; rcases z with ⟨-, z⟩ | z <;> omega), hF2.i (by intro z; rcases z with ⟨-, z⟩ | z <;> omega), b1]
        exact ⟨rfl, rfl⟩
    · intro _
      have a0 : A 49 = I1 49 := cl 49 (by decide)
      refine ⟨by rw [y40, a0, f0], fun _ => ?_⟩
      rw [y0, y1, y2, y3, y4, a0]
      refine ⟨m3.trans a2.symm, ?_, m4.trans a4.symm, m5.trans a5.symm, e48.trans f6.symm⟩
      rw [m1.2.2, e45, a3]
end LIV
end PT15x3
