/-! ===== the tape ===== -/
theorem by_c (v : Int32) : ∀ s : Nat, (s = 24 ∨ s = 16 ∨ s = 8 ∨ s = 0) → (Int32.toInt8 (Int32.toInt8 (Int32.toUInt32 v >>> (Int32.toUInt32 (Int32.ofNat s) &&& Int32.toUInt32 31)).toInt32).toInt32).toInt32 = (Int32.toInt8 (Int32.toInt8 (v >>> (Int32.ofNat s &&& 31))).toInt32).toInt32 := by
  intro s hs
  have key : (Int32.toUInt32 v >>> (Int32.toUInt32 (Int32.ofNat s) &&& Int32.toUInt32 31)).toInt32.toInt8 = (v >>> (Int32.ofNat s &&& 31)).toInt8 := by
    apply Int8.toBitVec_inj.mp
    have sx : ∀ n, n ≤ 24 → BitVec.signExtend 8 (v.toBitVec >>> n) = BitVec.signExtend 8 (v.toBitVec.sshiftRight n) := fun n hn => by
      apply BitVec.eq_of_getLsbD_eq
      intro i hi
      rw [BitVec.getLsbD_signExtend, BitVec.getLsbD_signExtend, BitVec.getLsbD_ushiftRight, BitVec.getLsbD_sshiftRight]
      have h1 : ¬ 32 ≤ i := by omega
      have h3 : i < 32 := by omega
      have h2 : n + i < 32 := by omega
      simp [h1, h2, h3, hi]
    rcases hs with rfl | rfl | rfl | rfl
    · simpa using sx 24 (by omega)
    · simpa using sx 16 (by omega)
    · simpa using sx 8 (by omega)
    · simp
  rw [key]
theorem by_in (x : Int32) : -128 ≤ (Int32.toInt8 (Int32.toInt8 x).toInt32).toInt32.toInt ∧ (Int32.toInt8 (Int32.toInt8 x).toInt32).toInt32.toInt ≤ 127 := by
  have h1 := Int8.le_toInt (Int32.toInt8 (Int32.toInt8 x).toInt32)
  have h2 := Int8.toInt_lt (Int32.toInt8 (Int32.toInt8 x).toInt32)
  rw [Int8.toInt_toInt32]
  omega
noncomputable def byN (v : Int32) (s : Nat) : Int32 := (Int32.toInt8 (Int32.toInt8 (v >>> (Int32.ofNat s &&& 31))).toInt32).toInt32
/-- four bytes more -/
noncomputable def ap4 (A : Nat → Int32) (f : Nat) (v : Int32) : Nat → Int32 := upd (upd (upd (upd A f (byN v 24)) (f + 1) (byN v 16)) (f + 2) (byN v 8)) (f + 3) (byN v 0)
noncomputable def ap20 (A : Nat → Int32) (f : Nat) (a b c d e : Int32) : Nat → Int32 := ap4 (ap4 (ap4 (ap4 (ap4 A f a) (f + 4) b) (f + 8) c) (f + 12) d) (f + 16) e
theorem upd_b {A : Nat → Int32} {j : Nat} {v : Int32} (h : ∀ i, -128 ≤ (A i).toInt ∧ (A i).toInt ≤ 127) (hv : -128 ≤ v.toInt ∧ v.toInt ≤ 127) : ∀ i, -128 ≤ (upd A j v i).toInt ∧ (upd A j v i).toInt ≤ 127 := fun i => by
  by_cases q : i = j
  · subst q; rw [upd_s]; exact hv
  · rw [upd_i q]; exact h i
theorem ap4_b {A : Nat → Int32} {f : Nat} {v : Int32} (h : ∀ i, -128 ≤ (A i).toInt ∧ (A i).toInt ≤ 127) : ∀ i, -128 ≤ (ap4 A f v i).toInt ∧ (ap4 A f v i).toInt ≤ 127 := upd_b (upd_b (upd_b (upd_b h (by_in _)) (by_in _)) (by_in _)) (by_in _)
theorem ap20_b {A : Nat → Int32} {f : Nat} {a b c d e : Int32} (h : ∀ i, -128 ≤ (A i).toInt ∧ (A i).toInt ≤ 127) : ∀ i, -128 ≤ (ap20 A f a b c d e i).toInt ∧ (ap20 A f a b c d e i).toInt ≤ 127 := ap4_b (ap4_b (ap4_b (ap4_b (ap4_b h))))
theorem upd_e {A B : Nat → Int32} {j f : Nat} {v : Int32} (h : ∀ i, i < f → A i = B i) (hj : j = f) : ∀ i, i < f + 1 → upd A j v i = upd B j v i := fun i hi => by
  by_cases q : i = j
  · subst q; rw [upd_s, upd_s]
  · rw [upd_i q, upd_i q]; exact h i (by omega)
theorem ap4_e {A B : Nat → Int32} {f : Nat} {v : Int32} (h : ∀ i, i < f → A i = B i) : ∀ i, i < f + 4 → ap4 A f v i = ap4 B f v i := upd_e (upd_e (upd_e (upd_e h rfl) rfl) rfl) rfl
theorem ap20_e {A B : Nat → Int32} {f : Nat} {a b c d e : Int32} (h : ∀ i, i < f → A i = B i) : ∀ i, i < f + 20 → ap20 A f a b c d e i = ap20 B f a b c d e i := ap4_e (ap4_e (ap4_e (ap4_e (ap4_e h))))
section TP
variable {d : Nat} {I : Im} {J : Jm} {R : Rm} {Q : Qt}
noncomputable abbrev WT : Nat → Nat → Prop := fun c k => (c = 3 ∧ k = 1) ∨ c = 4
noncomputable abbrev WU : Nat → Nat → Prop := fun c k => (c = 97 ∧ k = 8) ∨ c = 101
theorem px_hasRoom {f k : Nat} (hf : f + k ≤ 900) (h1 : I 3 1 = nI f) (hQ : Q 1 0 I J R) : AM (d + 1) 59 112 [.ref 3, .int (nI k)] I J R Q := by
  refine w_X6_hasRoom ⟨fun c => ?_, fun _ => ⟨Or.inr rfl, hQ⟩⟩
  rw [h1, nI_add] at c
  have := (nlt_nI (a := 900) (by omega) (by omega)).mp c
  omega
theorem px_noRoom {f k : Nat} (hf : 900 < f + k) (hf2 : f ≤ 900) (hk : k ≤ 100) (h1 : I 3 1 = nI f) (hQ : Q 0 0 I J R) : AM (d + 1) 59 112 [.ref 3, .int (nI k)] I J R Q := by
  refine w_X6_hasRoom ⟨fun _ => ⟨Or.inl rfl, hQ⟩, fun c => absurd ?_ c⟩
  rw [h1, nI_add]
  exact (nlt_nI (a := 900) (by omega) (by omega)).mpr (by omega)
theorem px_append {f : Nat} {v : Int32} (hf : f + 4 ≤ 900) (h1 : I 3 1 = nI f) (hQ : ∀ I2, FrW WT nV I J I2 J → I2 3 1 = nI (f + 4) → I2 4 = ap4 (I 4) f v → Q 0 0 I2 J R) : AM (d + 2) 60 112 [.ref 3, .int v] I J R Q := by
  refine am_X6_append (fun P hc => sg_X6_append_0 hc _ _ _ _ ?_)
  have step : ∀ (g s : Nat) (I2 : Im), g + 1 ≤ 900 → (s = 24 ∨ s = 16 ∨ s = 8 ∨ s = 0) → I2 3 1 = nI g → (∀ I3, FrW WT nV I2 J I3 J → I3 3 1 = nI (g + 1) → I3 4 = upd (I2 4) g (byN v s) → P 3 112 [(0, .ref 3), (1, .int v), (2, .int (nI s + (-8)))] [] I3 J R) → P 3 112 [(0, .ref 3), (1, .int v), (2, .int (nI s))] [] I2 J R := fun g s I2 hg hs h2 k => by
    refine sg_X6_append_3 hc _ _ _ _ _ ⟨fun c => absurd c (nI_pos (by omega)), fun _ => px_hasRoom (k := 1) hg h2 (fun _ => ⟨fun c => absurd c (by decide), fun _ => ⟨?_, ?_⟩⟩)⟩
    · rw [h2]; exact vp_nI (by omega) (by omega)
    · rw [h2, tn_nI (by omega), rd_ne (show ¬ (3 : Nat) = 4 by decide), h2, nI_k1]
      have eb := by_c v s hs
      change P 3 112 [(0, .ref 3), (1, .int v), (2, .int (nI s + (-8)))] [] (uI (uI I2 4 g (Int32.toInt8 (Int32.toInt8 (Int32.toUInt32 v >>> (Int32.toUInt32 (Int32.ofNat s) &&& Int32.toUInt32 31)).toInt32).toInt32).toInt32) 3 1 (nI (g + 1))) J R
      rw [eb]
      exact k _ ((FrW.rf.u (Or.inr rfl)).u (Or.inl ⟨rfl, rfl⟩)) rd_eq ((uI_ne (by decide)).trans uI_eq)
  refine step f 24 I (by omega) (Or.inl rfl) h1 (fun I1 F1 a1 b1 => ?_)
  refine step (f + 1) 16 I1 (by omega) (Or.inr (Or.inl rfl)) a1 (fun I2 F2 a2 b2 => ?_)
  refine step (f + 2) 8 I2 (by omega) (Or.inr (Or.inr (Or.inl rfl))) a2 (fun I3 F3 a3 b3 => ?_)
  refine step (f + 3) 0 I3 (by omega) (Or.inr (Or.inr (Or.inr rfl))) a3 (fun I4 F4 a4 b4 => ?_)
  refine sg_X6_append_3 hc _ _ _ _ _ ⟨fun _ => ?_, fun c => absurd (by decide) c⟩
  refine hQ I4 (((F1.tr F2).tr F3).tr F4) a4 ?_
  unfold ap4
  rw [b4, b3, b2, b1]
theorem px_layT {f : Nat} {v : Int32} (hf : f + 4 ≤ 900) (h1 : I 97 8 = nI f) (hQ : ∀ I2, FrW WU nV I J I2 J → I2 97 8 = nI (f + 4) → I2 101 = ap4 (I 101) f v → Q 0 0 I2 J R) : AM (d + 1) 221 112 [.ref 97, .int v] I J R Q := by
  refine am_X12_lay (fun P hc => sg_X12_lay_0 hc _ _ _ _ ?_)
  have step : ∀ (g s i : Nat) (I2 : Im), g + 1 ≤ 900 → s = 8 * i → i ≤ 3 → I2 97 8 = nI g → (∀ I3, FrW WU nV I2 J I3 J → I3 97 8 = nI (g + 1) → I3 101 = upd (I2 101) g (byN v s) → P 2 112 [(0, .ref 97), (1, .int v), (2, .int (nI i + (-1)))] [] I3 J R) → P 2 112 [(0, .ref 97), (1, .int v), (2, .int (nI i))] [] I2 J R := fun g s i I2 hg hs hi h2 k => by
    refine sg_X12_lay_2 hc _ _ _ _ _ ⟨fun c => absurd c (nI_pos (by omega)), fun _ => ⟨?_, ?_⟩⟩
    · rw [h2]; exact vp_nI (by omega) (by omega)
    · have e8 : (8 * nI i : Int32) = Int32.ofNat s := by
        have : ∀ i, i ≤ 3 → (8 * nI i : Int32) = Int32.ofNat (8 * i) := by decide +kernel
        rw [hs]; exact this i hi
      rw [h2, tn_nI (by omega), rd_ne (show ¬ (97 : Nat) = 101 by decide), h2, nI_k1, e8]
      exact k _ ((FrW.rf.u (Or.inr rfl)).u (Or.inl ⟨rfl, rfl⟩)) rd_eq ((uI_ne (by decide)).trans uI_eq)
  refine step f 24 3 I (by omega) (by decide) (by decide) h1 (fun I1 F1 a1 b1 => ?_)
  refine step (f + 1) 16 2 I1 (by omega) (by decide) (by decide) a1 (fun I2 F2 a2 b2 => ?_)
  refine step (f + 2) 8 1 I2 (by omega) (by decide) (by decide) a2 (fun I3 F3 a3 b3 => ?_)
  refine step (f + 3) 0 0 I3 (by omega) (by decide) (by decide) a3 (fun I4 F4 a4 b4 => ?_)
  refine sg_X12_lay_2 hc _ _ _ _ _ ⟨fun _ => ?_, fun c => absurd (by decide) c⟩
  refine hQ I4 (((F1.tr F2).tr F3).tr F4) a4 ?_
  unfold ap4
  rw [b4, b3, b2, b1]
theorem px_cfY {f : Nat} {a b c e g : Int32} (hf : f + 20 ≤ 900) (h1 : I 3 1 = nI f) (hQ : ∀ I2, FrW WT nV I J I2 J → I2 3 1 = nI (f + 20) → I2 4 = ap20 (I 4) f a b c e g → Q (nI (f + 20)) 0 I2 J R) : AM (d + 3) 107 112 [.ref 1, .int a, .int b, .int c, .int e, .int g] I J R Q := by
  refine w_X11_feed (px_hasRoom (k := 20) hf h1 (fun _ => ⟨fun _ => ?_, fun z => absurd z (by decide)⟩))
  refine px_append (by omega) h1 (fun I1 F1 a1 b1 => px_append (by omega) a1 (fun I2 F2 a2 b2 => px_append (by omega) a2 (fun I3 F3 a3 b3 => px_append (by omega) a3 (fun I4 F4 a4 b4 => px_append (by omega) a4 (fun I5 F5 a5 b5 => ?_)))))
  rw [a5]
  refine hQ I5 ((((F1.tr F2).tr F3).tr F4).tr F5) a5 ?_
  unfold ap20
  rw [b5, b4, b3, b2, b1]
theorem px_cfN {f : Nat} {a b c e g : Int32} (hf : 900 < f + 20) (hf2 : f ≤ 900) (h1 : I 3 1 = nI f) (hQ : Q (-1) 0 I J R) : AM (d + 3) 107 112 [.ref 1, .int a, .int b, .int c, .int e, .int g] I J R Q :=
  w_X11_feed (px_noRoom (k := 20) hf hf2 (by omega) h1 (fun _ => ⟨fun z => absurd rfl z, fun _ => hQ⟩))
theorem px_mfY {f : Nat} {a b c e g : Int32} (hf : f + 20 ≤ 900) (h1 : I 97 8 = nI f) (hQ : ∀ I2, FrW (fun c k => (c = 97 ∧ (k = 1 ∨ k = 8)) ∨ c = 101) nV I J I2 J → I2 97 8 = nI (f + 20) → I2 101 = ap20 (I 101) f a b c e g → Q (nI (f + 20)) 0 I2 J R) : AM (d + 3) 220 112 [.ref 97, .int a, .int b, .int c, .int e, .int g] I J R Q := by
  have h2 : uI I 97 1 0 97 8 = nI f := (rd_k (by decide)).trans h1
  refine w_X12_feed ?_
  rw [h2]
  refine ⟨fun _ => ?_, fun z => absurd ?_ z⟩
  · refine px_layT (by omega) h2 (fun I1 F1 a1 b1 => px_layT (by omega) a1 (fun I2 F2 a2 b2 => px_layT (by omega) a2 (fun I3 F3 a3 b3 => px_layT (by omega) a3 (fun I4 F4 a4 b4 => px_layT (by omega) a4 (fun I5 F5 a5 b5 => ?_)))))
    rw [a5]
    refine hQ I5 (((FrW.rf (W := fun c k => (c = 97 ∧ (k = 1 ∨ k = 8)) ∨ c = 101) (V := nV)).u (Or.inl ⟨rfl, Or.inl rfl⟩)).tr (((((F1.tr F2).tr F3).tr F4).tr F5).up (fun c k q => q.elim (fun y => Or.inl ⟨y.1, Or.inr y.2⟩) Or.inr) nV.up)) a5 ?_
    unfold ap20
    rw [b5, b4, b3, b2, b1, show uI I 97 1 0 101 = I 101 from uI_ne (by decide)]
  · show nI f + nI 20 ≤ nI 900
    rw [nI_add]
    exact (nle_nI (b := 900) (by omega) (by omega)).mpr (by omega)
theorem px_mfN {f : Nat} {a b c e g : Int32} (hf : 900 < f + 20) (hf2 : f ≤ 900) (h1 : I 97 8 = nI f) (hQ : Q (-1) 0 (uI I 97 1 0) J R) : AM (d + 3) 220 112 [.ref 97, .int a, .int b, .int c, .int e, .int g] I J R Q := by
  have h2 : uI I 97 1 0 97 8 = nI f := (rd_k (by decide)).trans h1
  refine w_X12_feed ?_
  rw [h2]
  refine ⟨fun z => ?_, fun _ => hQ⟩
  change nI f + nI 20 ≤ nI 900 at z
  rw [nI_add] at z
  have := (nle_nI (a := f + 20) (b := 900) (by omega) (by omega)).mp z
  omega
end TP
