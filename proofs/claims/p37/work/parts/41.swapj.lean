section PT7x6
theorem RM.eqN {I : Im} {J J1 : Jm} {R : Rm} (h : RM I J R) (e : J1 104 = J 104) : ∀ i : Nat, i < 6 → (i : Int) < (I (R 1 7) 4).toInt → J (R 1 7 + 2) i = J1 104 i := fun i h6 hi => by
  rw [e]
  rw [h.1.1] at hi
  exact (h.1.2.2 i h6 hi).trans (by rw [Nat.zero_add])
theorem RM.come {p q x x2 : Int32} {I I1 I2 : Im} {J J1 J2 : Jm} {R : Rm} (hB : Bd I) (hR : RI R) (h : RM I J R) (h1 : HCm (R 1 7) p q I J x I1 J1) (h2 : MCm p q I1 J1 x2 I2 J2) : RM I2 J2 R ∧ x2 = x := by
  have e0 := h.1.1
  have b := Bd.men hB
  have key : I 102 0 = 6 ↔ ¬ I (R 1 7) 4 < 6 := by
    rw [e0, Int32.lt_iff_toInt_lt, show (6 : Int32).toInt = 6 from rfl, ← Int32.toInt_inj, show (6 : Int32).toInt = 6 from rfl]
    omega
  have f0 : ∀ {m k N}, HN (R 1 7) 0 m k N I J I1 J1 → I1 102 0 = I (R 1 7) 4 := fun a => by rw [a.2.2.2.2.2.2.1]; exact e0.symm
  have f3 : ∀ {m k N}, HN (R 1 7) 0 m k N I J I1 J1 → I1 102 3 = I (R 1 7) 2 := fun a => by rw [a.2.2.2.2.2.2.1]; have := h.1.2.1; rw [Nat.zero_add] at this; exact this.symm
  rcases h1 with ⟨n1, x1, a⟩ | ⟨s1, l1, x1, a⟩
  · have e102 := a.2.2.2.2.2.2.1
    have e104 := a.2.2.2.2.2.1
    rcases h2 with ⟨n2, y1, b2⟩ | ⟨s2, l2, y1, b2⟩
    · rw [f0 a, f3 a] at b2
      exact ⟨RM.now (now_9 hR) (by decide) rfl h a b2 (h.eqN e104), by rw [x1, y1]⟩
    · rw [e102] at l2
      exact absurd ⟨s2, Decidable.not_not.mp (fun z => l2 (key.mpr z))⟩ n1
  · have e102 := a.2.2.2.2.2.2.1
    have e104 := a.2.2.2.2.2.1
    rcases h2 with ⟨n2, y1, b2⟩ | ⟨s2, l2, y1, b2⟩
    · rw [e102] at n2
      exact absurd ⟨s1, fun z => key.mp z l1⟩ n2
    · have e0' : I1 102 0 = I (R 1 7) 4 := f0 a
      rw [e0', f3 a] at b2
      refine ⟨RM.now (now_9 hR) (by decide) rfl h a b2 (fun i h6 hi => ?_), by rw [x1, y1, e0']⟩
      rw [e104]
      unfold vp_updL
      by_cases z : i = Int32.toNatClampNeg (I (R 1 7) 4)
      · rw [if_pos z, if_pos z]
      · rw [if_neg z, if_neg z]
        have l1' := l1
        rw [Int32.lt_iff_toInt_lt, show (6 : Int32).toInt = 6 from rfl] at l1'
        have tn := tn_of (x := I (R 1 7) 4) rfl (by rw [e0]; exact b.1)
        have hs : (I (R 1 7) 4 + 1 : Int32).toInt = (I (R 1 7) 4).toInt + 1 := ti_add rfl (show (1 : Int32).toInt = 1 from rfl) (by rw [e0]; omega)
        rw [hs] at hi
        exact (h.1.2.2 i h6 (by rw [← e0]; omega)).trans (by rw [Nat.zero_add])
/-! what is known -/
noncomputable def HLn (o : Nat) (v w : Int32) (I : Im) (J : Jm) (x : Int32) (I1 : Im) (J1 : Jm) : Prop := (¬ slc v ∧ x = 0 ∧ HN o 0 (I o 4) (I o 2) (J (o + 2)) I J I1 J1) ∨ (slc v ∧ (inS (I o 2) v = true ↔ w = 1) ∧ x = 0 ∧ HN o 0 (I o 4) (I o 2) (J (o + 2)) I J I1 J1) ∨ (slc v ∧ ¬ (inS (I o 2) v = true ↔ w = 1) ∧ x = 1 ∧ HN o 0 (I o 4) (I o 2 ^^^ biS v) (J (o + 2)) I J I1 J1)
noncomputable def MLn (v w : Int32) (I : Im) (J : Jm) (x : Int32) (I2 : Im) (J2 : Jm) : Prop := (¬ slc v ∧ x = 0 ∧ MN (I 102 0) (I 102 3) (J 104) I J I2 J2) ∨ (slc v ∧ (inS (I 102 3) v = true ↔ w = 1) ∧ x = 0 ∧ MN (I 102 0) (I 102 3) (J 104) I J I2 J2) ∨ (slc v ∧ ¬ (inS (I 102 3) v = true ↔ w = 1) ∧ x = 1 ∧ MN (I 102 0) (I 102 3 ^^^ biS v) (J 104) I J I2 J2)
theorem HN.kn {o : Nat} {k : Int32} {I : Im} {J : Jm} (ho : o ∈ BKL) : HN o 0 (I o 4) k (J (o + 2)) I J (uI (uI I o 2 k) 1 0 0) J := by
  have h6 := bk_six ho
  refine ⟨?_, ?_, rfl, fun c hc hne _ => ?_, fun _ _ _ _ => rfl, rfl, ?_, ?_⟩
  · rw [rd_ne (by first | decide | omega), rd_k (by decide)]
  · rw [rd_ne (by first | decide | omega), rd_eq]
  · have h7 := bk_six hc
    rw [uI_ne (show ¬ c = 1 by omega), uI_ne hne]; exact ⟨rfl, rfl⟩
  · rw [uI_ne (by decide), uI_ne (by first | decide | omega)]
  · rw [rd_ne (by decide), rd_ne (by first | decide | omega)]
theorem cx_learn {d : Nat} {v w : Int32} {I : Im} {J : Jm} {R : Rm} (hw : w = 0 ∨ w = 1) (hR : RI R) : AM (d + 3) 125 112 [.ref 1, .int v, .int w] I J R (fun x _ I2 J2 _ => HLn (R 1 7) v w I J x I2 J2) := by
  have hO := hR.now.1
  have h9 := o_ge hO
  have hin := now_bk hR
  have no : HN (R 1 7) 0 (I (R 1 7) 4) (I (R 1 7) 2) (J (R 1 7 + 2)) I J (uI I 1 0 9) J := HN.same (fun c hc => uI_ne hc) h9
  refine w_X11_learn (px_isSlice (fun l1 l2 _ => ⟨fun _ => ⟨hR.now.2, bif_t hO (px_isIn (fun hi _ => ⟨fun c => ⟨hR.now.2, bif_t hO (w_X11_bit (bif_t hO (w_X11_allow ⟨Or.inr rfl, fun _ => ⟨Or.inr rfl, Or.inr (Or.inr ⟨⟨l1, l2⟩, fun z => c (z.mp hi).symm, rfl, HN.kn hin⟩)⟩⟩)))⟩, fun c => w_X11_deny ⟨Or.inl rfl, fun _ => ⟨Or.inl rfl, Or.inr (Or.inl ⟨⟨l1, l2⟩, ⟨fun _ => c.symm, fun _ => hi⟩, rfl, no⟩)⟩⟩⟩) (fun hi _ => ⟨fun c => ⟨hR.now.2, bif_t hO (w_X11_bit (bif_t hO (w_X11_allow ⟨Or.inr rfl, fun _ => ⟨Or.inr rfl, Or.inr (Or.inr ⟨⟨l1, l2⟩, fun z => ?_, rfl, HN.kn hin⟩)⟩⟩)))⟩, fun c => w_X11_deny ⟨Or.inl rfl, fun _ => ⟨Or.inl rfl, Or.inr (Or.inl ⟨⟨l1, l2⟩, ⟨fun z => ?_, fun z => ?_⟩, rfl, no⟩)⟩⟩⟩))⟩, fun c => absurd c (by decide)⟩) (fun hn _ => ⟨fun c => absurd rfl c, fun _ => w_X11_deny ⟨Or.inl rfl, fun _ => ⟨Or.inl rfl, Or.inl ⟨slc_n hn, rfl, HN.same (fun c hc => uI_ne hc) h9⟩⟩⟩⟩))
  · rcases hw with q | q
    · exact c q.symm
    · rw [z.mpr q] at hi; exact absurd hi (by decide)
  · rw [z] at hi; exact absurd hi (by decide)
  · rw [z] at c; exact absurd c (by decide)
theorem MN.kn {k : Int32} {I : Im} {J : Jm} : MN (I 102 0) k (J 104) I J (uI (uI (uI I 97 1 0) 97 0 0) 102 3 k) J := by
  refine ⟨?_, rd_eq, fun _ _ => rfl, fun j hj h6 => ?_, fun _ _ _ => rfl, fun c hc => ?_, fun _ _ => rfl, ?_⟩
  · rw [rd_k (by decide), rd_ne (by decide), rd_ne (by decide)]
  · rw [rd_k (by omega), rd_ne (by decide), rd_ne (by decide)]
  · have h6 := bk_six hc
    rw [uI_ne (by first | decide | omega), uI_ne (by first | decide | omega), uI_ne (by first | decide | omega)]; exact ⟨rfl, rfl⟩
  · rw [rd_ne (by decide), rd_k (by decide), rd_k (by decide)]; exact Int.le_refl _
theorem mx_learn {d : Nat} {v w : Int32} {I : Im} {J : Jm} {R : Rm} (hB : Bd I) (hw : w = 0 ∨ w = 1) : AM (d + 3) 269 112 [.ref 97, .int v, .int w] I J R (fun x _ I2 J2 _ => MLn v w I J x I2 J2) := by
  have k0 := Bd.known0 hB
  have e1 : uI (uI I 97 1 0) 97 0 0 102 = I 102 := (uI_ne (by decide)).trans (uI_ne (by decide))
  have t3 : Int32.toNatClampNeg 3 = 3 := rfl
  have no : ∀ z : Int32, MN (I 102 0) (I 102 3) (J 104) I J (uI (uI (uI I 97 1 0) 97 0 0) 97 0 z) J := fun z => MN.same (fun c hc => (uI_ne hc).trans ((uI_ne hc).trans (uI_ne hc))) ((rd_k (by decide)).trans ((rd_k (by decide)).trans (rd_k (by decide))))
  have v3 : vp_in 3 1620 := vp_of (a := 3) rfl (by decide) (by decide)
  refine w_X12_learn (px_mSlice (fun l1 l2 _ => ⟨fun _ => ⟨v3, ?_⟩, fun c => absurd c (by decide)⟩) (fun hn _ => ⟨fun c => absurd rfl c, fun _ => w_X12_no ⟨Or.inl rfl, fun _ => ⟨Or.inl rfl, Or.inl ⟨hn, rfl, no 2⟩⟩⟩⟩))
  rw [t3, e1]
  refine px_isOf k0 l1 l2 (fun hi _ => ⟨fun c => ⟨v3, v3, Or.inr rfl, Or.inr (Or.inr ⟨⟨l1, l2⟩, fun z => c (z.mp hi).symm, rfl, MN.kn⟩)⟩, fun c => w_X12_no ⟨Or.inl rfl, fun _ => ⟨Or.inl rfl, Or.inr (Or.inl ⟨⟨l1, l2⟩, ⟨fun _ => c.symm, fun _ => hi⟩, rfl, no 9⟩)⟩⟩⟩) (fun hi _ => ⟨fun c => ⟨v3, v3, Or.inr rfl, Or.inr (Or.inr ⟨⟨l1, l2⟩, fun z => ?_, rfl, MN.kn⟩)⟩, fun c => w_X12_no ⟨Or.inl rfl, fun _ => ⟨Or.inl rfl, Or.inr (Or.inl ⟨⟨l1, l2⟩, ⟨fun z => ?_, fun z => ?_⟩, rfl, no 9⟩)⟩⟩⟩)
  · rcases hw with q | q
    · exact c q.symm
    · rw [z.mpr q] at hi; exact absurd hi (by decide)
  · rw [z] at hi; exact absurd hi (by decide)
  · rw [z] at c; exact absurd c (by decide)
theorem RM.learn {v w x x2 : Int32} {I I1 I2 : Im} {J J1 J2 : Jm} {R : Rm} (hR : RI R) (h : RM I J R) (h1 : HLn (R 1 7) v w I J x I1 J1) (h2 : MLn v w I1 J1 x2 I2 J2) : RM I2 J2 R ∧ x2 = x := by
  have e0 := h.1.1
  have e3 := h.1.2.1
  rw [Nat.zero_add] at e3
  have go : ∀ k k2 : Int32, HN (R 1 7) 0 (I (R 1 7) 4) k (J (R 1 7 + 2)) I J I1 J1 → MN (I1 102 0) k2 (J1 104) I1 J1 I2 J2 → k2 = k → RM I2 J2 R := fun k k2 a b2 ek => by
    have f0 : I1 102 0 = I (R 1 7) 4 := by rw [a.2.2.2.2.2.2.1]; exact e0.symm
    rw [f0, ek] at b2
    exact RM.now (now_9 hR) (by decide) rfl h a b2 (h.eqN a.2.2.2.2.2.1)
  have f3 : ∀ k : Int32, HN (R 1 7) 0 (I (R 1 7) 4) k (J (R 1 7 + 2)) I J I1 J1 → I1 102 3 = I (R 1 7) 2 := fun k a => by rw [a.2.2.2.2.2.2.1]; exact e3.symm
  rcases h1 with ⟨n1, x1, a⟩ | ⟨s1, l1, x1, a⟩ | ⟨s1, l1, x1, a⟩
  · rcases h2 with ⟨n2, y1, b2⟩ | ⟨s2, l2, y1, b2⟩ | ⟨s2, l2, y1, b2⟩
    · exact ⟨go _ _ a b2 (f3 _ a), by rw [x1, y1]⟩
    · exact absurd s2 n1
    · exact absurd s2 n1
  · rcases h2 with ⟨n2, y1, b2⟩ | ⟨s2, l2, y1, b2⟩ | ⟨s2, l2, y1, b2⟩
    · exact absurd s1 n2
    · exact ⟨go _ _ a b2 (f3 _ a), by rw [x1, y1]⟩
    · rw [f3 _ a] at l2; exact absurd l1 l2
  · rcases h2 with ⟨n2, y1, b2⟩ | ⟨s2, l2, y1, b2⟩ | ⟨s2, l2, y1, b2⟩
    · exact absurd s1 n2
    · rw [f3 _ a] at l2; exact absurd l2 l1
    · exact ⟨go _ _ a b2 (by rw [f3 _ a]), by rw [x1, y1]⟩
end PT7x6
