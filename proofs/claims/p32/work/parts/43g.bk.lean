section PT8x0
/-! ===== bakery(): men, names, what is known ===== -/
noncomputable def HBM (f : Nat) (T : Nat → Int32) (v : Int32) (I : Im) (J : Jm) (R : Rm) (I2 : Im) (J2 : Jm) (R2 : Rm) : Prop :=
  ((v < 0 ∨ nI f < v) ∧ HN (R 1 7) (R 1 8) (I (R 1 7) 4) (I (R 1 7) 2) (J (R 1 7 + 2)) I J I2 J2 ∧ R2 1 7 = R 1 7) ∨ ∃ n, n ≤ f ∧ v = nI n ∧ ((∃ p, prB T n (n + 1) em0 0 = .error p ∧ HN (R 1 7) (R 1 8) (I (R 1 7) 4) (I (R 1 7) 2) (J (R 1 7 + 2)) I J I2 J2 ∧ R2 1 7 = R 1 7) ∨ ∃ B b, prB T n (n + 1) em0 0 = .ok (B, b) ∧ BOk B ∧ HN (R 1 8) 0 (B.1 0) (B.1 3) (J2 (R 1 8 + 2)) I J I2 J2 ∧ (∀ i, i < mnN B.1 → J2 (R 1 8 + 2) i = B.2.1 i) ∧ R2 1 7 = R 1 8)
noncomputable def MBM (f : Nat) (T : Nat → Int32) (v : Int32) (I : Im) (J : Jm) (I2 : Im) (J2 : Jm) : Prop :=
  ((v < 0 ∨ nI f < v) ∧ MN (I 102 0) (I 102 3) (J 104) I J I2 J2) ∨ ∃ n, n ≤ f ∧ v = nI n ∧ ((∃ p, prB T n (n + 1) em0 0 = .error p ∧ MN (I 102 0) (I 102 3) (J 104) I J I2 J2) ∨ ∃ B b, prB T n (n + 1) em0 0 = .ok (B, b) ∧ BOk B ∧ MN (B.1 0) (B.1 3) (J2 104) I J I2 J2 ∧ (∀ i, i < mnN B.1 → J2 104 i = B.2.1 i))
theorem cx_bakM {d : Nat} {v : Int32} {I : Im} {J : Jm} {R : Rm} (hB : Bd I) (hR : RI R) (h3 : R3 I J) : AM (d + 8) 108 112 [.ref 1, .int v] I J R (fun _ _ I2 J2 R2 => HBM (fl I) (I 4) v I J R I2 J2 R2) := by
  obtain ⟨h1, h2⟩ := fl_bd hB
  have hp := hR.rp.1
  have hpd := hR.rp.2.1
  have n7 := now_bk hR
  have n8 := bk_in hR.spare.1
  have key : ∀ I2 J2, FrW (WC (R 1 8) (R 1 9)) (VB (R 1 8)) I J I2 J2 → (∀ c, c ∈ BKL → ¬ c = R 1 8 → I2 c 4 = I c 4 ∧ I2 c 2 = I c 2) ∧ (∀ c, c ∈ BKL → ¬ c = R 1 8 → J2 (c + 2) = J (c + 2)) ∧ J2 104 = J 104 ∧ I2 102 = I 102 ∧ I2 97 23 = I 97 23 := fun I2 J2 hF => by
    refine ⟨fun c hc he => ?_, fun c hc he => ?_, hF.cj (by intro k z; omega), hF.c (by intro k z; omega), congrFun (hF.c (by intro k z; omega)) 23⟩
    · have h6 := bk_six hc
      rw [hF.c (o := c) (by intro k z; omega)]; exact ⟨rfl, rfl⟩
    · have h6 := bk_six hc
      exact hF.cj (by intro k z; omega)
  have old : ∀ I2 J2, FrW (WC (R 1 8) (R 1 9)) (VB (R 1 8)) I J I2 J2 → HN (R 1 7) (R 1 8) (I (R 1 7) 4) (I (R 1 7) 2) (J (R 1 7 + 2)) I J I2 J2 := fun I2 J2 hF => by
    obtain ⟨a1, a2, a3, a4, a5⟩ := key I2 J2 hF
    have hne : ¬ R 1 7 = R 1 8 := by omega
    exact ⟨(a1 _ n7 hne).1, (a1 _ n7 hne).2, a2 _ n7 hne, fun c hc _ he => a1 c hc he, fun c hc _ he => a2 c hc he, a3, a4, a5⟩
  rcases sp_v (v := v) h2 with q | ⟨n, hn, rfl⟩
  · exact px_cbN h2 h1 q (Or.inl ⟨q, HW.hn (HW.rf.u) n7 (by omega), rfl⟩)
  · exact px_cbY h2 hn h1 h3.2.2 hR (fun p I2 J2 he hF e1 _ _ => Or.inr ⟨n, hn, rfl, Or.inl ⟨p, he, old I2 J2 hF, rfl⟩⟩) (fun B2 b I2 J2 he hO hF e1 _ _ _ hC _ _ _ => by
      obtain ⟨a1, a2, a3, a4, a5⟩ := key I2 J2 hF
      exact Or.inr ⟨n, hn, rfl, Or.inr ⟨B2, b, he, hO, ⟨hC.1, hC.2.2.2.1, rfl, fun c hc hne _ => a1 c hc hne, fun c hc hne _ => a2 c hc hne, a3, a4, a5⟩, fun i hi => (hC.2.2.2.2.2 i hi).1, rfl⟩⟩)
theorem mx_bakM {d f : Nat} {T : Nat → Int32} {v : Int32} {I : Im} {J : Jm} {R : Rm} (h1 : I 97 8 = nI f) (h2 : f ≤ 900) (hT : Byt T) (hI : ∀ i, i < f → I 101 i = T i) : AM (d + 8) 233 112 [.ref 97, .int v] I J R (fun _ _ I2 J2 _ => MBM f T v I J I2 J2) := by
  have kk : ∀ I2 J2, FrQ I J I2 J2 → (∀ j, pK j → 6 ≤ j → I2 102 j = I 102 j) ∧ (∀ i, 6 ≤ i → i < 24 → J2 104 i = J 104 i) ∧ (∀ c, c ∈ BKL → I2 c 4 = I c 4 ∧ I2 c 2 = I c 2) ∧ (∀ c, c ∈ BKL → J2 (c + 2) = J (c + 2)) ∧ (I2 97 23).toInt ≤ (I 97 23).toInt := fun I2 J2 hF => by
    refine ⟨fun j hj h6 => hF.i (by unfold pK at hj; omega), fun i h6 h24 => hF.j (by omega), fun c hc => ?_, fun c hc => ?_, ?_⟩
    · have h6 := bk_six hc
      rw [hF.c (o := c) (by intro k z; omega)]; exact ⟨rfl, rfl⟩
    · have h6 := bk_six hc
      exact hF.cj (by intro k z; omega)
    · rw [hF.i (by intro q; rcases q with q | q; exact absurd q.2 (by decide); omega)]; exact Int.le_refl _
  rcases sp_v (v := v) h2 with q | ⟨n, hn, rfl⟩
  · exact px_mbN h2 h1 q (fun I2 hF e8 _ _ e102 => by
      obtain ⟨a1, a2, a3, a4, a5⟩ := kk I2 J hF
      exact Or.inl ⟨q, by rw [e102], by rw [e102], fun _ _ => rfl, a1, a2, a3, a4, a5⟩)
  · exact px_mbY h2 hn h1 hT hI (fun p I2 J2 he hF e1 _ l1 l2 => by
      obtain ⟨a1, a2, a3, a4, a5⟩ := kk I2 J2 hF
      exact Or.inr ⟨n, hn, rfl, Or.inl ⟨p, he, l1 0 (by decide), l1 3 (by decide), fun i hi => l2 i (by omega), a1, a2, a3, a4, a5⟩⟩) (fun B2 b I2 J2 he hO hF e1 _ _ g1 g2 => by
      obtain ⟨a1, a2, a3, a4, a5⟩ := kk I2 J2 hF
      exact Or.inr ⟨n, hn, rfl, Or.inr ⟨B2, b, he, hO, ⟨g1 0 (by decide), g1 3 (by decide), fun _ _ => rfl, a1, a2, a3, a4, a5⟩, g2⟩⟩)
theorem RM.bak {f : Nat} {T : Nat → Int32} {v : Int32} {I I1 I2 : Im} {J J1 J2 : Jm} {R R2 : Rm} (hf : f ≤ 900) (hR : RI R) (h : RM I J R) (h1 : HBM f T v I J R I1 J1 R2) (h2 : MBM f T v I1 J1 I2 J2) : RM I2 J2 R2 := by
  have hp := hR.rp.1
  have old : HN (R 1 7) (R 1 8) (I (R 1 7) 4) (I (R 1 7) 2) (J (R 1 7 + 2)) I J I1 J1 → MN (I1 102 0) (I1 102 3) (J1 104) I1 J1 I2 J2 → R2 1 7 = R 1 7 → RM I2 J2 R2 := fun a b2 e => by
    have f0 : I1 102 0 = I (R 1 7) 4 := by rw [a.2.2.2.2.2.2.1]; exact h.1.1.symm
    have f3 : I1 102 3 = I (R 1 7) 2 := by rw [a.2.2.2.2.2.2.1]; have := h.1.2.1; rw [Nat.zero_add] at this; exact this.symm
    rw [f0, f3] at b2
    exact RM.now (now_9 hR) (by omega) e h a b2 (h.eqN a.2.2.2.2.2.1)
  have nn : ∀ n m : Nat, n ≤ f → m ≤ f → nI n = nI m → n = m := fun n m a b c => (nK (a := n) (b := m) (by omega) (by omega)).mp c
  have bad : ∀ n : Nat, n ≤ f → ¬ (nI n < 0 ∨ nI f < nI n) := fun n hn z => by
    rcases z with q | q
    · exact absurd q (nI_pos (by omega))
    · have := (nlt_nI (by omega) (by omega)).mp q; omega
  rcases h1 with ⟨q, a, e⟩ | ⟨n, hn, rfl, h1⟩
  · rcases h2 with ⟨q2, b2⟩ | ⟨m, hm, rfl, _⟩
    · exact old a b2 e
    · exact absurd q (bad m hm)
  · rcases h2 with ⟨q2, b2⟩ | ⟨m, hm, em, h2⟩
    · exact absurd q2 (bad n hn)
    · have := nn n m hn hm em
      subst this
      rcases h1 with ⟨p, hp1, a, e⟩ | ⟨B, b, hp1, hO, a, aN, e⟩
      · rcases h2 with ⟨p2, hp2, b2⟩ | ⟨B2, b2, hp2, _⟩
        · exact old a b2 e
        · rw [hp1] at hp2; cases hp2
      · rcases h2 with ⟨p2, hp2, b2⟩ | ⟨B2, b2, hp2, hO2, b3, bN⟩
        · rw [hp1] at hp2; cases hp2
        · rw [hp1] at hp2
          injection hp2 with hp2
          injection hp2 with e1 e2
          subst e1
          refine RM.now (hp.elim (fun q => Or.inr q.2) (fun q => Or.inl q.2)) (by decide) e h a b3 (fun i h6 hi => ?_)
          have hm : i < mnN B.1 := by
            have := tn_of (x := B.1 0) rfl (by omega)
            unfold mnN
            omega
          exact (aN i hm).trans (bN i hm).symm
end PT8x0
section PT8x1
/-! ===== owe(): what it answers ===== -/
theorem RM.kn8 {I I1 : Im} {J J1 : Jm} {R : Rm} (h : RM I J R) (k : K8 I J I1 J1) : I1 102 3 = I (R 1 7) 2 := by
  have := h.1.2.1
  rw [Nat.zero_add] at this
  exact (k.2.2 3 pK3).trans this.symm
end PT8x1
section PT8x2
/-! ===== the scribe reads days: a step's words ===== -/
/-- a code more -/
noncomputable def adI (M : Im) (p L : Nat) (c : CD) : Im := uI (uI (uI (uI (uI (uI M (p + 1) L c.1) (p + 2) L c.2.1) (p + 3) L c.2.2.1) (p + 4) L c.2.2.2) (p + 5) L (nI L)) p 2 (nI (L + 1))
theorem adI_o {M : Im} {p L c : Nat} {x : CD} (h : ¬ (p ≤ c ∧ c ≤ p + 5)) : adI M p L x c = M c := by
  unfold adI
  rw [uI_ne (by first | decide | omega), uI_ne (by first | decide | omega), uI_ne (by first | decide | omega), uI_ne (by first | decide | omega), uI_ne (by first | decide | omega), uI_ne (by first | decide | omega)]
section DYD
variable {T : Nat → Int32} {e a d : Nat} {N : Nat → Int64} {I : Im} {J : Jm} {R : Rm} {Q : Qt} {p L M : Nat}
theorem Rd.ad {x : CD} (h : Rd T e a I J) (hp : 9 ≤ p) : Rd T e a (adI I p L x) J :=
  h.o (adI_o (by omega)) (adI_o (by omega)) rfl rfl
end DYD
end PT8x2
section PT8x3
/-! ===== the scribe reads days: the whole ===== -/
noncomputable abbrev WY (p : Nat) : Nat → Nat → Prop := fun c k => WR wsB c k ∨ c = 7 ∨ c = 8 ∨ (p ≤ c ∧ c ≤ p + 5)
noncomputable abbrev FrY (p : Nat) (I : Im) (J : Jm) (I2 : Im) (J2 : Jm) : Prop := FrW (WY p) VR I J I2 J2
theorem FrW.y {p : Nat} {I I2 : Im} {J J2 : Jm} (h : FrR I J I2 J2) : FrY p I J I2 J2 := h.up (fun _ _ q => Or.inl q) (fun _ _ q => q)
theorem FrY.ad {p L : Nat} {c : CD} {I I2 : Im} {J J2 : Jm} (h : FrY p I J I2 J2) : FrY p I J (adI I2 p L c) J2 :=
  ⟨fun o k q => (congrFun (adI_o (fun z => q (Or.inr (Or.inr (Or.inr z))))) k).trans (h.1 o k q), h.2⟩
section ADI
variable {M : Im} {p L k : Nat} {c : CD}
end ADI
section DYW
variable {T : Nat → Int32} {e a d : Nat} {N : Nat → Int64} {I : Im} {J : Jm} {R : Rm} {Q : Qt} {p M : Nat}
end DYW
end PT8x3
section PT8x4
/-! ===== the reference reads days: a step's words ===== -/
noncomputable abbrev WK (w : Nat) : Nat → Nat → Prop := fun c k => WM msB c k ∨ (c = 102 ∧ w < k ∧ k < w + 8)
noncomputable abbrev FrK (w : Nat) (I : Im) (J : Jm) (I2 : Im) (J2 : Jm) : Prop := FrW (WK w) VM I J I2 J2
theorem FrW.k8 {w : Nat} {I I2 : Im} {J J2 : Jm} (h : FrM I J I2 J2) : FrK w I J I2 J2 := h.up (fun _ _ q => Or.inl q) (fun _ _ q => q)
section RDB
variable {T : Nat → Int32} {e a d m w : Nat} {N : Nat → Int64} {I : Im} {J : Jm} {R : Rm} {Q : Qt}
end RDB
end PT8x4
section PT8x5
/-! ===== the reference reads days: readStep ===== -/
noncomputable abbrev WE : Nat → Nat → Prop := fun c k => (c = 97 ∧ (k ∈ msB ∨ k = 27)) ∨ (c = 102 ∧ 1350 ≤ k)
noncomputable abbrev FrE (I : Im) (J : Jm) (I2 : Im) (J2 : Jm) : Prop := FrW WE VM I J I2 J2
theorem FrW.ke {w : Nat} {I I2 : Im} {J J2 : Jm} (hw : 1350 ≤ w) (h : FrK w I J I2 J2) : FrE I J I2 J2 := h.up (fun _ _ q => q.elim (fun z => Or.inl ⟨z.1, Or.inl z.2⟩) (fun z => Or.inr ⟨z.1, by omega⟩)) (fun _ _ q => q)
section RDF
variable {T : Nat → Int32} {e m : Nat} {N : Nat → Int64} {R : Rm}
end RDF
end PT8x5
section PT8x6
/-! ===== rows of slices, purely ===== -/
noncomputable def pt (d : Nat) : Int := 2329089562800 / (d : Int)
set_option maxRecDepth 100000 in
theorem pt_lt' : ∀ d, d < 31 → ∀ e, e < 31 → 1 ≤ d → d < e → pt e < pt d := by decide +kernel
theorem pt_lt {d e : Nat} (h1 : 1 ≤ d) (h : d < e) (h2 : e ≤ 30) : pt e < pt d := pt_lt' d (by omega) e (by omega) h1 h
theorem pt_b' : ∀ d, d < 31 → 1 ≤ d → 0 < pt d ∧ pt d ≤ 2329089562800 ∧ pt d * (d : Int) = 2329089562800 := by decide +kernel
theorem pt_b {d : Nat} (h1 : 1 ≤ d) (h2 : d ≤ 30) : 0 < pt d ∧ pt d ≤ 2329089562800 ∧ pt d * (d : Int) = 2329089562800 := pt_b' d (by omega) h1
/-- all rows of k slices out of the last f ones, members of S, that are together l; the first ones first -/
noncomputable def rws (S : Nat → Bool) : Nat → Nat → Int → List (List Nat)
  | 0, 0, l => if l = 0 then [[]] else []
  | 0, _ + 1, _ => []
  | _ + 1, 0, l => if l = 0 then [[]] else []
  | f + 1, k + 1, l => (if S (30 - f) = true then (rws S f k (l - pt (30 - f))).map (fun r => (30 - f) :: r) else []) ++ rws S f (k + 1) l
theorem rws_0 {S : Nat → Bool} {f : Nat} {l : Int} : rws S f 0 l = if l = 0 then [[]] else [] := by cases f <;> rfl
theorem rws_z {S : Nat → Bool} {k : Nat} {l : Int} : rws S 0 (k + 1) l = [] := rfl
theorem rws_s {S : Nat → Bool} {f k : Nat} {l : Int} : rws S (f + 1) (k + 1) l = (if S (30 - f) = true then (rws S f k (l - pt (30 - f))).map (fun r => (30 - f) :: r) else []) ++ rws S f (k + 1) l := rfl
theorem rws_np {S : Nat → Bool} : ∀ (f k : Nat) (l : Int), f ≤ 30 → l ≤ 0 → rws S f (k + 1) l = [] := by
  intro f
  induction f with
  | zero => intro k l _ _; rfl
  | succ f ih =>
    intro k l hf hl
    have hp := (pt_b (d := 30 - f) (by omega) (by omega)).1
    rw [rws_s, ih k l (by omega) hl, List.append_nil]
    split
    · cases k with
      | zero => rw [rws_0, if_neg (by omega)]; rfl
      | succ k => rw [ih k _ (by omega) (by omega)]; rfl
    · rfl
theorem rws_big {S : Nat → Bool} : ∀ (f k : Nat) (l : Int), f + 1 ≤ 30 → ((k + 1 : Nat) : Int) * pt (30 - f) < l → rws S (f + 1) (k + 1) l = [] := by
  intro f
  induction f with
  | zero =>
    intro k l hf hl
    rw [rws_s, rws_z, List.append_nil]
    split
    · cases k with
      | zero => rw [rws_0, if_neg (by omega)]; rfl
      | succ k => rfl
    · rfl
  | succ f ih =>
    intro k l hf hl
    have hp := pt_lt (d := 30 - (f + 1)) (e := 30 - f) (by omega) (by omega) (by omega)
    have m1 : ∀ n : Nat, (n : Int) * pt (30 - f) ≤ (n : Int) * pt (30 - (f + 1)) := fun n => Int.mul_le_mul_of_nonneg_left (Int.le_of_lt hp) (by omega)
    rw [rws_s, ih k l (by omega) (Int.lt_of_le_of_lt (m1 _) hl), List.append_nil]
    split
    · cases k with
      | zero => rw [rws_0, if_neg (by omega)]; rfl
      | succ k =>
        have := m1 (k + 1)
        have e : ((k + 1 + 1 : Nat) : Int) * pt (30 - (f + 1)) = ((k + 1 : Nat) : Int) * pt (30 - (f + 1)) + pt (30 - (f + 1)) := by rw [Int.natCast_add (k + 1) 1, Int.add_mul]; omega
        rw [ih k _ (by omega) (by omega)]; rfl
    · rfl
theorem rws_big2 {S : Nat → Bool} {f k : Nat} {l : Int} (hf : f + 1 ≤ 30) (hl : ((k + 2 : Nat) : Int) * pt (30 - f) ≤ l) : rws S (f + 1) (k + 2) l = [] := by
  cases f with
  | zero =>
    rw [rws_s, rws_z (k := k + 1), rws_z (k := k), List.append_nil]
    split <;> rfl
  | succ f =>
    have hp := pt_lt (d := 30 - (f + 1)) (e := 30 - f) (by omega) (by omega) (by omega)
    have m1 : ∀ n : Nat, ((n + 1 : Nat) : Int) * pt (30 - f) < ((n + 1 : Nat) : Int) * pt (30 - (f + 1)) := fun n => Int.mul_lt_mul_of_pos_left hp (by omega)
    have e : ((k + 2 : Nat) : Int) * pt (30 - (f + 1)) = ((k + 1 : Nat) : Int) * pt (30 - (f + 1)) + pt (30 - (f + 1)) := by
      rw [show k + 2 = (k + 1) + 1 from rfl, Int.natCast_add (k + 1) 1, Int.add_mul]; omega
    have h1 := m1 k
    have h2 := m1 (k + 1)
    rw [rws_s, rws_big f (k + 1) l (by omega) (Int.lt_of_lt_of_le h2 hl), List.append_nil, rws_big f k _ (by omega) (by omega)]
    split <;> rfl
theorem rws_none {S : Nat → Bool} : ∀ (f k : Nat) (l : Int), f ≤ 30 → (∀ x, 31 - f ≤ x → x ≤ 30 → S x = false) → rws S f (k + 1) l = [] := by
  intro f
  induction f with
  | zero => intro k l _ _; rfl
  | succ f ih =>
    intro k l hf hS
    rw [rws_s, ih k l (by omega) (fun x h1 h2 => hS x (by omega) h2), List.append_nil, if_neg (by rw [hS (30 - f) (by omega) (by omega)]; decide)]
theorem rws_one_no {S : Nat → Bool} {l : Int} : ∀ (f : Nat), f ≤ 30 → (∀ x, 31 - f ≤ x → x ≤ 30 → S x = true → ¬ pt x = l) → rws S f 1 l = [] := by
  intro f
  induction f with
  | zero => intro _ _; rfl
  | succ f ih =>
    intro hf hS
    rw [rws_s, ih (by omega) (fun x h1 h2 => hS x (by omega) h2), List.append_nil, rws_0]
    split
    · rename_i h
      have := hS (30 - f) (by omega) (by omega) h
      rw [if_neg (by omega)]; rfl
    · rfl
theorem rws_one {S : Nat → Bool} {l : Int} {x : Nat} (hx : x ≤ 30) (hS : S x = true) (hl : pt x = l) : ∀ (f : Nat), f ≤ 30 → 31 - f ≤ x → rws S f 1 l = [[x]] := by
  intro f
  induction f with
  | zero => intro _ h; omega
  | succ f ih =>
    intro hf h
    rw [rws_s, rws_0]
    by_cases q : x = 30 - f
    · rw [rws_one_no f (by omega) (fun y h1 h2 _ => by have := pt_lt (d := x) (e := y) (by omega) (by omega) h2; omega), List.append_nil, ← q, if_pos hS, if_pos (by omega)]
      rfl
    · have := pt_lt (d := 30 - f) (e := x) (by omega) (by omega) hx
      rw [ih (by omega) (by omega), if_neg (show ¬ l - pt (30 - f) = 0 by omega)]
      split <;> rfl
theorem rws_mem {S : Nat → Bool} : ∀ (f k : Nat) (l : Int) (r : List Nat), f ≤ 30 → r ∈ rws S f k l → r.length = k ∧ ∀ x, x ∈ r → 31 - f ≤ x ∧ x ≤ 30 := by
  intro f
  induction f with
  | zero =>
    intro k l r hf h
    cases k with
    | zero =>
      rw [rws_0] at h
      split at h
      · rw [List.mem_singleton.mp h]; exact ⟨rfl, fun x hx => by cases hx⟩
      · cases h
    | succ k => cases h
  | succ f ih =>
    intro k l r hf h
    cases k with
    | zero =>
      rw [rws_0] at h
      split at h
      · rw [List.mem_singleton.mp h]; exact ⟨rfl, fun x hx => by cases hx⟩
      · cases h
    | succ k =>
      rw [rws_s] at h
      rcases List.mem_append.mp h with h | h
      · split at h
        · obtain ⟨r2, h2, rfl⟩ := List.mem_map.mp h
          obtain ⟨a, b⟩ := ih k _ r2 (by omega) h2
          refine ⟨by rw [List.length_cons, a], fun x hx => ?_⟩
          rcases List.mem_cons.mp hx with rfl | hx
          · omega
          · have := b x hx; omega
        · cases h
      · obtain ⟨a, b⟩ := ih (k + 1) l r (by omega) h
        exact ⟨a, fun x hx => by have := b x hx; omega⟩
theorem rws_len {S : Nat → Bool} : ∀ (f k : Nat) (l : Int), (rws S f k l).length ≤ 2 ^ f := by
  intro f
  induction f with
  | zero =>
    intro k l
    cases k with
    | zero => rw [rws_0]; split <;> decide
    | succ k => exact Nat.zero_le _
  | succ f ih =>
    intro k l
    cases k with
    | zero =>
      have := Nat.one_le_two_pow (n := f + 1)
      rw [rws_0]
      split
      · exact this
      · exact Nat.zero_le _
    | succ k =>
      have h1 := ih k (l - pt (30 - f))
      have h2 := ih (k + 1) l
      rw [rws_s, List.length_append, Nat.pow_succ]
      split
      · rw [List.length_map]; omega
      · rw [List.length_nil]; omega
/-- how often a slice is in the rows -/
noncomputable def cntR (rs : List (List Nat)) (d : Nat) : Nat := (rs.map fun r => r.count d).sum
noncomputable def lastN : List Nat → Nat
  | [] => 0
  | [x] => x
  | _ :: y :: r => lastN (y :: r)
theorem lastN_app {x : Nat} {r : List Nat} : ∀ p : List Nat, lastN (p ++ x :: r) = lastN (x :: r) := by
  intro p
  induction p with
  | nil => rfl
  | cons a p ih =>
    cases p with
    | nil => rfl
    | cons b p => exact ih
theorem lastN_mem {x : Nat} {r : List Nat} : lastN (x :: r) ∈ x :: r := by
  induction r generalizing x with
  | nil => exact List.mem_singleton.mpr rfl
  | cons y r ih => exact List.mem_cons_of_mem _ ih
/-- what is kept of the rows: the bound, the best, how many, how often each slice -/
noncomputable abbrev RwS : Type := Nat × List Nat × Nat × (Nat → Nat)
noncomputable def rwStep (g : Nat) (s : RwS) (r : List Nat) : RwS × Bool :=
  if g = 0 then ((s.1, r, s.2.2.1, s.2.2.2), true) else if g = 1 then ((s.1, s.2.1, s.2.2.1 + 1, fun d => s.2.2.2 d + r.count d), false)
  else if lastN r < s.1 then ((lastN r, r, s.2.2.1, s.2.2.2), false) else (s, false)
noncomputable def rwRun (g : Nat) : List (List Nat) → RwS → RwS × Bool
  | [], s => (s, false)
  | r :: rs, s => if (rwStep g s r).2 = true then rwStep g s r else rwRun g rs (rwStep g s r).1
theorem rwRun_app {g : Nat} : ∀ (a b : List (List Nat)) (s : RwS), rwRun g (a ++ b) s = if (rwRun g a s).2 = true then rwRun g a s else rwRun g b (rwRun g a s).1 := by
  intro a
  induction a with
  | nil => intro b s; rfl
  | cons r a ih =>
    intro b s
    show (if (rwStep g s r).2 = true then rwStep g s r else rwRun g (a ++ b) (rwStep g s r).1) = if (if (rwStep g s r).2 = true then rwStep g s r else rwRun g a (rwStep g s r).1).2 = true then (if (rwStep g s r).2 = true then rwStep g s r else rwRun g a (rwStep g s r).1) else rwRun g b (if (rwStep g s r).2 = true then rwStep g s r else rwRun g a (rwStep g s r).1).1
    by_cases q : (rwStep g s r).2 = true
    · rw [if_pos q, if_pos q, if_pos q]
    · rw [if_neg q, if_neg q, ih]
theorem rwRun_skip {s : RwS} : ∀ rs : List (List Nat), (∀ r, r ∈ rs → ¬ lastN r < s.1) → rwRun 2 rs s = (s, false) := by
  intro rs
  induction rs with
  | nil => intro _; rfl
  | cons r rs ih =>
    intro h
    have e : rwStep 2 s r = (s, false) := by
      unfold rwStep
      rw [if_neg (by decide), if_neg (by decide), if_neg (h r (List.mem_cons_self ..))]
    show (if (rwStep 2 s r).2 = true then rwStep 2 s r else rwRun 2 rs (rwStep 2 s r).1) = _
    rw [e]
    exact ih (fun r2 h2 => h r2 (List.mem_cons_of_mem _ h2))
theorem cntR_cons {r : List Nat} {rs : List (List Nat)} {d : Nat} : cntR (r :: rs) d = r.count d + cntR rs d := rfl
theorem rwRun_1 : ∀ (rs : List (List Nat)) (s : RwS), rwRun 1 rs s = ((s.1, s.2.1, s.2.2.1 + rs.length, fun d => s.2.2.2 d + cntR rs d), false) := by
  intro rs
  induction rs with
  | nil => intro s; rfl
  | cons r rs ih =>
    intro s
    show (if (rwStep 1 s r).2 = true then rwStep 1 s r else rwRun 1 rs (rwStep 1 s r).1) = _
    have e : rwStep 1 s r = ((s.1, s.2.1, s.2.2.1 + 1, fun d => s.2.2.2 d + r.count d), false) := rfl
    rw [e]
    refine (ih _).trans ?_
    rw [List.length_cons]
    have e2 : s.2.2.1 + 1 + rs.length = s.2.2.1 + (rs.length + 1) := by omega
    have e3 : (fun d => s.2.2.2 d + r.count d + cntR rs d) = fun d => s.2.2.2 d + cntR (r :: rs) d := funext fun d => by rw [cntR_cons]; omega
    show ((s.1, s.2.1, s.2.2.1 + 1 + rs.length, fun d => s.2.2.2 d + r.count d + cntR rs d), false) = _
    rw [e2, e3]
end PT8x6
section PT8x7
/-! ===== the class's rows of slices, exactly ===== -/
theorem tl_mul9 {x y : Int64} {a b : Int} (hx : x.toInt = a) (hy : y.toInt = b) (h : -9223372036854775808 ≤ a * b ∧ a * b < 9223372036854775808) : (x * y).toInt = a * b := by rw [Int64.toInt_mul, hx, hy]; exact tl_bmod h.1 h.2
set_option maxRecDepth 100000 in
theorem ptL : ∀ d : Nat, d < 31 → 1 ≤ d → (Int32.toInt64 1 * (2329089562800 / Int32.toInt64 (nI d))).toInt = pt d ∧ (2329089562800 / Int32.toInt64 (nI d)).toInt = pt d ∧ ¬ Int32.toInt64 (nI d) = 0 := by decide +kernel
theorem inLow : ∀ x : Nat, x < 31 → ∀ d : Nat, d < 31 → 1 ≤ x → 1 ≤ d → (((1 : Int32) <<< ((nI x - 1) &&& 31)) - 1) &&& ((1 : Int32) <<< ((nI d - 1) &&& 31)) = if d < x then (1 : Int32) <<< ((nI d - 1) &&& 31) else 0 := by decide +kernel
theorem inS_low {a : Int32} {x d : Nat} (h1 : 1 ≤ x) (h2 : x ≤ 30) (h3 : 1 ≤ d) (h4 : d ≤ 30) : inS (a &&& (((1 : Int32) <<< ((nI x - 1) &&& 31)) - 1)) (nI d) = (inS a (nI d) && decide (d < x)) := by
  unfold inS
  rw [Int32.and_assoc, inLow x (by omega) d (by omega) h1 h3]
  by_cases q : d < x
  · rw [if_pos q, decide_eq_true q, Bool.and_true]
  · rw [if_neg q, decide_eq_false q, Bool.and_false, Int32.and_zero]; rfl
theorem nI_sub9 {a b : Nat} (h : a + b ≤ 1000) : nI (a + b) - nI a = nI b :=
  Int32.toInt_inj.mp (by rw [ti_sub (nI_toInt (by omega)) (nI_toInt (by omega)) (by omega), nI_toInt (by omega)]; omega)
noncomputable abbrev WRo : Nat → Nat → Prop := fun c _ => c = 35 ∨ c = 36 ∨ c = 37 ∨ c = 38
noncomputable abbrev FrO (I : Im) (J : Jm) (I2 : Im) (J2 : Jm) : Prop := FrW WRo nV I J I2 J2
noncomputable def bl (b : Bool) : Int32 := if b = true then 1 else 0
theorem bl_01 {b : Bool} : (bl b : Int32) = 0 ∨ (bl b : Int32) = 1 := by cases b <;> decide
noncomputable def SA (A : Int32) (d : Nat) : Bool := inS A (nI d)
noncomputable def RwI (g : Nat) (A : Int32) (z : Nat) (s : RwS) (I : Im) : Prop := I 35 0 = nI g ∧ (∀ d : Nat, 1 ≤ d → d ≤ 30 → inS (I 35 1) (nI d) = (SA A d && decide (d < s.1))) ∧ I 35 2 = nI z ∧ I 35 5 = nI s.2.1.length ∧ (∀ i, i < s.2.1.length → I 37 i = nI (s.2.1.getD i 0)) ∧ I 35 6 = nI s.2.2.1 ∧ (∀ d : Nat, d ≤ 30 → I 38 d = nI (s.2.2.2 d)) ∧ (g = 2 ∨ s.1 = 31) ∧ g ≤ 2
noncomputable def RwP (r : List Nat) (I : Im) : Prop := ∀ i, i < r.length → I 36 i = nI (r.getD i 0)
theorem cI_a9 {I : Im} {a0 a1 m k : Nat} (h : k < m) : cI I a0 a1 0 0 m a1 k = I a0 k := by
  unfold cI va_cpy
  rw [if_pos rfl, if_pos (by omega)]
  exact congrArg (I a0) (by omega)
section CRW
variable {d : Nat} {I : Im} {J : Jm} {R : Rm} {Q : Qt}
theorem px_cr1 {n : Nat} (h1 : 1 ≤ n) (h2 : n ≤ 30) (hQ : ∀ y : Int64, y.toInt = pt n → Q 0 y I J R) : AM (d + 1) 167 112 [.int 1, .int (nI n)] I J R Q :=
  w_X11_crumbs ⟨fun _ => ⟨(ptL n (by omega) h1).2.2, hQ _ (ptL n (by omega) h1).1⟩, fun c => absurd ((nle_nI (a := 1) (by omega) (by omega)).mpr h1) c⟩
theorem px_meet {g z : Nat} {A : Int32} {s : RwS} {r : List Nat} (h : RwI g A z s I) (hr : RwP r I) (hl : r.length = z) (h1 : 1 ≤ z) (h5 : z ≤ 5) (hm : ∀ x, x ∈ r → 1 ≤ x ∧ x ≤ 30) (hL : g = 2 → lastN r < s.1) (hQ : ∀ I2, RwI g A z (rwStep g s r).1 I2 → I2 36 = I 36 → FrO I J I2 J → Q (bl (rwStep g s r).2) 0 I2 J R) : AM (d + 2) 84 112 [.ref 35, .int (nI (lastN r))] I J R Q := by
  obtain ⟨e0, e1, e2, e5, e7, e6, e8, eb, hg⟩ := h
  have hlast : 1 ≤ lastN r ∧ lastN r ≤ 30 := by
    cases r with
    | nil => rw [List.length_nil] at hl; omega
    | cons x r => exact hm _ lastN_mem
  have tz : Int32.toNatClampNeg (I 35 2) = z := by rw [e2, tn_nI (by omega)]
  have t0 : Int32.toNatClampNeg 0 = 0 := rfl
  have c1 : ∀ c, ¬ c = 37 → cI I 36 37 (Int32.toNatClampNeg 0) (Int32.toNatClampNeg 0) (Int32.toNatClampNeg (I 35 2)) c = I c := fun c q => if_neg q
  have c2 : ∀ k, k < z → cI I 36 37 (Int32.toNatClampNeg 0) (Int32.toNatClampNeg 0) (Int32.toNatClampNeg (I 35 2)) 37 k = I 36 k := fun k hk => by
    rw [tz]; exact cI_a9 hk
  generalize eC : cI I 36 37 (Int32.toNatClampNeg 0) (Int32.toNatClampNeg 0) (Int32.toNatClampNeg (I 35 2)) = C at c1 c2
  have hFC : FrO I J C J := ⟨fun o k q => congrFun (c1 o (fun z => q (Or.inr (Or.inr (Or.inl z))))) k, fun _ _ _ => rfl⟩
  have c35 : C 35 = I 35 := c1 35 (by decide)
  have bd : ¬ (0 : Int32) < 0 ∧ ¬ (0 : Int32) < 0 ∧ ¬ (I 35 2 : Int32) < 0 ∧ Int32.toNatClampNeg 0 + Int32.toNatClampNeg (I 35 2) ≤ 5 ∧ Int32.toNatClampNeg 0 + Int32.toNatClampNeg (I 35 2) ≤ 5 := by
    rw [tz, t0]
    exact ⟨by decide, by decide, by rw [e2]; exact nI_pos (by omega), by omega, by omega⟩
  have m5 : ∀ v : Int32, uI (uI C 35 5 (C 35 2)) 35 1 v 35 0 = nI g := fun v => by rw [rd_k (by decide), rd_k (by decide), c35]; exact e0
  -- what is written of the best
  have best : ∀ (v : Int32) (L : Nat), (∀ d : Nat, 1 ≤ d → d ≤ 30 → inS v (nI d) = (SA A d && decide (d < L))) → (g = 2 ∨ L = 31) → RwI g A z (L, r, s.2.2.1, s.2.2.2) (uI (uI C 35 5 (C 35 2)) 35 1 v) := fun v L hv hb => by
    refine ⟨m5 v, fun d a b => ?_, ?_, ?_, fun i hi => ?_, ?_, fun d hd => ?_, hb, hg⟩
    · rw [rd_eq]; exact hv d a b
    · rw [rd_k (by decide), rd_k (by decide), c35]; exact e2
    · rw [rd_k (by decide), rd_eq, c35, e2, ← hl]
    · rw [rd_ne (by decide), rd_ne (by decide), c2 i (by rw [← hl]; exact hi)]; exact hr i hi
    · rw [rd_k (by decide), rd_k (by decide), c35]; exact e6
    · rw [rd_ne (by decide), rd_ne (by decide), c1 38 (by decide)]; exact e8 d hd
  have hFb : ∀ v : Int32, FrO I J (uI (uI C 35 5 (C 35 2)) 35 1 v) J := fun v => (hFC.u (Or.inl rfl)).u (Or.inl rfl)
  have h36 : ∀ v : Int32, uI (uI C 35 5 (C 35 2)) 35 1 v 36 = I 36 := fun v => by rw [uI_ne (by decide), uI_ne (by decide), c1 36 (by decide)]
  refine am_X7_meet (fun P hc => sg_X7_meet_0 hc _ _ _ _ ⟨fun n1 => ⟨bd, ?_⟩, fun n1 => ?_⟩)
  · rw [eC]
    have g1 : ¬ g = 1 := fun q => n1 (by rw [e0, q]; rfl)
    have k2 : uI C 35 5 (C 35 2) 35 0 = nI g := by rw [rd_k (by decide), c35]; exact e0
    have k1 : uI C 35 5 (C 35 2) 35 1 = I 35 1 := by rw [rd_k (by decide), c35]
    refine ⟨fun n2 => ?_, fun n2 => ?_⟩
    · have g0 : g = 0 := by
        have : ¬ g = 2 := fun q => n2 (by rw [k2, q]; rfl)
        omega
      subst g0
      refine ⟨fun n3 => absurd (m5 _) n3, fun _ => ⟨Or.inr rfl, ?_⟩⟩
      rw [k1]
      exact hQ _ (best _ _ e1 eb) (h36 _) (hFb _)
    · have g2 : g = 2 := by
        rw [k2] at n2
        exact (nK (a := g) (b := 2) (by omega) (by omega)).mp n2
      subst g2
      have hl2 := hL rfl
      refine w_X11_bit ⟨fun _ => ⟨Or.inl rfl, ?_⟩, fun n3 => ?_⟩
      · have es : rwStep 2 s r = ((lastN r, r, s.2.2.1, s.2.2.2), false) := by
          unfold rwStep
          rw [if_neg (by decide), if_neg (by decide), if_pos hl2]
        rw [es] at hQ
        refine hQ _ ?_ (h36 _) (hFb _)
        rw [k1]
        refine best _ _ (fun d a b => ?_) (Or.inl rfl)
        rw [inS_low hlast.1 hlast.2 a b, e1 d a b]
        by_cases q : d < lastN r
        · rw [decide_eq_true q, decide_eq_true (show d < s.1 by omega), Bool.and_true, Bool.and_true]
        · rw [decide_eq_false q, Bool.and_false, Bool.and_false]
      · rw [m5] at n3
        exact absurd n3 (by decide)
  · have g1 : g = 1 := by
      rw [e0] at n1
      exact (nK (a := g) (b := 1) (by omega) (by omega)).mp n1
    subst g1
    have b31 : s.1 = 31 := eb.resolve_left (by decide)
    have L20 : ∀ (t q : List Nat) (M : Im), r = q ++ t → FrO I J M J → M 36 = I 36 → (∀ k, ¬ k = 6 → M 35 k = I 35 k) → M 37 = I 37 → M 35 6 = nI (s.2.2.1 + 1) → (∀ d : Nat, d ≤ 30 → M 38 d = nI (s.2.2.2 d + q.count d)) → P 20 112 [(0, .ref 35), (2, .int (nI q.length))] [] M J R := by
      intro t
      induction t with
      | nil =>
        intro q M hq hF h36 h35 h37 h6 h8
        rw [List.append_nil] at hq
        subst hq
        refine sg_X7_meet_20 hc _ _ _ _ ⟨fun _ => ⟨Or.inl rfl, ?_⟩, fun c => ?_⟩
        · refine hQ M ⟨(h35 0 (by decide)).trans e0, fun d a b => ?_, (h35 2 (by decide)).trans e2, (h35 5 (by decide)).trans e5, fun i hi => by rw [h37]; exact e7 i hi, h6, h8, eb, hg⟩ h36 hF
          rw [h35 1 (by decide)]; exact e1 d a b
        · rw [h35 2 (by decide), e2, ← hl] at c
          exact absurd ((nle_nI (by omega) (by omega)).mpr (Nat.le_refl _)) c
      | cons x t ih =>
        intro q M hq hF h36 h35 h37 h6 h8
        have hlen : r.length = q.length + (t.length + 1) := by rw [hq, List.length_append, List.length_cons]
        have hx := hm x (by rw [hq]; exact List.mem_append_right _ (List.mem_cons_self ..))
        have hgx : r.getD q.length 0 = x := by
          rw [hq, List.getD_eq_getElem?_getD, List.getElem?_append_right (Nat.le_refl _), Nat.sub_self]
          rfl
        have hrow : M 36 q.length = nI x := by rw [h36, hr q.length (by omega), hgx]
        refine sg_X7_meet_20 hc _ _ _ _ ⟨fun c => ?_, fun _ => ⟨vp_nI (by omega) (by omega), ?_⟩⟩
        · rw [h35 2 (by decide), e2, ← hl] at c
          have := (nle_nI (by omega) (by omega)).mp c
          omega
        · rw [tn_nI (by omega), hrow, tn_nI (by omega), nI_k1]
          refine ⟨vp_nI (by omega) (by omega), vp_nI (by omega) (by omega), ?_⟩
          have eq2 : r = (q ++ [x]) ++ t := by rw [hq, List.append_assoc]; rfl
          have elen : (q ++ [x]).length = q.length + 1 := by rw [List.length_append]; rfl
          rw [← elen]
          refine ih (q ++ [x]) _ eq2 (hF.u (Or.inr (Or.inr (Or.inr rfl)))) ((uI_ne (by decide)).trans h36) (fun k hk => (rd_ne (by decide)).trans (h35 k hk)) ((uI_ne (by decide)).trans h37) ((rd_ne (by decide)).trans h6) (fun d hd => ?_)
          rw [List.count_append, List.count_singleton]
          by_cases qd : d = x
          · subst qd
            rw [rd_eq, h8 d hd, nI_k1, if_pos (by rw [beq_self_eq_true])]
            exact congrArg nI (by omega)
          · rw [rd_k qd, h8 d hd, if_neg (by intro z; exact qd (beq_iff_eq.mp z).symm)]
            rfl
    refine L20 r [] _ rfl (FrW.rf.u (Or.inl rfl)) (uI_ne (by decide)) (fun k hk => rd_k hk) (uI_ne (by decide)) ?_ (fun d hd => ?_)
    · rw [rd_eq, e6, nI_k1]
    · rw [rd_ne (by decide), e8 d hd]
      rfl
end CRW
end PT8x7
section PT8x8
/-! ===== the search itself ===== -/
section CSK
variable {I : Im} {J : Jm} {R : Rm}
noncomputable def rsP (p : List Nat) (rs : List (List Nat)) : List (List Nat) := rs.map fun r => p ++ r
theorem rsP_app {p : List Nat} {a b : List (List Nat)} : rsP p (a ++ b) = rsP p a ++ rsP p b := List.map_append
theorem rsP_cons {p : List Nat} {x : Nat} {a : List (List Nat)} : rsP p (a.map fun r => x :: r) = rsP (p ++ [x]) a := by
  unfold rsP
  rw [List.map_map]
  refine congrArg (fun h => List.map h a) (funext fun r => ?_)
  show p ++ x :: r = (p ++ [x]) ++ r
  rw [List.append_assoc]; rfl
theorem loaf_div {y : Int64} {l : Int} (hy : y.toInt = l) (h1 : 1 ≤ l) : (2329089562800 / y).toInt = 2329089562800 / l := by
  have e : (2329089562800 : Int64).toInt = 2329089562800 := rfl
  have h2 : (2329089562800 : Int) / l ≤ 2329089562800 := Int.ediv_le_self _ (by decide)
  have h3 : 0 ≤ (2329089562800 : Int) / l := Int.ediv_nonneg (by decide) (by omega)
  rw [Int64.toInt_div, hy, e, Int.tdiv_eq_ediv_of_nonneg (by decide)]
  exact tl_bmod (by omega) (by omega)
theorem loaf_rem {y : Int64} {l : Int} (hy : y.toInt = l) (h1 : 1 ≤ l) : (2329089562800 - 2329089562800 / y * y).toInt = 2329089562800 % l := by
  have h3 : 0 ≤ (2329089562800 : Int) % l := Int.emod_nonneg _ (by omega)
  have h2 : (2329089562800 : Int) % l ≤ 2329089562800 := by
    rcases Int.lt_or_le 2329089562800 l with q | q
    · rw [Int.emod_eq_of_lt (by decide) q]; exact Int.le_refl _
    · have := Int.emod_lt_of_pos 2329089562800 (b := l) (by omega); omega
  rw [show (2329089562800 - 2329089562800 / y * y).toInt = ((2329089562800 : Int).tmod l).bmod (2 ^ 64) from by
    rw [Int64.toInt_sub, Int64.toInt_mul, Int64.toInt_div, hy, show (2329089562800 : Int64).toInt = 2329089562800 from rfl, Int.bmod_mul_bmod, Int.sub_bmod_bmod, Int.tmod_def, Int.mul_comm l], Int.tmod_eq_emod_of_nonneg (by decide)]
  exact tl_bmod (by omega) (by omega)
theorem pt_div {x : Nat} {l : Int} (h1 : 1 ≤ x) (h2 : x ≤ 30) (hl : pt x = l) : (2329089562800 : Int) % l = 0 ∧ (2329089562800 : Int) / l = x := by
  obtain ⟨a, b, c⟩ := pt_b h1 h2
  rw [hl] at a c
  rw [← c, Int.mul_emod_right, Int.mul_ediv_cancel_left _ (by omega)]
  exact ⟨rfl, rfl⟩
theorem pt_of {l : Int} (h1 : 1 ≤ l) (hm : (2329089562800 : Int) % l = 0) {x : Nat} (hx : (2329089562800 : Int) / l = x) (h2 : 1 ≤ x) : pt x = l := by
  have e := Int.mul_ediv_add_emod 2329089562800 l
  rw [hm, hx, Int.add_zero] at e
  unfold pt
  rw [← e, Int.mul_ediv_cancel _ (by omega)]
theorem px_putLast {g f z : Nat} {A : Int32} {s : RwS} {p : List Nat} {v3 : Int64} {l : Int} {d : Nat} {Q : Qt} (hv : v3.toInt = l) (hf : f ≤ 30) (hz : p.length + 1 = z) (h5 : z ≤ 5) (hm : ∀ x, x ∈ p → 1 ≤ x ∧ x ≤ 30) (h : RwI g A z s I) (hp : RwP p I) (hQ : ∀ I2, RwI g A z (rwRun g (rsP p (rws (SA A) f 1 l)) s).1 I2 → RwP p I2 → FrO I J I2 J → Q (bl (rwRun g (rsP p (rws (SA A) f 1 l)) s).2) 0 I2 J R) : AM (d + 3) 83 112 [.ref 35, .int (nI p.length), .int (nI (31 - f)), .long v3] I J R Q := by
  have no : rws (SA A) f 1 l = [] → Q 0 0 I J R := fun e => by
    rw [e] at hQ
    exact hQ I h hp FrW.rf
  refine w_X7_putLast ⟨fun c => ⟨Or.inl rfl, ?_⟩, fun c => ?_⟩
  · rw [lg_cmp_lt] at c
    have := cl_lt hv (show (1 : Int64).toInt = 1 from rfl) c
    exact no (rws_np f 0 l hf (by omega))
  rw [lg_cmp_lt] at c
  have h1 := cl_nlt hv (show (1 : Int64).toInt = 1 from rfl) c
  have nz : ¬ v3 = 0 := fun q => by rw [q] at hv; have : (0 : Int64).toInt = 0 := rfl; omega
  refine ⟨nz, fun c2 => ⟨nz, ?_⟩, fun c2 => ⟨Or.inl rfl, ?_⟩⟩
  · rw [lg_cmp_eq] at c2
    have hm0 := cl_eq (loaf_rem hv h1) (show (0 : Int64).toInt = 0 from rfl) c2
    have hdv := loaf_div hv h1
    have h0 : 0 ≤ (2329089562800 : Int) / l := Int.ediv_nonneg (by decide) (by omega)
    have ef : (Int32.toInt64 (nI (31 - f))).toInt = ((31 - f : Nat) : Int) := tl_i2l (nI_toInt (by omega))
    obtain ⟨x, hx⟩ : ∃ x : Nat, (2329089562800 : Int) / l = x := ⟨((2329089562800 : Int) / l).toNat, by omega⟩
    rw [hx] at hdv h0
    refine ⟨fun c3 => ⟨Or.inl rfl, ?_⟩, fun c3 => ⟨fun c4 => ⟨Or.inl rfl, ?_⟩, fun c4 => ?_⟩⟩
    · rw [lg_cmp_lt] at c3
      have := cl_lt hdv ef c3
      exact no (rws_one_no f hf (fun y y1 y2 _ q => by have := (pt_div (by omega) y2 q).2; omega))
    · rw [lg_cmp_gt] at c4
      have := cl_lt (show (30 : Int64).toInt = 30 from rfl) hdv c4
      exact no (rws_one_no f hf (fun y y1 y2 _ q => by have := (pt_div (by omega) y2 q).2; omega))
    · rw [lg_cmp_lt] at c3
      rw [lg_cmp_gt] at c4
      have k1 := cl_nlt hdv ef c3
      have k2 := cl_nlt (show (30 : Int64).toInt = 30 from rfl) hdv c4
      have x1 : 31 - f ≤ x := by omega
      have x2 : x ≤ 30 := by omega
      have hpt := pt_of h1 hm0 hx (by omega)
      have exI : Int64.toInt32 (2329089562800 / v3) = nI x := Int32.toInt_inj.mp (by rw [tl_l2i hdv (by omega), nI_toInt (by omega)])
      rw [exI]
      have hin := h.2.1 x (by omega) x2
      have hlast : lastN (p ++ [x]) = x := lastN_app p
      have hml : ∀ y, y ∈ p ++ [x] → 1 ≤ y ∧ y ≤ 30 := fun y hy => by
        rcases List.mem_append.mp hy with q | q
        · exact hm y q
        · rw [List.mem_singleton.mp q]; omega
      refine px_isIn (fun hi _ => ⟨fun _ => ⟨vp_nI (by omega) (by omega), ?_⟩, fun q => absurd q (by decide)⟩) (fun hi _ => ⟨fun q => absurd rfl q, fun _ => ⟨Or.inl rfl, ?_⟩⟩)
      · rw [hin, Bool.and_eq_true, decide_eq_true_eq] at hi
        rw [rws_one x2 hi.1 hpt f hf x1] at hQ
        rw [tn_nI (by omega)]
        have h' : RwI g A z s (uI I 36 p.length (nI x)) := by
          obtain ⟨e0, e1, e2, e5, e7, e6, e8, eb, hg⟩ := h
          have n35 : uI I 36 p.length (nI x) 35 = I 35 := uI_ne (by decide)
          have n37 : uI I 36 p.length (nI x) 37 = I 37 := uI_ne (by decide)
          have n38 : uI I 36 p.length (nI x) 38 = I 38 := uI_ne (by decide)
          unfold RwI
          rw [n35, n37, n38]
          exact ⟨e0, e1, e2, e5, e7, e6, e8, eb, hg⟩
        have hr' : RwP (p ++ [x]) (uI I 36 p.length (nI x)) := fun i hi => by
          rw [List.length_append] at hi
          by_cases q : i = p.length
          · subst q
            rw [rd_eq, List.getD_eq_getElem?_getD, List.getElem?_append_right (Nat.le_refl _), Nat.sub_self]; rfl
          · have hi2 : i < p.length := by have : [x].length = 1 := rfl; omega
            rw [rd_k q, hp i hi2, List.getD_eq_getElem?_getD, List.getD_eq_getElem?_getD, List.getElem?_append_left hi2]
        have key := px_meet (d := d) (J := J) (R := R) (Q := fun x2 _ I2 J2 R2 => (x2 = 0 ∨ x2 = 1) → (((x2 : Int32) = 0 ∨ (x2 : Int32) = 1) ∧ Q x2 0 I2 J2 R)) h' hr' (by rw [List.length_append]; exact hz) (by omega) h5 hml (fun _ => by rw [hlast]; exact hi.2) (fun I2 a b c _ => ⟨bl_01, ?_⟩)
        · rw [hlast] at key; exact key
        · have eR : rwRun g (rsP p [[x]]) s = rwStep g s (p ++ [x]) := by
            show (if (rwStep g s (p ++ [x])).2 = true then rwStep g s (p ++ [x]) else ((rwStep g s (p ++ [x])).1, false)) = _
            by_cases q : (rwStep g s (p ++ [x])).2 = true
            · rw [if_pos q]
            · rw [if_neg q]
              generalize rwStep g s (p ++ [x]) = w at q
              obtain ⟨w1, w2⟩ := w
              cases w2 with
              | false => rfl
              | true => exact absurd rfl q
          rw [eR] at hQ
          refine hQ I2 a (fun i hi => ?_) ((FrW.rf.u (Or.inr (Or.inl rfl))).tr c)
          rw [b, rd_k (by omega)]; exact hp i hi
      · rw [hin] at hi
        by_cases q : SA A x = true
        · rw [q, Bool.true_and, decide_eq_false_iff_not] at hi
          have g2 : g = 2 := h.2.2.2.2.2.2.2.1.resolve_right (fun z => hi (by omega))
          subst g2
          rw [rws_one x2 q hpt f hf x1, rwRun_skip (rsP p [[x]]) (fun r hr => by
            have hr2 : r ∈ [p ++ [x]] := hr
            rw [List.mem_singleton.mp hr2, hlast]; exact hi)] at hQ
          exact hQ I h hp FrW.rf
        · exact no (rws_one_no f hf (fun y y1 y2 hy e => by
            have := (pt_div (by omega) y2 e).2
            have : y = x := by omega
            subst this
            exact q hy))
  · rw [lg_cmp_eq] at c2
    have hm0 : ¬ (2329089562800 : Int) % l = 0 := cl_ne (loaf_rem hv h1) (show (0 : Int64).toInt = 0 from rfl) c2
    exact no (rws_one_no f hf (fun y y1 y2 _ q => hm0 (pt_div (by omega) y2 q).1))
theorem px_seek {g : Nat} {A : Int32} : ∀ (k f : Nat) (p : List Nat) (l : Int) (v3 : Int64) (s : RwS) (d : Nat) (I : Im) (Q : Qt), v3.toInt = l → -1000000000000000 ≤ l ∧ l ≤ 1000000000000000 → p.length + (k + 1) ≤ 5 → f ≤ 30 → (∀ x, x ∈ p → 1 ≤ x ∧ x ≤ 30) → RwI g A (p.length + (k + 1)) s I → RwP p I → (∀ I2, RwI g A (p.length + (k + 1)) (rwRun g (rsP p (rws (SA A) f (k + 1) l)) s).1 I2 → RwP p I2 → FrO I J I2 J → Q (bl (rwRun g (rsP p (rws (SA A) f (k + 1) l)) s).2) 0 I2 J R) → AM (d + k + 4) 82 112 [.ref 35, .int (nI p.length), .int (nI (31 - f)), .long v3] I J R Q := by
  intro k
  induction k with
  | zero =>
    intro f p l v3 s d I Q hv hl h5 hf hm h hp hQ
    have eo : I 35 2 - nI p.length = nI 1 := by rw [h.2.2.1]; exact nI_sub9 (by omega)
    refine am_X7_seek (fun P hc => sg_X7_seek_0 hc _ _ _ _ _ _ ?_)
    rw [eo]
    refine ⟨fun c => absurd c (by decide), fun _ => ⟨fun _ => ⟨fun c => absurd rfl c, fun _ => px_putLast (d := d) hv hf rfl h5 hm h hp (fun I2 a b c _ => ⟨bl_01, hQ I2 a b c⟩)⟩, fun c => absurd ((nlt_nI (a := p.length) (b := 5) (by omega) (by omega)).mpr (by omega)) c⟩⟩
  | succ k ihk =>
    intro f p l v3 s d I Q hv hl h5 hf hm h hp hQ
    have eo : I 35 2 - nI p.length = nI (k + 2) := by rw [h.2.2.1]; exact nI_sub9 (by omega)
    refine am_X7_seek (fun P hc => sg_X7_seek_0 hc _ _ _ _ _ _ ?_)
    rw [eo]
    have L38 : ∀ (f : Nat) (s : RwS) (M : Im), f ≤ 30 → RwI g A (p.length + (k + 1 + 1)) s M → RwP p M → FrO I J M J → (∀ I2, RwI g A (p.length + (k + 1 + 1)) (rwRun g (rsP p (rws (SA A) f (k + 1 + 1) l)) s).1 I2 → RwP p I2 → FrO I J I2 J → Q (bl (rwRun g (rsP p (rws (SA A) f (k + 1 + 1) l)) s).2) 0 I2 J R) → P 38 112 [(0, .ref 35), (1, .int (nI p.length)), (3, .long v3), (5, .int (nI (k + 2))), (6, .int (nI (31 - f)))] [] M J R := by
      intro f
      induction f with
      | zero =>
        intro s M hf h hp hF hQ
        exact sg_X7_seek_38 hc _ _ _ _ _ _ _ ⟨fun _ => ⟨Or.inl rfl, hQ M h hp hF⟩, fun c => absurd (by decide) c⟩
      | succ f ih =>
        intro s M hf h hp hF hQ
        have ed : 31 - (f + 1) = 30 - f := by omega
        have d1 : 1 ≤ 30 - f := by omega
        obtain ⟨p1, p2, p3⟩ := pt_b (d := 30 - f) d1 (by omega)
        have e5 : (Int32.toInt64 (nI (k + 2))).toInt = ((k + 2 : Nat) : Int) := tl_i2l (nI_toInt (by omega))
        have ek : ((k + 2 : Nat) : Int) * pt (30 - f) ≤ 5 * 2329089562800 := Int.le_trans (Int.mul_le_mul_of_nonneg_right (by omega) (by omega)) (Int.mul_le_mul_of_nonneg_left p2 (by decide))
        have ek0 : 0 ≤ ((k + 2 : Nat) : Int) * pt (30 - f) := Int.mul_nonneg (by omega) (by omega)
        have nx : nI (30 - f) + 1 = nI (31 - f) := by rw [nI_k1]; exact congrArg nI (by omega)
        rw [ed]
        -- on to the next slice
        have go : rws (SA A) (f + 1) (k + 1 + 1) l = rws (SA A) f (k + 1 + 1) l → P 38 112 [(0, .ref 35), (1, .int (nI p.length)), (3, .long v3), (5, .int (nI (k + 2))), (6, .int (nI (30 - f) + 1))] [] M J R := fun e => by
          rw [nx]
          rw [e] at hQ
          exact ih s M (by omega) h hp hF hQ
        refine sg_X7_seek_38 hc _ _ _ _ _ _ _ ⟨fun c => absurd ((nlt_nI (a := 30) (by omega) (by omega)).mp c) (by omega), fun _ => px_cr1 d1 (by omega) (fun y hy => ⟨fun c1 => ?_, fun c1 => ⟨Or.inl rfl, ?_⟩⟩)⟩
        · refine ⟨fun c2 => ?_, fun c2 => ?_⟩
          · rw [lg_cmp_ge] at c2
            have := cl_le hv hy c2
            refine go ?_
            rw [rws_s, rws_np f k _ (by omega) (by omega)]
            split <;> rfl
          rw [lg_cmp_ge] at c2
          have lt := cl_nle hv hy c2
          have hin := h.2.1 (30 - f) d1 (by omega)
          refine px_isIn (fun hi _ => ⟨fun q => absurd q (by decide), fun _ => ⟨vp_nI (by omega) (by omega), ?_⟩⟩) (fun hi _ => ⟨fun _ => ?_, fun q => absurd rfl q⟩)
          · rw [hin, Bool.and_eq_true, decide_eq_true_eq] at hi
            rw [tn_nI (by omega), nI_k1, nx]
            have ep : (p ++ [30 - f]).length = p.length + 1 := by rw [List.length_append]; rfl
            have hm2 : ∀ x, x ∈ p ++ [30 - f] → 1 ≤ x ∧ x ≤ 30 := fun x hx => by
              rcases List.mem_append.mp hx with q | q
              · exact hm x q
              · rw [List.mem_singleton.mp q]; omega
            have h' : RwI g A ((p ++ [30 - f]).length + (k + 1)) s (uI M 36 p.length (nI (30 - f))) := by
              obtain ⟨e0, e1, e2, e5, e7, e6, e8, eb, hg⟩ := h
              have n35 : uI M 36 p.length (nI (30 - f)) 35 = M 35 := uI_ne (by decide)
              have n37 : uI M 36 p.length (nI (30 - f)) 37 = M 37 := uI_ne (by decide)
              have n38 : uI M 36 p.length (nI (30 - f)) 38 = M 38 := uI_ne (by decide)
              unfold RwI
              rw [n35, n37, n38, ep]
              exact ⟨e0, e1, e2.trans (congrArg nI (by omega)), e5, e7, e6, e8, eb, hg⟩
            have hp' : RwP (p ++ [30 - f]) (uI M 36 p.length (nI (30 - f))) := fun i hi => by
              rw [ep] at hi
              by_cases q : i = p.length
              · subst q
                rw [rd_eq, List.getD_eq_getElem?_getD, List.getElem?_append_right (Nat.le_refl _), Nat.sub_self]; rfl
              · have hi2 : i < p.length := by omega
                rw [rd_k q, hp i hi2, List.getD_eq_getElem?_getD, List.getD_eq_getElem?_getD, List.getElem?_append_left hi2]
            have hF' : FrO I J (uI M 36 p.length (nI (30 - f))) J := hF.u (Or.inr (Or.inl rfl))
            have hv' : (v3 - y).toInt = l - pt (30 - f) := tl_sub hv hy (by omega)
            have eall : rsP p (rws (SA A) (f + 1) (k + 1 + 1) l) = rsP (p ++ [30 - f]) (rws (SA A) f (k + 1) (l - pt (30 - f))) ++ rsP p (rws (SA A) f (k + 1 + 1) l) := by
              rw [rws_s, if_pos hi.1, rsP_app, rsP_cons]
            rw [eall, rwRun_app] at hQ
            rw [← ep]
            refine ihk f (p ++ [30 - f]) (l - pt (30 - f)) (v3 - y) s d _ _ hv' (by omega) (by omega) (by omega) hm2 h' hp' (fun I2 a b c _ => ?_)
            have ez : (p ++ [30 - f]).length + (k + 1) = p.length + (k + 1 + 1) := by omega
            rw [ez] at a
            have hp2 : RwP p I2 := fun i hi => by
              have hb := b i (by omega)
              rw [hb, List.getD_eq_getElem?_getD, List.getD_eq_getElem?_getD, List.getElem?_append_left hi]
            cases q : (rwRun g (rsP (p ++ [30 - f]) (rws (SA A) f (k + 1) (l - pt (30 - f)))) s).2 with
            | true =>
              rw [q, if_pos rfl, q] at hQ
              exact ⟨fun z => absurd z (by decide), fun _ => ⟨Or.inr rfl, hQ I2 a hp2 (hF'.tr c)⟩⟩
            | false =>
              rw [q, if_neg (by decide)] at hQ
              refine ⟨fun _ => ?_, fun z => absurd rfl z⟩
              exact ih _ I2 (by omega) a hp2 (hF'.tr c) hQ
          · rw [hin] at hi
            by_cases q : SA A (30 - f) = true
            · rw [q, Bool.true_and, decide_eq_false_iff_not] at hi
              have g2 : g = 2 := h.2.2.2.2.2.2.2.1.resolve_right (fun z => hi (by omega))
              subst g2
              have eall : rsP p (rws (SA A) (f + 1) (k + 1 + 1) l) = rsP (p ++ [30 - f]) (rws (SA A) f (k + 1) (l - pt (30 - f))) ++ rsP p (rws (SA A) f (k + 1 + 1) l) := by
                rw [rws_s, if_pos q, rsP_app, rsP_cons]
              have hskip : rwRun 2 (rsP (p ++ [30 - f]) (rws (SA A) f (k + 1) (l - pt (30 - f)))) s = (s, false) := by
                refine rwRun_skip _ (fun r hr => ?_)
                obtain ⟨r2, hr2, rfl⟩ := List.mem_map.mp hr
                obtain ⟨l1, l2⟩ := rws_mem f (k + 1) _ r2 (by omega) hr2
                cases r2 with
                | nil => rw [List.length_nil] at l1; omega
                | cons x r2 =>
                  rw [lastN_app]
                  have := (l2 _ (lastN_mem (x := x) (r := r2))).1
                  omega
              rw [eall, rwRun_app, hskip, if_neg (show ¬ ((s, false) : RwS × Bool).2 = true from Bool.false_ne_true)] at hQ
              rw [nx]
              exact ih s M (by omega) h hp hF hQ
            · refine go ?_
              rw [rws_s, if_neg q]; rfl
        · rw [lg_cmp_gt] at c1
          have e6 : (y * Int32.toInt64 (nI (k + 2))).toInt = pt (30 - f) * ((k + 2 : Nat) : Int) := tl_mul9 hy e5 (by rw [Int.mul_comm]; omega)
          have := cl_nlt hv e6 c1
          rw [Int.mul_comm] at this
          rw [rws_big2 (by omega) this] at hQ
          exact hQ M h hp hF
    refine ⟨fun c => absurd ((nlt_nI (a := k + 2) (b := 1) (by omega) (by omega)).mp c) (by omega), fun _ => ⟨fun _ => ⟨fun _ => L38 f s I hf h hp FrW.rf hQ, fun c => absurd ((nK (a := k + 2) (b := 1) (by omega) (by omega)).mp c) (by omega)⟩, fun c => absurd ((nlt_nI (a := p.length) (b := 5) (by omega) (by omega)).mpr (by omega)) c⟩⟩
end CSK
end PT8x8
section PT8x9
/-! ===== the reference's rows of slices, exactly ===== -/
noncomputable abbrev RfS : Type := Nat × List Nat × (Nat → Nat)
noncomputable def rfStep (s : RfS) (r : List Nat) : RfS := (s.1 + 1, if s.1 = 0 then r else s.2.1, fun d => s.2.2 d + r.count d)
noncomputable def rfRun : List (List Nat) → RfS → RfS
  | [], s => s
  | r :: rs, s => rfRun rs (rfStep s r)
theorem rfRun_app : ∀ (a b : List (List Nat)) (s : RfS), rfRun (a ++ b) s = rfRun b (rfRun a s) := by
  intro a
  induction a with
  | nil => intro b s; rfl
  | cons r a ih => intro b s; exact ih b (rfStep s r)
theorem rfRun_n : ∀ (rs : List (List Nat)) (s : RfS), (rfRun rs s).1 = s.1 + rs.length := by
  intro rs
  induction rs with
  | nil => intro s; rfl
  | cons r rs ih =>
    intro s
    refine (ih (rfStep s r)).trans ?_
    show s.1 + 1 + rs.length = s.1 + (rs.length + 1)
    omega
/-- a set's slices below another -/
noncomputable def SB (A : Int32) (b d : Nat) : Bool := inS A (nI d) && decide (d < b)
noncomputable def RfI (s : RfS) (I : Im) : Prop := I 97 31 = nI s.1 ∧ (∀ i, i < s.2.1.length → I 106 i = nI (s.2.1.getD i 0)) ∧ (∀ d : Nat, d ≤ 30 → I 107 d = nI (s.2.2 d))
noncomputable def RfP (r : List Nat) (I : Im) : Prop := ∀ i, i < r.length → I 105 i = nI (r.getD i 0)
noncomputable abbrev WRf : Nat → Nat → Prop := fun c k => (c = 97 ∧ k = 31) ∨ c = 105 ∨ c = 106 ∨ c = 107
noncomputable abbrev FrF (I : Im) (J : Jm) (I2 : Im) (J2 : Jm) : Prop := FrW WRf nV I J I2 J2
section CRR
variable {I : Im} {J : Jm} {R : Rm}
theorem px_parts {d n : Nat} {Q : Qt} (h1 : 1 ≤ n) (h2 : n ≤ 30) (hQ : ∀ y : Int64, y.toInt = pt n → Q 0 y I J R) : AM (d + 1) 240 112 [.int (nI n)] I J R Q :=
  w_X12_partsOf ⟨(ptL n (by omega) h1).2.2, hQ _ (ptL n (by omega) h1).2.1⟩
theorem nI_z9 {n : Nat} (h : n < 2 ^ 31) : nI n = 0 ↔ n = 0 := nI_eq (b := 0) h (by decide)
/-- a row that is full -/
theorem px_row0 {z : Nat} {r : List Nat} {s : RfS} {v3 v4 v7 : Int32} {v5 : Int64} {l : Int} {d : Nat} {Q : Qt} (hv : v5.toInt = l) (hl : r.length = z) (h5 : z ≤ 5) (hm : ∀ x, x ∈ r → 1 ≤ x ∧ x ≤ 30) (hs : s.1 < 2 ^ 31) (h : RfI s I) (hr : RfP r I) (hQ : ∀ I2, RfI (if l = 0 then rfStep s r else s) I2 → I2 105 = I 105 → FrF I J I2 J → Q 0 0 I2 J R) : AM (d + 1) 271 112 [.ref 97, .int (nI z), .int (nI z), .int v3, .int v4, .long v5, .int v7] I J R Q := by
  refine am_X12_rows (fun P hc => sg_X12_rows_0 hc _ _ _ _ _ _ _ _ _ ⟨fun c => absurd rfl c, fun _ => ⟨fun c => ?_, fun c => ?_⟩⟩)
  · rw [lg_cmp_eq] at c
    have l0 : l = 0 := cl_eq hv (show (0 : Int64).toInt = 0 from rfl) c
    rw [if_pos l0] at hQ
    -- how often each is in the rows
    have L62 : ∀ (t q : List Nat) (M : Im), r = q ++ t → FrF I J M J → M 105 = I 105 → M 97 31 = nI (s.1 + 1) → (∀ i, i < (rfStep s r).2.1.length → M 106 i = nI ((rfStep s r).2.1.getD i 0)) → (∀ d : Nat, d ≤ 30 → M 107 d = nI (s.2.2 d + q.count d)) → P 62 112 [(0, .ref 97), (2, .int (nI z)), (8, .int (nI q.length))] [] M J R := by
      intro t
      induction t with
      | nil =>
        intro q M hq hF h5' h31 h6 h7
        rw [List.append_nil] at hq
        subst hq
        refine sg_X12_rows_62 hc _ _ _ _ _ ⟨fun _ => hQ M ⟨h31, h6, h7⟩ h5' hF, fun c2 => ?_⟩
        rw [← hl] at c2
        exact absurd ((nle_nI (by omega) (by omega)).mpr (Nat.le_refl _)) c2
      | cons x t ih =>
        intro q M hq hF h5' h31 h6 h7
        have hlen : r.length = q.length + (t.length + 1) := by rw [hq, List.length_append, List.length_cons]
        have hx := hm x (by rw [hq]; exact List.mem_append_right _ (List.mem_cons_self ..))
        have hgx : r.getD q.length 0 = x := by
          rw [hq, List.getD_eq_getElem?_getD, List.getElem?_append_right (Nat.le_refl _), Nat.sub_self]
          rfl
        have hrow : M 105 q.length = nI x := by rw [h5', hr q.length (by omega), hgx]
        refine sg_X12_rows_62 hc _ _ _ _ _ ⟨fun c2 => ?_, fun _ => ⟨vp_nI (by omega) (by omega), ?_⟩⟩
        · have := (nle_nI (by omega) (by omega)).mp c2
          omega
        · rw [tn_nI (by omega), hrow, tn_nI (by omega), nI_k1]
          refine ⟨vp_nI (by omega) (by omega), vp_nI (by omega) (by omega), ?_⟩
          have eq2 : r = (q ++ [x]) ++ t := by rw [hq, List.append_assoc]; rfl
          have elen : (q ++ [x]).length = q.length + 1 := by rw [List.length_append]; rfl
          rw [← elen]
          refine ih (q ++ [x]) _ eq2 (hF.u (Or.inr (Or.inr (Or.inr rfl)))) ((uI_ne (by decide)).trans h5') ((rd_ne (by decide)).trans h31) (fun i hi => (rd_ne (by decide)).trans (h6 i hi)) (fun d hd => ?_)
          rw [List.count_append, List.count_singleton]
          by_cases qd : d = x
          · subst qd
            rw [rd_eq, h7 d hd, nI_k1, if_pos (by rw [beq_self_eq_true])]
            exact congrArg nI (by omega)
          · rw [rd_k qd, h7 d hd, if_neg (by intro z; exact qd (beq_iff_eq.mp z).symm)]
            rfl
    have L49 : ∀ M : Im, FrF I J M J → M 105 = I 105 → M 97 31 = nI s.1 → M 107 = I 107 → (∀ i, i < (rfStep s r).2.1.length → M 106 i = nI ((rfStep s r).2.1.getD i 0)) → P 49 112 [(0, .ref 97), (2, .int (nI z))] [] M J R := fun M hF h5' h31 h7 h6 => by
      refine sg_X12_rows_49 hc _ _ _ _ (L62 r [] _ rfl (hF.u (Or.inl ⟨rfl, rfl⟩)) ((uI_ne (by decide)).trans h5') ?_ (fun i hi => (rd_ne (by decide)).trans (h6 i hi)) (fun d hd => ?_))
      · rw [rd_eq, h31, nI_k1]
      · rw [rd_ne (by decide), h7, h.2.2 d hd]; rfl
    refine ⟨fun c2 => ?_, fun c2 => ?_⟩
    · have s0 : ¬ s.1 = 0 := fun q => c2 (by rw [h.1, q]; rfl)
      have es : (rfStep s r).2.1 = s.2.1 := if_neg s0
      refine L49 I FrW.rf rfl h.1 rfl ?_
      rw [es]; exact h.2.1
    · rw [h.1] at c2
      have s0 : s.1 = 0 := (nI_z9 hs).mp c2
      have es : (rfStep s r).2.1 = r := if_pos s0
      have L23 : ∀ (t q : List Nat) (M : Im), r = q ++ t → FrF I J M J → M 105 = I 105 → M 97 31 = nI s.1 → M 107 = I 107 → (∀ i, i < q.length → M 106 i = nI (r.getD i 0)) → P 23 112 [(0, .ref 97), (2, .int (nI z)), (8, .int (nI q.length))] [] M J R := by
        intro t
        induction t with
        | nil =>
          intro q M hq hF h5' h31 h7 h6
          rw [List.append_nil] at hq
          subst hq
          refine sg_X12_rows_23 hc _ _ _ _ _ ⟨fun _ => L49 M hF h5' h31 h7 (by rw [es]; exact h6), fun c3 => ?_⟩
          rw [← hl] at c3
          exact absurd ((nle_nI (by omega) (by omega)).mpr (Nat.le_refl _)) c3
        | cons x t ih =>
          intro q M hq hF h5' h31 h7 h6
          have hlen : r.length = q.length + (t.length + 1) := by rw [hq, List.length_append, List.length_cons]
          refine sg_X12_rows_23 hc _ _ _ _ _ ⟨fun c3 => ?_, fun _ => ⟨vp_nI (by omega) (by omega), vp_nI (by omega) (by omega), ?_⟩⟩
          · have := (nle_nI (by omega) (by omega)).mp c3
            omega
          · rw [tn_nI (by omega), nI_k1]
            have eq2 : r = (q ++ [x]) ++ t := by rw [hq, List.append_assoc]; rfl
            have elen : (q ++ [x]).length = q.length + 1 := by rw [List.length_append]; rfl
            rw [← elen]
            refine ih (q ++ [x]) _ eq2 (hF.u (Or.inr (Or.inr (Or.inl rfl)))) ((uI_ne (by decide)).trans h5') ((rd_ne (by decide)).trans h31) ((uI_ne (by decide)).trans h7) (fun i hi => ?_)
            rw [elen] at hi
            by_cases qi : i = q.length
            · subst qi
              rw [rd_eq, h5']; exact hr _ (by omega)
            · rw [rd_k qi]; exact h6 i (by omega)
      exact L23 r [] I rfl FrW.rf rfl h.1 rfl (fun i hi => absurd hi (Nat.not_lt_zero _))
  · rw [lg_cmp_eq] at c
    have l0 : ¬ l = 0 := cl_ne hv (show (0 : Int64).toInt = 0 from rfl) c
    rw [if_neg l0] at hQ
    exact hQ I h rfl FrW.rf
theorem rsP_0 {rs : List (List Nat)} : rsP [] rs = rs := by
  unfold rsP
  exact List.map_id rs
theorem px_rrows {A : Int32} {b z : Nat} (hA : 0 ≤ A.toInt) (hb : b ≤ 31) (h5 : z ≤ 5) : ∀ (m f : Nat) (p : List Nat) (l : Int) (v5 : Int64) (s : RfS) (d : Nat) (I : Im) (Q : Qt), v5.toInt = l → -1000000000000000 ≤ l ∧ l ≤ 1000000000000000 → p.length + m = z → f ≤ 30 → (∀ x, x ∈ p → 1 ≤ x ∧ x ≤ 30) → RfI s I → RfP p I → s.1 + (rws (SB A b) f m l).length ≤ 2 ^ 30 → (∀ I2, RfI (rfRun (rsP p (rws (SB A b) f m l)) s) I2 → RfP p I2 → FrF I J I2 J → Q 0 0 I2 J R) → AM (d + m + 2) 271 112 [.ref 97, .int (nI p.length), .int (nI z), .int (nI (31 - f)), .int (nI b), .long v5, .int A] I J R Q := by
  intro m
  induction m with
  | zero =>
    intro f p l v5 s d I Q hv hl hz hf hm h hp hn hQ
    have hz2 : p.length = z := hz
    rw [hz2]
    refine px_row0 (d := d + 1) hv hz2 h5 hm (by have : (2 : Nat) ^ 30 < 2 ^ 31 := by decide
                                                 omega) h hp (fun I2 a e c => hQ I2 ?_ (fun i hi => by rw [e]; exact hp i hi) c)
    rw [rws_0]
    by_cases q : l = 0
    · rw [if_pos q] at a
      rw [if_pos q]
      have e1 : rfRun (rsP p [[]]) s = rfStep s p := by
        show rfStep s (p ++ []) = _
        rw [List.append_nil]
      rw [e1]; exact a
    · rw [if_neg q] at a
      rw [if_neg q]; exact a
  | succ m ih =>
    intro f p l v5 s d I Q hv hl hz hf hm h hp hn hQ
    have ne : ¬ nI p.length = nI z := fun q => by
      have := (nK (a := p.length) (b := z) (by omega) (by omega)).mp q
      omega
    refine am_X12_rows (fun P hc => sg_X12_rows_0 hc _ _ _ _ _ _ _ _ _ ⟨fun _ => ?_, fun c => absurd c ne⟩)
    have esz : nI z - nI p.length = nI (m + 1) := (nI_sub (by omega) (by omega)).trans (congrArg nI (by omega))
    have L94 : ∀ (f : Nat) (s : RfS) (M : Im), f ≤ 30 → RfI s M → RfP p M → FrF I J M J → s.1 + (rws (SB A b) f (m + 1) l).length ≤ 2 ^ 30 → (∀ I2, RfI (rfRun (rsP p (rws (SB A b) f (m + 1) l)) s) I2 → RfP p I2 → FrF I J I2 J → Q 0 0 I2 J R) → P 94 112 [(0, .ref 97), (1, .int (nI p.length)), (2, .int (nI z)), (4, .int (nI b)), (5, .long v5), (7, .int A), (8, .int (nI (31 - f)))] [] M J R := by
      intro f
      induction f with
      | zero =>
        intro s M hf h hp hF hn hQ
        exact sg_X12_rows_94 hc _ _ _ _ _ _ _ _ _ ⟨fun _ => hQ M h hp hF, fun c => absurd ((nle_nI (a := b) (b := 31 - 0) (by omega) (by omega)).mpr (by omega)) c⟩
      | succ f ihf =>
        intro s M hf h hp hF hn hQ
        have ed : 31 - (f + 1) = 30 - f := by omega
        have d1 : 1 ≤ 30 - f := by omega
        rw [ed]
        by_cases qb : b ≤ 30 - f
        · have e : rws (SB A b) (f + 1) (m + 1) l = [] := rws_none (f + 1) m l (by omega) (fun x h1 h2 => by unfold SB; rw [decide_eq_false (by omega), Bool.and_false])
          rw [e] at hQ
          exact sg_X12_rows_94 hc _ _ _ _ _ _ _ _ _ ⟨fun _ => hQ M h hp hF, fun c => absurd ((nle_nI (by omega) (by omega)).mpr qb) c⟩
        have nx : nI (30 - f) + 1 = nI (31 - f) := by rw [nI_k1]; exact congrArg nI (by omega)
        obtain ⟨p1, p2, p3⟩ := pt_b (d := 30 - f) d1 (by omega)
        have ek : ((m + 1 : Nat) : Int) * pt (30 - f) ≤ 5 * 2329089562800 := Int.le_trans (Int.mul_le_mul_of_nonneg_right (by omega) (by omega)) (Int.mul_le_mul_of_nonneg_left p2 (by decide))
        have ek0 : 0 ≤ ((m + 1 : Nat) : Int) * pt (30 - f) := Int.mul_nonneg (by omega) (by omega)
        have e5 : (Int32.toInt64 (nI (m + 1))).toInt = ((m + 1 : Nat) : Int) := tl_i2l (nI_toInt (by omega))
        have elen : (rws (SB A b) (f + 1) (m + 1) l).length = (if SB A b (30 - f) = true then (rws (SB A b) f m (l - pt (30 - f))).length else 0) + (rws (SB A b) f (m + 1) l).length := by
          rw [rws_s, List.length_append]
          split
          · rw [List.length_map]
          · rfl
        -- on to the next slice
        have go : rws (SB A b) (f + 1) (m + 1) l = rws (SB A b) f (m + 1) l → P 94 112 [(0, .ref 97), (1, .int (nI p.length)), (2, .int (nI z)), (4, .int (nI b)), (5, .long v5), (7, .int A), (8, .int (nI (30 - f) + 1))] [] M J R := fun e => by
          rw [nx]
          rw [e] at hQ hn
          exact ihf s M (by omega) h hp hF hn hQ
        refine sg_X12_rows_94 hc _ _ _ _ _ _ _ _ _ ⟨fun c => absurd ((nle_nI (by omega) (by omega)).mp c) qb, fun _ => px_parts d1 (by omega) (fun y hy => ?_)⟩
        rw [esz]
        have e6 : (y * Int32.toInt64 (nI (m + 1))).toInt = pt (30 - f) * ((m + 1 : Nat) : Int) := tl_mul9 hy e5 (by rw [Int.mul_comm]; omega)
        refine ⟨fun c1 => ?_, fun c1 => ?_⟩
        · rw [lg_cmp_lt] at c1
          have := cl_lt e6 hv c1
          rw [Int.mul_comm] at this
          rw [rws_big f m l (by omega) this] at hQ
          exact hQ M h hp hF
        · refine px_isOf hA ((nle_nI (a := 1) (by omega) (by omega)).mpr d1) ((nle_nI (b := 30) (by omega) (by omega)).mpr (by omega)) (fun hi _ => ⟨fun q => absurd q (by decide), fun _ => ?_⟩) (fun hi _ => ⟨fun _ => ?_, fun q => absurd rfl q⟩)
          · have hS : SB A b (30 - f) = true := by unfold SB; rw [hi, decide_eq_true (by omega)]; rfl
            rw [if_pos hS] at elen
            refine px_parts d1 (by omega) (fun y3 hy3 => ⟨fun c3 => ⟨vp_nI (by omega) (by omega), ?_⟩, fun c3 => ?_⟩)
            · rw [lg_cmp_le] at c3
              have le3 := cl_le hy3 hv c3
              rw [tn_nI (by omega)]
              refine px_parts d1 (by omega) (fun y4 hy4 => ?_)
              have ep : (p ++ [30 - f]).length = p.length + 1 := by rw [List.length_append]; rfl
              rw [nI_k1, nx, ← ep]
              have hm2 : ∀ x, x ∈ p ++ [30 - f] → 1 ≤ x ∧ x ≤ 30 := fun x hx => by
                rcases List.mem_append.mp hx with q | q
                · exact hm x q
                · rw [List.mem_singleton.mp q]; omega
              have h' : RfI s (uI M 105 p.length (nI (30 - f))) := by
                have n97 : uI M 105 p.length (nI (30 - f)) 97 = M 97 := uI_ne (by decide)
                have n106 : uI M 105 p.length (nI (30 - f)) 106 = M 106 := uI_ne (by decide)
                have n107 : uI M 105 p.length (nI (30 - f)) 107 = M 107 := uI_ne (by decide)
                unfold RfI
                rw [n97, n106, n107]
                exact h
              have hp' : RfP (p ++ [30 - f]) (uI M 105 p.length (nI (30 - f))) := fun i hi2 => by
                rw [ep] at hi2
                by_cases q : i = p.length
                · subst q
                  rw [rd_eq, List.getD_eq_getElem?_getD, List.getElem?_append_right (Nat.le_refl _), Nat.sub_self]; rfl
                · have hi3 : i < p.length := by omega
                  rw [rd_k q, hp i hi3, List.getD_eq_getElem?_getD, List.getD_eq_getElem?_getD, List.getElem?_append_left hi3]
              have hF' : FrF I J (uI M 105 p.length (nI (30 - f))) J := hF.u (Or.inr (Or.inl rfl))
              have hv' : (v5 - y4).toInt = l - pt (30 - f) := tl_sub hv hy4 (by omega)
              have eall : rsP p (rws (SB A b) (f + 1) (m + 1) l) = rsP (p ++ [30 - f]) (rws (SB A b) f m (l - pt (30 - f))) ++ rsP p (rws (SB A b) f (m + 1) l) := by
                rw [rws_s, if_pos hS, rsP_app, rsP_cons]
              rw [eall, rfRun_app] at hQ
              refine ih f (p ++ [30 - f]) (l - pt (30 - f)) (v5 - y4) s d _ _ hv' (by omega) (by omega) (by omega) hm2 h' hp' (by omega) (fun I2 a b2 c => ?_)
              have hp2 : RfP p I2 := fun i hi2 => by
                have hb2 := b2 i (by omega)
                rw [hb2, List.getD_eq_getElem?_getD, List.getD_eq_getElem?_getD, List.getElem?_append_left hi2]
              refine ihf _ I2 (by omega) a hp2 (hF'.tr c) ?_ hQ
              rw [rfRun_n]
              unfold rsP
              rw [List.length_map]
              omega
            · rw [lg_cmp_le] at c3
              have lt3 := cl_nle hy3 hv c3
              refine go ?_
              rw [rws_s, if_pos hS]
              have e0 : rws (SB A b) f m (l - pt (30 - f)) = [] := by
                cases m with
                | zero => rw [rws_0, if_neg (by omega)]
                | succ m => exact rws_np f m _ (by omega) (by omega)
              rw [e0]; rfl
          · refine go ?_
            have hS : ¬ SB A b (30 - f) = true := by unfold SB; rw [hi, Bool.false_and]; exact Bool.false_ne_true
            rw [rws_s, if_neg hS]; rfl
    exact L94 f s I hf h hp FrW.rf hn hQ
end CRR
end PT8x9
section PT8x10
/-! ===== rows looked for, on both sides ===== -/
theorem rws_congr {S S2 : Nat → Bool} : ∀ (f k : Nat) (l : Int), f ≤ 30 → (∀ x, 31 - f ≤ x → x ≤ 30 → S x = S2 x) → rws S f k l = rws S2 f k l := by
  intro f
  induction f with
  | zero => intro k l _ _; cases k <;> rfl
  | succ f ih =>
    intro k l hf hS
    cases k with
    | zero => rw [rws_0, rws_0]
    | succ k => rw [rws_s, rws_s, ih k _ (by omega) (fun x h1 h2 => hS x (by omega) h2), ih (k + 1) l (by omega) (fun x h1 h2 => hS x (by omega) h2), hS (30 - f) (by omega) (by omega)]
theorem rws_SB {A : Int32} {k : Nat} {l : Int} : rws (SB A 31) 30 k l = rws (SA A) 30 k l :=
  rws_congr 30 k l (by decide) (fun x _ h2 => by unfold SB SA; rw [decide_eq_true (by omega), Bool.and_true])
section RWL
variable {I : Im} {J : Jm} {R : Rm} {Q : Qt}
/-! the reference -/
theorem px_laysRows {A : Int32} {b z d : Nat} {v3 : Int64} {l : Int} (hA : 0 ≤ A.toInt) (hb : b ≤ 31) (h5 : z ≤ 5) (hv : v3.toInt = l) (hl : -1000000000000000 ≤ l ∧ l ≤ 1000000000000000) (hQ : ∀ I2, RfI (rfRun (rws (SB A b) 30 z l) (0, [], fun _ => 0)) I2 → FrF I J I2 J → Q (bl (!(rws (SB A b) 30 z l).isEmpty)) 0 I2 J R) : AM (d + z + 3) 272 112 [.ref 97, .int (nI z), .int (nI b), .long v3, .int A] I J R Q := by
  refine am_X12_laysRows (fun P hc => sg_X12_laysRows_0 hc _ _ _ _ _ _ _ ?_)
  have hlen : (rws (SB A b) 30 z l).length ≤ 2 ^ 30 := rws_len 30 z l
  have h31 : (2 : Nat) ^ 30 < 2 ^ 31 := by decide
  have L8 : ∀ (t : Nat) (M : Im), t ≤ 31 → FrF I J M J → M 97 31 = 0 → (∀ k, k < 31 - t → M 107 k = 0) → P 8 112 [(0, .ref 97), (1, .int (nI z)), (2, .int (nI b)), (3, .long v3), (5, .int A), (6, .int (nI (31 - t)))] [] M J R := by
    intro t
    induction t with
    | zero =>
      intro M ht hF h31' h7
      refine sg_X12_laysRows_8 hc _ _ _ _ _ _ _ _ ⟨fun _ => ?_, fun c => absurd ((nlt_nI (a := 30) (b := 31 - 0) (by omega) (by omega)).mpr (by omega)) c⟩
      refine px_rrows (A := A) (b := b) (z := z) hA hb h5 z 30 [] l v3 (0, [], fun _ => 0) d M _ hv hl (Nat.zero_add z) (by decide) (fun x hx => absurd hx List.not_mem_nil) ⟨h31', fun i hi => absurd hi (Nat.not_lt_zero _), fun k hk => h7 k (by omega)⟩ (fun i hi => absurd hi (Nat.not_lt_zero _)) (by show 0 + (rws (SB A b) 30 z l).length ≤ 2 ^ 30; omega) (fun I2 a _ c => ?_)
      rw [rsP_0] at a
      have key := hQ I2 a (hF.tr c)
      have e31 : I2 97 31 = nI (rws (SB A b) 30 z l).length := by rw [a.1, rfRun_n]; exact congrArg nI (Nat.zero_add _)
      have et : (I2 97 31).toInt = ((rws (SB A b) 30 z l).length : Int) := by rw [e31]; exact nI_toInt (by omega)
      refine ⟨fun c1 => ⟨Or.inl rfl, ?_⟩, fun c1 => ⟨Or.inr rfl, ?_⟩⟩
      · rw [Int32.le_iff_toInt_le, et, show (0 : Int32).toInt = 0 from rfl] at c1
        have e0 : rws (SB A b) 30 z l = [] := List.eq_nil_of_length_eq_zero (by omega)
        rw [e0] at key; exact key
      · rw [Int32.le_iff_toInt_le, et, show (0 : Int32).toInt = 0 from rfl] at c1
        cases q : rws (SB A b) 30 z l with
        | nil => rw [q] at c1; exact absurd (Int.le_refl 0) c1
        | cons r rs => rw [q] at key; exact key
    | succ t ih =>
      intro M ht hF h31' h7
      have ed : 31 - (t + 1) = 30 - t := by omega
      rw [ed]
      refine sg_X12_laysRows_8 hc _ _ _ _ _ _ _ _ ⟨fun c => absurd ((nlt_nI (a := 30) (by omega) (by omega)).mp c) (by omega), fun _ => ⟨vp_nI (by omega) (by omega), ?_⟩⟩
      rw [tn_nI (by omega), show nI (30 - t) + 1 = nI (31 - t) from by rw [nI_k1]; exact congrArg nI (by omega)]
      refine ih _ (by omega) (hF.u (Or.inr (Or.inr (Or.inr rfl)))) ((rd_ne (by decide)).trans h31') (fun k hk => ?_)
      by_cases q : k = 30 - t
      · subst q; exact rd_eq
      · rw [rd_k q]; exact h7 k (by omega)
  exact L8 31 _ (by decide) (FrW.rf.u (Or.inl ⟨rfl, rfl⟩)) rd_eq (fun k hk => absurd hk (Nat.not_lt_zero _))
/-! the class -/
theorem px_fill0 {d : Nat} (hQ : ∀ (x : Int32) (y : Int64) (I2 : Im), (∀ i, ¬ i = 38 → I2 i = I i) → (∀ k, k < 31 → I2 38 k = 0) → Q x y I2 J R) : AM (d + 1) 321 112 [.ref 38, .int 0] I J R Q := by
  refine am_J7_fill_53178 (fun P hc => ?_)
  have e31 : Int32.ofNat (aL 38) = nI 31 := rfl
  have ha : isA 112 38 0 = true := rfl
  have L : ∀ (t : Nat) (M : Im), t ≤ 31 → (∀ i, ¬ i = 38 → M i = I i) → (∀ k, k < 31 - t → M 38 k = 0) → P 5 112 [(0, .ref 38), (1, .int 0), (2, .int (nI (31 - t))), (3, .int (Int32.ofNat (aL 38)))] [] M J R := by
    intro t
    induction t with
    | zero =>
      intro M ht h1 h2
      refine sg_J7_fill_53178_5 hc _ _ _ _ _ _ _ ⟨fun _ => hQ _ _ M h1 h2, fun c => ?_⟩
      rw [e31] at c
      exact absurd ((nle_nI (a := 31) (b := 31 - 0) (by omega) (by omega)).mpr (by omega)) c
    | succ t ih =>
      intro M ht h1 h2
      have ed : 31 - (t + 1) = 30 - t := by omega
      rw [ed]
      refine sg_J7_fill_53178_5 hc _ _ _ _ _ _ _ ⟨fun c => ?_, fun c => ?_⟩
      · rw [e31] at c
        exact absurd ((nle_nI (a := 31) (b := 30 - t) (by omega) (by omega)).mp c) (by omega)
      · refine bif_t ha ⟨vp_nI (by omega) (by show 30 - t < 31; omega), ?_⟩
        rw [tn_nI (by omega), show nI (30 - t) + 1 = nI (31 - t) from by rw [nI_k1]; exact congrArg nI (by omega)]
        refine ih _ (by omega) (fun i hi => (uI_ne hi).trans (h1 i hi)) (fun k hk => ?_)
        by_cases q : k = 30 - t
        · subst q; exact rd_eq
        · rw [rd_k q]; exact h2 k (by omega)
  refine sg_J7_fill_53178_0 hc _ _ _ _ _ ?_
  refine bif_tF ha ?_
  exact L 31 I (by decide) (fun _ _ => rfl) (fun k hk => absurd hk (Nat.not_lt_zero _))
noncomputable def s0R : RwS := (31, [], 0, fun _ => 0)
theorem px_begin {g d : Nat} {A : Int32} (hg : g ≤ 2) (hQ : ∀ (I2 : Im), (∀ z, RwI g A z s0R (uI I2 35 2 (nI z))) → FrO I J I2 J → Q 0 0 I2 J R) : AM (d + 2) 75 112 [.ref 35, .int (nI g), .int A] I J R Q := by
  refine w_X7_begin (px_fill0 (fun x y I2 h1 h2 => hQ I2 (fun z => ?_) ?_))
  · have e35 := h1 35 (by decide)
    refine ⟨?_, fun d a b => ?_, rd_eq, ?_, fun i hi => absurd hi (Nat.not_lt_zero _), ?_, fun d hd => ?_, Or.inr rfl, hg⟩
    · rw [rd_k (by decide), e35, rd_k (by decide), rd_k (by decide), rd_k (by decide), rd_eq]
    · rw [rd_k (by decide), e35, rd_k (by decide), rd_k (by decide), rd_eq]
      show inS A (nI d) = (SA A d && decide (d < 31))
      rw [decide_eq_true (by omega), Bool.and_true]; rfl
    · rw [rd_k (by decide), e35, rd_k (by decide), rd_eq]; rfl
    · rw [rd_k (by decide), e35, rd_eq]; rfl
    · rw [rd_ne (by decide)]
      exact h2 d (by omega)
  · have hF : FrO I J (uI (uI (uI (uI I 35 0 (nI g)) 35 1 A) 35 5 0) 35 6 0) J := (((FrW.rf.u (Or.inl rfl)).u (Or.inl rfl)).u (Or.inl rfl)).u (Or.inl rfl)
    exact ⟨fun o k q => (congrFun (h1 o (fun z => q (Or.inr (Or.inr (Or.inr z))))) k).trans (hF.1 o k q), fun _ _ _ => rfl⟩
theorem px_seekRows {g k d : Nat} {A : Int32} {s : RwS} {v : Int64} {l : Int} (hk : k + 1 ≤ 5) (hv : v.toInt = l) (hl : -1000000000000000 ≤ l ∧ l ≤ 1000000000000000) (h : RwI g A (k + 1) s (uI I 35 2 (nI (k + 1)))) (hQ : ∀ I2, RwI g A (k + 1) (rwRun g (rws (SA A) 30 (k + 1) l) s).1 I2 → FrO I J I2 J → Q (bl (rwRun g (rws (SA A) 30 (k + 1) l) s).2) 0 I2 J R) : AM (d + k + 5) 79 112 [.ref 35, .int (nI (k + 1)), .long v] I J R Q := by
  have e0 : ([] : List Nat).length + (k + 1) = k + 1 := Nat.zero_add _
  refine w_X7_seekRowsOf (px_seek (g := g) (A := A) k 30 [] l v s d _ _ hv hl (by rw [e0]; exact hk) (by decide) (fun x hx => absurd hx List.not_mem_nil) (by rw [e0]; exact h) (fun i hi => absurd hi (Nat.not_lt_zero _)) (fun I2 a _ c _ => ⟨bl_01, ?_⟩))
  rw [e0, rsP_0] at a
  rw [rsP_0]
  exact hQ I2 a ((FrW.rf.u (Or.inl rfl)).tr c)
end RWL
end PT8x10
