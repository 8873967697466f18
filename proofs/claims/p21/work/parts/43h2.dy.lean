/-! ===== the scribe reads days: a step's words ===== -/
/-- a code more -/
noncomputable def adI (M : Im) (p L : Nat) (c : CD) : Im := uI (uI (uI (uI (uI (uI M (p + 1) L c.1) (p + 2) L c.2.1) (p + 3) L c.2.2.1) (p + 4) L c.2.2.2) (p + 5) L (nI L)) p 2 (nI (L + 1))
theorem adI_o {M : Im} {p L c : Nat} {x : CD} (h : ¬ (p ≤ c ∧ c ≤ p + 5)) : adI M p L x c = M c := by
  unfold adI
  rw [uI_ne (by omega), uI_ne (by omega), uI_ne (by omega), uI_ne (by omega), uI_ne (by omega), uI_ne (by omega)]
section DYD
variable {T : Nat → Int32} {e a d : Nat} {N : Nat → Int64} {I : Im} {J : Jm} {R : Rm} {Q : Qt} {p L M : Nat}
theorem Rd.ad {x : CD} (h : Rd T e a I J) (hp : 9 ≤ p) : Rd T e a (adI I p L x) J :=
  h.o (adI_o (by omega)) (adI_o (by omega)) rfl rfl
theorem px_ad {k x y z : Int32} (hO : isO 112 p 2 = true) (hL : L < 60) (e0 : I p 2 = nI L) (hQ : Q 1 0 (adI I p L (k, x, y, z)) J R) : AM (d + 1) 30 112 [.ref p, .int k, .int x, .int y, .int z] I J R (fun x4 _ I4 J4 _ => (x4 = 0 ∨ x4 = 1) → ((x4 = (0 : Int32) → (((0 : Int32) = 0 ∨ (0 : Int32) = 1) ∧ Q 0 0 I4 J4 R)) ∧ (¬ x4 = (0 : Int32) → (((1 : Int32) = 0 ∨ (1 : Int32) = 1) ∧ Q 1 0 I4 J4 R)))) :=
  px_addD hO hL e0 (fun _ => ⟨fun c => absurd c (by decide), fun _ => ⟨Or.inr rfl, hQ⟩⟩)
theorem n1_1 {v : Int32} (h : (1 : Int32) ≤ v) : ¬ v = -1 := fun z => by rw [z] at h; exact absurd h (by decide)
theorem n1_2 {v : Int32} (h : (2 : Int32) ≤ v) : ¬ v = -1 := fun z => by rw [z] at h; exact absurd h (by decide)
theorem n1_0 {v : Int32} (h : (0 : Int32) ≤ v) : ¬ v = -1 := fun z => by rw [z] at h; exact absurd h (by decide)
theorem e0_fr {I2 : Im} {J2 : Jm} (hp : 9 ≤ p) (e0 : I p 2 = nI L) (hF : FrR I J I2 J2) : I2 p 2 = nI L := (hF.i (by intro q; have := q.1; omega)).trans e0
theorem px_cut (hO : isO 112 p 2 = true) (hL : L < 60) (e0 : I p 2 = nI L) (h : Rd T e a I J) (hE : ∀ q I2 J2, dyA T e N M 9 a = .error q → FrR I J I2 J2 → Ft q I2 → Q 0 0 I2 J2 R) (hK : ∀ c b I2 J2, dyA T e N M 9 a = .ok (c, b) → FrR I J I2 J2 → Rd T e b I2 J2 → Q 1 0 (adI I2 p L c) J2 R) : AM (d + 4) 37 112 [.ref p, .ref 3] I J R Q := by
  have hp := p_ge hO
  have e9 : dyA T e N M 9 a = rb (tkN T e 1 30 a) fun x b => rb (tkN T e 1 30 b) fun y b => rb (tkN T e 1 30 b) fun z b => .ok ((9, x, y, z), b) := rfl
  refine w_X3_readCut (px_num h (fun q I2 J2 hq hF hf => ⟨fun c => absurd rfl c, fun _ => ⟨fun c => absurd rfl c, fun _ => ⟨fun _ => ⟨Or.inl rfl, hE q I2 J2 (by rw [e9]; exact rb_e hq) hF hf⟩, fun c => absurd rfl c⟩⟩⟩) (fun x b I2 J2 hx l1 _ hF h2 _ => ⟨fun _ => px_num h2 (fun q I3 J3 hq hF3 hf => ⟨fun c => absurd rfl c, fun _ => ⟨fun _ => ⟨Or.inl rfl, hE q I3 J3 (by rw [e9, rb_k hx]; exact rb_e hq) (hF.tr hF3) hf⟩, fun c => absurd rfl c⟩⟩) (fun y b3 I3 J3 hy l2 _ hF3 h3 _ => ⟨fun _ => px_num h3 (fun q I4 J4 hq hF4 hf => ⟨fun _ => ⟨Or.inl rfl, hE q I4 J4 (by rw [e9, rb_k hx, rb_k hy]; exact rb_e hq) ((hF.tr hF3).tr hF4) hf⟩, fun c => absurd rfl c⟩) (fun z b4 I4 J4 hz l3 _ hF4 h4 _ => ⟨fun c => absurd c (n1_1 l3), fun _ => bif_t hO (px_ad hO hL (e0_fr (by omega) e0 ((hF.tr hF3).tr hF4)) (hK (9, x, y, z) b4 I4 J4 (by rw [e9, rb_k hx, rb_k hy, rb_k hz]) ((hF.tr hF3).tr hF4) h4))⟩), fun c => absurd c (n1_1 l2)⟩), fun c => absurd c (n1_1 l1)⟩))
/-- behind a test's word and what it is of -/
noncomputable def dyT2 (T : Nat → Int32) (e : Nat) (v x : Int32) (b : Nat) : Rs CD := if v = 16 then .ok ((16, x, 0, 0), b) else rb (tkC T e b) fun y b => rb (tkN T e 0 99 b) fun z b => .ok ((v, x, y, z), b)
theorem px_ts {v x2 : Int32} {b : Nat} (hO : isO 112 p 2 = true) (hL : L < 60) (e0 : I p 2 = nI L) (h : Rd T e b I J) (hE : ∀ q I2 J2, dyT2 T e v x2 b = .error q → FrR I J I2 J2 → Ft q I2 → Q 0 0 I2 J2 R) (hK : ∀ c b2 I2 J2, dyT2 T e v x2 b = .ok (c, b2) → FrR I J I2 J2 → Rd T e b2 I2 J2 → Q 1 0 (adI I2 p L c) J2 R) :
    ((¬ v = 16 → (AM (d + 4) 71 112 [.ref 3] I J R (fun x3 y3 I3 J3 R3 => ((¬ x3 = (-1) → (AM (d + 4) 72 112 [.ref 3, .int 0, .int 99] I3 J3 R (fun x4 y4 I4 J4 R4 => ((x4 = (-1) → (((0 : Int32) = 0 ∨ (0 : Int32) = 1) ∧ Q 0 0 I4 J4 R)) ∧ (¬ x4 = (-1) → (bif isO 112 p 2 then AM (d + 4) 30 112 [.ref p, .int v, .int x2, .int x3, .int x4] I4 J4 R (fun x5 y5 I5 J5 R5 => (x5 = 0 ∨ x5 = 1) → ((x5 = (0 : Int32) → (((0 : Int32) = 0 ∨ (0 : Int32) = 1) ∧ Q 0 0 I5 J5 R)) ∧ (¬ x5 = (0 : Int32) → (((1 : Int32) = 0 ∨ (1 : Int32) = 1) ∧ Q 1 0 I5 J5 R)))) else False)))))) ∧ (x3 = (-1) → ((((-1) : Int32) = (-1) → (((0 : Int32) = 0 ∨ (0 : Int32) = 1) ∧ Q 0 0 I3 J3 R)) ∧ (¬ ((-1) : Int32) = (-1) → (bif isO 112 p 2 then AM (d + 4) 30 112 [.ref p, .int v, .int x2, .int x3, .int (-1)] I3 J3 R (fun x6 y6 I6 J6 R6 => (x6 = 0 ∨ x6 = 1) → ((x6 = (0 : Int32) → (((0 : Int32) = 0 ∨ (0 : Int32) = 1) ∧ Q 0 0 I6 J6 R)) ∧ (¬ x6 = (0 : Int32) → (((1 : Int32) = 0 ∨ (1 : Int32) = 1) ∧ Q 1 0 I6 J6 R)))) else False)))))))) ∧ (v = 16 → (bif isO 112 p 2 then AM (d + 4) 30 112 [.ref p, .int 16, .int x2, .int 0, .int 0] I J R (fun x7 y7 I7 J7 R7 => (x7 = 0 ∨ x7 = 1) → (((x7 : Int32) = 0 ∨ (x7 : Int32) = 1) ∧ Q x7 0 I7 J7 R)) else False))) := by
  have hp := p_ge hO
  refine ⟨fun c => px_cmp h (fun q I2 J2 hq hF hf => ⟨fun z => absurd rfl z, fun _ => ⟨fun _ => ⟨Or.inl rfl, hE q I2 J2 ?_ hF hf⟩, fun z => absurd rfl z⟩⟩) (fun y b2 I2 J2 hy n1 hF h2 => ⟨fun _ => px_num h2 (fun q I3 J3 hq hF3 hf => ⟨fun _ => ⟨Or.inl rfl, hE q I3 J3 ?_ (hF.tr hF3) hf⟩, fun z => absurd rfl z⟩) (fun z b3 I3 J3 hz l3 _ hF3 h3 _ => ⟨fun w => absurd w (n1_0 l3), fun _ => bif_t hO (px_ad hO hL (e0_fr (by omega) e0 (hF.tr hF3)) (hK (v, x2, y, z) b3 I3 J3 ?_ (hF.tr hF3) h3))⟩), fun w => absurd w n1⟩), fun c => bif_t hO (px_addD hO hL e0 (fun _ => ⟨Or.inr rfl, hK (16, x2, 0, 0) b I J ?_ FrW.rf h⟩))⟩
  · unfold dyT2; rw [if_neg c]; exact rb_e hq
  · unfold dyT2; rw [if_neg c, rb_k hy]; exact rb_e hq
  · unfold dyT2; rw [if_neg c, rb_k hy, rb_k hz]
  · unfold dyT2; rw [if_pos c]
theorem px_test {o : Nat} (hO : isO 112 p 2 = true) (hN : isO 112 o 0 = true) (hm : MnA N M o I J) (hL : L < 60) (e0 : I p 2 = nI L) (h : Rd T e a I J) (hE : ∀ q I2 J2, dyT T e N M a = .error q → FrR I J I2 J2 → Ft q I2 → Q 0 0 I2 J2 R) (hK : ∀ c b I2 J2, dyT T e N M a = .ok (c, b) → FrR I J I2 J2 → Rd T e b I2 J2 → Q 1 0 (adI I2 p L c) J2 R) : AM (d + 5) 38 112 [.ref p, .ref o, .ref 3] I J R Q := by
  have hp := p_ge hO
  have ho := o_ge hN
  have eT : dyT T e N M a = if isTs (tI (tok T e a)) = true then rb (if tI (tok T e a) = 17 then tkN T e 1 30 (tB (tok T e a)) else tkH T e N M (tB (tok T e a))) (fun x b => dyT2 T e (tI (tok T e a)) x b) else .error (mis T e a) := rfl
  refine am_X3_readTest (fun P hc => sg_X3_readTest_0 hc _ _ _ _ _ ?_)
  rw [h.w]
  generalize tI (tok T e a) = i at eT
  have S : isTs i = true → P 28 112 [(0, .ref p), (1, .ref o), (2, .ref 3), (3, .int i)] [] I J R := fun hi => by
    rw [if_pos hi] at eT
    refine sg_X3_readTest_28 hc _ _ _ _ _ _ (px_any h (fun I1 J1 hF1 h1 _ _ => ⟨fun c17 => ?_, fun c17 => ?_⟩))
    · rw [if_neg c17] at eT
      refine px_man hN (hm.fr ho hF1) h1 (fun q I2 J2 hq hF hf => ⟨fun z => absurd rfl z, fun _ => ⟨Or.inl rfl, hE q I2 J2 (by rw [eT]; exact rb_e hq) (hF1.tr hF) hf⟩⟩) (fun x b I2 J2 hx n1 hF h2 => ⟨fun _ => ?_, fun z => absurd z n1⟩)
      have eX : dyT T e N M a = dyT2 T e i x b := by rw [eT, rb_k hx]
      exact px_ts hO hL (e0_fr (by omega) e0 (hF1.tr hF)) h2 (fun q I3 J3 hq hF3 hf => hE q I3 J3 (by rw [eX]; exact hq) ((hF1.tr hF).tr hF3) hf) (fun c b3 I3 J3 hq hF3 h3 => hK c b3 I3 J3 (by rw [eX]; exact hq) ((hF1.tr hF).tr hF3) h3)
    · rw [if_pos c17] at eT
      refine px_num h1 (fun q I2 J2 hq hF hf => ⟨fun z => absurd rfl z, fun _ => ⟨Or.inl rfl, hE q I2 J2 (by rw [eT]; exact rb_e hq) (hF1.tr hF) hf⟩⟩) (fun x b I2 J2 hx l1 _ hF h2 _ => ⟨fun _ => ?_, fun z => absurd z (n1_1 l1)⟩)
      have eX : dyT T e N M a = dyT2 T e i x b := by rw [eT, rb_k hx]
      exact px_ts hO hL (e0_fr (by omega) e0 (hF1.tr hF)) h2 (fun q I3 J3 hq hF3 hf => hE q I3 J3 (by rw [eX]; exact hq) ((hF1.tr hF).tr hF3) hf) (fun c b3 I3 J3 hq hF3 h3 => hK c b3 I3 J3 (by rw [eX]; exact hq) ((hF1.tr hF).tr hF3) h3)
  refine ⟨fun c => S (by rw [c]; decide), fun c1 => ⟨fun c => S (by rw [c]; decide), fun c2 => ⟨fun c => S (by rw [c]; decide), fun c3 => px_mis h (fun I2 J2 hF hf _ => ⟨Or.inl rfl, hE _ I2 J2 ?_ hF hf⟩)⟩⟩⟩
  rw [eT, if_neg (fun z => ?_)]
  unfold isTs at z
  rw [Bool.or_eq_true, Bool.or_eq_true, beq_iff_eq, beq_iff_eq, beq_iff_eq] at z
  rcases z with z | z | z
  · exact c1 z
  · exact c2 z
  · exact c3 z
theorem px_act {o : Nat} {i : Int32} (hi : isSt i = true) (h15 : ¬ i = 15) (hO : isO 112 p 2 = true) (hN : isO 112 o 0 = true) (hm : MnA N M o I J) (hL : L < 60) (e0 : I p 2 = nI L) (h : Rd T e a I J) (hE : ∀ q I2 J2, dyA T e N M i a = .error q → FrR I J I2 J2 → Ft q I2 → Q 0 0 I2 J2 R) (hK : ∀ c b I2 J2, dyA T e N M i a = .ok (c, b) → FrR I J I2 J2 → Rd T e b I2 J2 → Q 1 0 (adI I2 p L c) J2 R) : AM (d + 5) 36 112 [.ref p, .ref o, .int i, .ref 3] I J R Q := by
  have hp := p_ge hO
  have ho := o_ge hN
  have bad : ∀ k : Int32, isSt k = false → ¬ i = k := fun k hk z => by rw [z, hk] at hi; exact absurd hi (by decide)
  have plain : ∀ k : Int32, dyA T e N M k a = .ok ((k, 0, 0, 0), a) → i = k → (bif isO 112 p 2 then AM (d + 4) 30 112 [.ref p, .int i, .int 0, .int 0, .int 0] I J R (fun x8 y8 I8 J8 R8 => (x8 = 0 ∨ x8 = 1) → (((x8 : Int32) = 0 ∨ (x8 : Int32) = 1) ∧ Q x8 0 I8 J8 R)) else False) := fun k hk z => by
    subst z
    exact bif_t hO (px_addD hO hL e0 (fun _ => ⟨Or.inr rfl, hK (i, 0, 0, 0) a I J hk FrW.rf h⟩))
  refine w_X3_readAct ⟨fun c => ?_, fun _ => ⟨fun c => ?_, fun _ => ⟨fun c => ?_, fun _ => ⟨fun c => ?_, fun _ => ⟨fun c => ?_, fun _ => ⟨fun c => plain 14 rfl c, fun _ => ⟨fun c => absurd c h15, fun _ => ⟨fun c => absurd c (bad 16 (by decide)), fun _ => ⟨fun c => absurd c (bad 17 (by decide)), fun _ => ⟨fun c => absurd c (bad 18 (by decide)), fun _ => ⟨fun c => ?_, fun _ => ?_⟩⟩⟩⟩⟩⟩⟩⟩⟩⟩⟩
  · subst c
    exact px_cut hO hL e0 h (fun q I2 J2 hq hF hf _ => ⟨Or.inl rfl, hE q I2 J2 hq hF hf⟩) (fun c b I2 J2 hq hF h2 _ => ⟨Or.inr rfl, hK c b I2 J2 hq hF h2⟩)
  · subst c
    have eA : dyA T e N M 10 a = rb (tkN T e 1 30 a) fun x b => rb (tkN T e 2 30 b) fun y b => .ok ((10, x, y, 0), b) := rfl
    exact px_num h (fun q I2 J2 hq hF hf => ⟨fun z => absurd rfl z, fun _ => ⟨fun _ => ⟨Or.inl rfl, hE q I2 J2 (by rw [eA]; exact rb_e hq) hF hf⟩, fun z => absurd rfl z⟩⟩) (fun x b I2 J2 hx l1 _ hF h2 _ => ⟨fun _ => px_num h2 (fun q I3 J3 hq hF3 hf => ⟨fun _ => ⟨Or.inl rfl, hE q I3 J3 (by rw [eA, rb_k hx]; exact rb_e hq) (hF.tr hF3) hf⟩, fun z => absurd rfl z⟩) (fun y b3 I3 J3 hy l2 _ hF3 h3 _ => ⟨fun z => absurd z (n1_2 l2), fun _ => bif_t hO (px_ad hO hL (e0_fr (by omega) e0 (hF.tr hF3)) (hK _ b3 I3 J3 (by rw [eA, rb_k hx, rb_k hy]) (hF.tr hF3) h3))⟩), fun z => absurd z (n1_1 l1)⟩)
  · subst c
    have eA : dyA T e N M 11 a = rb (tkH T e N M a) fun x b => rb (tkN T e 1 30 b) fun y b => .ok ((11, x, y, 0), b) := rfl
    exact px_man hN hm h (fun q I2 J2 hq hF hf => ⟨fun z => absurd rfl z, fun _ => ⟨fun _ => ⟨Or.inl rfl, hE q I2 J2 (by rw [eA]; exact rb_e hq) hF hf⟩, fun z => absurd rfl z⟩⟩) (fun x b I2 J2 hx n1 hF h2 => ⟨fun _ => px_num h2 (fun q I3 J3 hq hF3 hf => ⟨fun _ => ⟨Or.inl rfl, hE q I3 J3 (by rw [eA, rb_k hx]; exact rb_e hq) (hF.tr hF3) hf⟩, fun z => absurd rfl z⟩) (fun y b3 I3 J3 hy l2 _ hF3 h3 _ => ⟨fun z => absurd z (n1_1 l2), fun _ => bif_t hO (px_ad hO hL (e0_fr (by omega) e0 (hF.tr hF3)) (hK _ b3 I3 J3 (by rw [eA, rb_k hx, rb_k hy]) (hF.tr hF3) h3))⟩), fun z => absurd z n1⟩)
  · subst c
    have eA : dyA T e N M 12 a = rb (tkH T e N M a) fun x b => rb (tkN T e 1 30 b) fun y b => .ok ((12, x, y, 0), b) := rfl
    exact px_man hN hm h (fun q I2 J2 hq hF hf => ⟨fun z => absurd rfl z, fun _ => ⟨fun _ => ⟨Or.inl rfl, hE q I2 J2 (by rw [eA]; exact rb_e hq) hF hf⟩, fun z => absurd rfl z⟩⟩) (fun x b I2 J2 hx n1 hF h2 => ⟨fun _ => px_num h2 (fun q I3 J3 hq hF3 hf => ⟨fun _ => ⟨Or.inl rfl, hE q I3 J3 (by rw [eA, rb_k hx]; exact rb_e hq) (hF.tr hF3) hf⟩, fun z => absurd rfl z⟩) (fun y b3 I3 J3 hy l2 _ hF3 h3 _ => ⟨fun z => absurd z (n1_1 l2), fun _ => bif_t hO (px_ad hO hL (e0_fr (by omega) e0 (hF.tr hF3)) (hK _ b3 I3 J3 (by rw [eA, rb_k hx, rb_k hy]) (hF.tr hF3) h3))⟩), fun z => absurd z n1⟩)
  · subst c
    have eA : dyA T e N M 13 a = rb (tkN T e 1 9 a) fun x b => .ok ((13, x, 0, 0), b) := rfl
    exact px_num h (fun q I2 J2 hq hF hf => ⟨fun _ => ⟨Or.inl rfl, hE q I2 J2 (by rw [eA]; exact rb_e hq) hF hf⟩, fun z => absurd rfl z⟩) (fun x b I2 J2 hx l1 _ hF h2 _ => ⟨fun z => absurd z (n1_1 l1), fun _ => bif_t hO (px_ad hO hL (e0_fr (by omega) e0 hF) (hK _ b I2 J2 (by rw [eA, rb_k hx]) hF h2))⟩)
  · subst c
    have eA : dyA T e N M 19 a = rb (tkN T e 1 99 a) fun x b => .ok ((19, x, 0, 0), b) := rfl
    exact px_num h (fun q I2 J2 hq hF hf => ⟨fun _ => ⟨Or.inl rfl, hE q I2 J2 (by rw [eA]; exact rb_e hq) hF hf⟩, fun z => absurd rfl z⟩) (fun x b I2 J2 hx l1 _ hF h2 _ => ⟨fun z => absurd z (n1_1 l1), fun _ => bif_t hO (px_ad hO hL (e0_fr (by omega) e0 hF) (hK _ b I2 J2 (by rw [eA, rb_k hx]) hF h2))⟩)
  · refine plain i ?_ rfl
    unfold dyA
    rw [if_neg ?_, if_neg ?_, if_neg ?_, if_neg ?_, if_neg ?_, if_neg h15]
    all_goals first | assumption | (intro z; rcases z with z | z <;> contradiction)
end DYD
