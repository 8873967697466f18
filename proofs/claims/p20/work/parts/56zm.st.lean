/-! ===== many(), store(), man(): what they answer ===== -/
def stX9 (C : Nat → Int32) (v : Int32) : Int32 := if sq9 v then C (3 + nn9 v) else -1
def maX9 (C : Nat → Int32) (k w : Int32) : Int32 := if (0 : Int32) ≤ k ∧ k < C 0 then (if w = 0 then C (34 + nn9 k) else if w = 1 then C (40 + nn9 k) else if w = 2 then C (46 + nn9 k) else -1) else -1
def mnX9 (I : Im) (v : Int32) : Int32 := if v = 0 then I 102 0 else if v = 1 then pcR (s9 I).1 30 0 else if v = 2 then pcV (stR (s9 I).1 30 0) else if v = 3 then I 102 1 else if v = 4 then I 102 3 else if v = 5 then I 102 2 else if v = 6 then evR (du9 I) (s9 I).2.1 (mnN (I 102)) (mnN (I 102)) 0 else -1
theorem stR_b {S : Nat → Int32} : ∀ (f : Nat) (x : Int32), f ≤ 30 → 0 ≤ x.toInt ∧ x.toInt < 1073741824 → 0 ≤ (stR S f x).toInt ∧ (stR S f x).toInt < 1073741824 := by
  intro f
  induction f with
  | zero => intro x _ h; exact h
  | succ f ih =>
    intro x hf h
    show 0 ≤ (stR S f (if S (30 - f) ≤ 0 then x else x ||| biS (nI (30 - f)))).toInt ∧ (stR S f (if S (30 - f) ≤ 0 then x else x ||| biS (nI (30 - f)))).toInt < 1073741824
    split
    · exact ih x (by omega) h
    · exact ih _ (by omega) (bi_in h ((nle_nI (a := 1) (by omega) (by omega)).mpr (by omega)) ((nle_nI (b := 30) (by omega) (by omega)).mpr (by omega)))
section W9V
variable {I I1 : Im} {J J1 : Jm} {R : Rm} {v w : Int32}
theorem cx_store9 {d : Nat} (hR : RI R) (h : W9 I R) : AM (d + 2) 112 112 [.ref 1, .int v] I J R (fun x _ _ _ _ => x = stX9 (I 102) v) := by
  have hO := hR.now.1
  obtain ⟨a0, l0, -⟩ := fa_0_0 hO
  refine w_X11_store (px_sl9 (fun hd _ => ⟨fun _ => ⟨hR.now.2, bif_t hO (bif_t a0 ⟨by rw [l0]; exact sq_vp hd (by decide), w_X11_answer ?_⟩)⟩, fun z => absurd z (by decide)⟩) (fun hd _ => ⟨fun z => absurd rfl z, fun _ => w_X11_refuse (if_neg hd).symm⟩))
  obtain ⟨-, n1, n2⟩ := sq_nn hd
  exact (h.1.2.1.2.2.1 _ n1 n2).trans (if_pos hd).symm
theorem mx_store9 {d : Nat} (e : I1 102 = I 102) : AM (d + 4) 249 112 [.ref 97, .int v] I1 J1 R (fun x _ _ _ _ => x = stX9 (I 102) v) := by
  have b : uI (uI I1 97 1 0) 97 0 0 102 = I 102 := by rw [uI_ne (by decide), uI_ne (by decide)]; exact e
  refine w_X12_store (px_mSlQ (fun hd _ => ⟨fun z => absurd z (by decide), fun _ => ?_⟩) (fun hd _ => ⟨fun _ => w_X12_refuse (if_neg hd).symm, fun z => absurd rfl z⟩))
  have hd9 : sq9 v := hd
  obtain ⟨ix, vx⟩ := ix_st hd9
  refine ⟨vx, ?_⟩
  rw [ix, b]
  exact (if_pos hd9).symm
theorem cx_man9 {d : Nat} (hR : RI R) (e0 : I (R 1 7) 4 = I 102 0) (h : W9 I R) : AM (d + 2) 113 112 [.ref 1, .int v, .int w] I J R (fun x _ _ _ _ => x = maX9 (I 102) v w) := by
  have hO := hR.now.1
  obtain ⟨a3, l3, -⟩ := fa_0_6 hO
  obtain ⟨a4, l4, -⟩ := fa_0_7 hO
  obtain ⟨a5, l5, -⟩ := fa_0_8 hO
  have hm := h.mm
  refine w_X11_man ⟨hR.now.2, bif_t hO (px_cMan9 hO (fun hk _ => ⟨fun _ => ?_, fun z => absurd z (by decide)⟩) (fun hk _ => ⟨fun z => absurd rfl z, fun _ => w_X11_refuse (if_neg (fun z => hk (by rw [e0]; exact z))).symm⟩))⟩
  rw [e0] at hk
  obtain ⟨nk, vk⟩ := mn_nn hk hm
  obtain ⟨q1, q2, q3⟩ := h.1.2.1.2.2.2 _ nk
  have e1 : maX9 (I 102) v w = if w = 0 then I 102 (34 + nn9 v) else if w = 1 then I 102 (40 + nn9 v) else if w = 2 then I 102 (46 + nn9 v) else -1 := if_pos hk
  refine ⟨fun w0 => ⟨hR.now.2, bif_t hO (bif_t a3 ⟨by rw [l3]; exact vk, w_X11_answer ?_⟩)⟩, fun n0 => ⟨fun w1 => ⟨hR.now.2, bif_t hO (bif_t a4 ⟨by rw [l4]; exact vk, w_X11_answer ?_⟩)⟩, fun n1 => ⟨fun w2 => ⟨hR.now.2, bif_t hO (bif_t a5 ⟨by rw [l5]; exact vk, w_X11_answer ?_⟩)⟩, fun n2 => w_X11_refuse ?_⟩⟩⟩
  · rw [e1, if_pos w0]; exact q1
  · rw [e1, if_neg n0, if_pos w1]; exact q2
  · rw [e1, if_neg n0, if_neg n1, if_pos w2]; exact q3
  · rw [e1, if_neg n0, if_neg n1, if_neg n2]
theorem mx_man9 {d : Nat} (h : W9 I R) (e : I1 102 = I 102) : AM (d + 4) 250 112 [.ref 97, .int v, .int w] I1 J1 R (fun x _ _ _ _ => x = maX9 (I 102) v w) := by
  have b : uI (uI I1 97 1 0) 97 0 0 102 = I 102 := by rw [uI_ne (by decide), uI_ne (by decide)]; exact e
  have b0 : uI (uI I1 97 1 0) 97 0 0 102 0 = I 102 0 := congrFun b 0
  have hm := h.mm
  refine w_X12_man (px_manAt (by rw [b0]; omega) (fun hk => ⟨fun z => absurd rfl z, fun _ => w_X12_refuse (if_neg (fun z => hk (by rw [b0]; exact z))).symm⟩) (fun hk => ⟨fun _ => ?_, fun z => absurd z (by decide)⟩))
  rw [b0] at hk
  obtain ⟨nk, vk⟩ := mn_nn hk hm
  have e1 : maX9 (I 102) v w = if w = 0 then I 102 (34 + nn9 v) else if w = 1 then I 102 (40 + nn9 v) else if w = 2 then I 102 (46 + nn9 v) else -1 := if_pos hk
  have z0 : (0 : Int32).toInt = 0 := rfl
  have z1 : (1 : Int32).toInt = 1 := rfl
  have z2 : (2 : Int32).toInt = 2 := rfl
  have hk1 := hk.1
  have hk2 := hk.2
  rw [le_i] at hk1
  rw [Int32.lt_iff_toInt_lt] at hk2
  have en : nn9 v = v.toInt.toNat := rfl
  have ix : ∀ c : Nat, c ≤ 46 → Int32.toNatClampNeg (nI c + v) = c + nn9 v ∧ vp_in (nI c + v) 1620 := fun c hc => by
    have e2 : (nI c + v : Int32).toInt = (c : Int) + v.toInt := ti_add (nI_toInt (by omega)) rfl (by omega)
    have e3 : Int32.toNatClampNeg (nI c + v) = (nI c + v : Int32).toInt.toNat := rfl
    exact ⟨by rw [e3, e2]; omega, vp_of e2 (by omega) (by omega)⟩
  refine px_isInI (lo := 0) (hi := 2) (fun l1 l2 _ => ⟨fun z => absurd z (by decide), fun _ => ?_⟩) (fun m1 _ => ⟨fun _ => w_X12_refuse ?_, fun z => absurd rfl z⟩)
  · rw [le_i] at l1 l2
    rcases (show w.toInt = 0 ∨ w.toInt = 1 ∨ w.toInt = 2 by omega) with q | q | q
    · have k : w = 0 := Int32.toInt_inj.mp q
      subst k
      have s : (34 : Int32) + 6 * 0 = nI 34 := rfl
      rw [s, (ix 34 (by omega)).1, b, e1, if_pos rfl]
      exact ⟨(ix 34 (by omega)).2, rfl⟩
    · have k : w = 1 := Int32.toInt_inj.mp q
      subst k
      have s : (34 : Int32) + 6 * 1 = nI 40 := rfl
      rw [s, (ix 40 (by omega)).1, b, e1, if_neg (by decide), if_pos rfl]
      exact ⟨(ix 40 (by omega)).2, rfl⟩
    · have k : w = 2 := Int32.toInt_inj.mp q
      subst k
      have s : (34 : Int32) + 6 * 2 = nI 46 := rfl
      rw [s, (ix 46 (by omega)).1, b, e1, if_neg (by decide), if_neg (by decide), if_pos rfl]
      exact ⟨(ix 46 (by omega)).2, rfl⟩
  · have n : ∀ c : Int32, (0 : Int32) ≤ c → c ≤ 2 → ¬ w = c := fun c a1 a2 z => by
      subst z
      exact m1.elim (fun y => absurd y (ile.mpr a1)) (fun y => absurd a2 y)
    rw [e1, if_neg (n 0 (by decide) (by decide)), if_neg (n 1 (by decide) (by decide)), if_neg (n 2 (by decide) (by decide))]
theorem cx_many9 {d : Nat} (hR : RI R) (e0 : I (R 1 7) 4 = I 102 0) (e3 : I (R 1 7) 2 = I 102 3) (h : W9 I R) : AM (d + 5) 111 112 [.ref 1, .int v] I J R (fun x _ _ _ _ => x = mnX9 I v) := by
  have hO := hR.now.1
  have hs := h.hs
  obtain ⟨q1, q2, -⟩ := h.1
  have hm := q1.m
  refine w_X11_many ⟨fun k0 => ⟨hR.now.2, bif_t hO (w_X11_answer ?_)⟩, fun n0 => ⟨fun k1 => ⟨hR.now.2, bif_t hO (px_pieces hO hs.1 (w_X11_answer ?_))⟩, fun n1 => ⟨fun k2 => ⟨hR.now.2, bif_t hO (px_stockSet hO hs.1 (px_bc (by have := stR_b (S := (s9 I).1) 30 0 (by decide) (by decide); omega) (w_X11_answer ?_)))⟩, fun n2 => ⟨fun k3 => ⟨hR.now.2, bif_t hO (w_X11_answer ?_)⟩, fun n3 => ⟨fun k4 => ⟨hR.now.2, bif_t hO (w_X11_answer ?_)⟩, fun n4 => ⟨fun k5 => ⟨hR.now.2, bif_t hO (w_X11_answer ?_)⟩, fun n5 => ⟨fun k6 => ⟨hR.now.2, bif_t hO (px_evenMen hO hm.1 (e0.trans hm.2.1) hs.1 hs.2.2.2.2.1 (fun k hk => (q1.2.2 k hk).1) (w_X11_answer ?_))⟩, fun n6 => w_X11_refuse ?_⟩⟩⟩⟩⟩⟩⟩
  · exact e0.trans (if_pos k0).symm
  · exact ((if_neg n0).trans (if_pos k1)).symm
  · exact ((if_neg n0).trans ((if_neg n1).trans (if_pos k2))).symm
  · exact q2.1.trans ((if_neg n0).trans ((if_neg n1).trans ((if_neg n2).trans (if_pos k3)))).symm
  · exact e3.trans ((if_neg n0).trans ((if_neg n1).trans ((if_neg n2).trans ((if_neg n3).trans (if_pos k4))))).symm
  · exact q2.2.1.trans ((if_neg n0).trans ((if_neg n1).trans ((if_neg n2).trans ((if_neg n3).trans ((if_neg n4).trans (if_pos k5)))))).symm
  · exact ((if_neg n0).trans ((if_neg n1).trans ((if_neg n2).trans ((if_neg n3).trans ((if_neg n4).trans ((if_neg n5).trans (if_pos k6))))))).symm
  · exact ((if_neg n0).trans ((if_neg n1).trans ((if_neg n2).trans ((if_neg n3).trans ((if_neg n4).trans ((if_neg n5).trans (if_neg n6))))))).symm
theorem mx_many9 {d : Nat} (h : W9 I R) (e : I1 102 = I 102) : AM (d + 5) 248 112 [.ref 97, .int v] I1 J1 R (fun x _ _ _ _ => x = mnX9 I v) := by
  have b : uI (uI I1 97 1 0) 97 0 0 102 = I 102 := by rw [uI_ne (by decide), uI_ne (by decide)]; exact e
  have hs := h.hs
  obtain ⟨q1, q2, -⟩ := h.1
  have hm := q1.m
  have t0 : Int32.toNatClampNeg 0 = 0 := rfl
  have t1 : Int32.toNatClampNeg 1 = 1 := rfl
  have t2 : Int32.toNatClampNeg 2 = 2 := rfl
  have t3 : Int32.toNatClampNeg 3 = 3 := rfl
  have hr : BkR (mnN (I 102)) (s9 I) (uI (uI I1 97 1 0) 97 0 0) := by
    unfold BkR
    rw [b]
    exact hs.2.1
  have hd : DuR (mnN (I 102)) (du9 I) (uI (uI I1 97 1 0) 97 0 0) := by
    unfold DuR
    rw [b]
    exact hs.2.2.2.2.2.1
  have z0 : (0 : Int32).toInt = 0 := rfl
  have z6 : (6 : Int32).toInt = 6 := rfl
  refine w_X12_many (px_isInI (lo := 0) (hi := 6) (fun l1 l2 _ => ⟨fun _ => ?_, fun z => absurd z (by decide)⟩) (fun m1 _ => ⟨fun z => absurd rfl z, fun _ => w_X12_refuse ?_⟩))
  · rw [t0, t1, t2, t3, b]
    refine ⟨fun n0 => ⟨fun n1 => ⟨fun n2 => ⟨fun n3 => ⟨fun n4 => ⟨fun n5 => ?_, fun k5 => ⟨vp_of (a := 2) rfl (by decide) (by decide), ?_⟩⟩, fun k4 => ⟨vp_of (a := 3) rfl (by decide) (by decide), ?_⟩⟩, fun k3 => ⟨vp_of (a := 1) rfl (by decide) (by decide), ?_⟩⟩, fun k2 => px_heldSet hr (px_sizeOf ?_)⟩, fun k1 => px_held hr ?_⟩, fun k0 => ⟨vp_of (a := 0) rfl (by decide) (by decide), ?_⟩⟩
    · have k6 : v = 6 := by
        rw [le_i] at l1 l2
        have c0 : ¬ v.toInt = 0 := fun z => n0 (Int32.toInt_inj.mp z)
        have c1 : ¬ v.toInt = 1 := fun z => n1 (Int32.toInt_inj.mp z)
        have c2 : ¬ v.toInt = 2 := fun z => n2 (Int32.toInt_inj.mp z)
        have c3 : ¬ v.toInt = 3 := fun z => n3 (Int32.toInt_inj.mp z)
        have c4 : ¬ v.toInt = 4 := fun z => n4 (Int32.toInt_inj.mp z)
        have c5 : ¬ v.toInt = 5 := fun z => n5 (Int32.toInt_inj.mp z)
        exact Int32.toInt_inj.mp (by omega)
      refine px_evenOnes hm.1 ((congrFun b 0).trans hm.2.1) hr (fun k hk => (q1.2.2 k hk).2.1) hd (fun k hk => (q1.2.2 k hk).1) ?_
      exact ((if_neg n0).trans ((if_neg n1).trans ((if_neg n2).trans ((if_neg n3).trans ((if_neg n4).trans ((if_neg n5).trans (if_pos k6))))))).symm
    · exact ((if_neg n0).trans ((if_neg n1).trans ((if_neg n2).trans ((if_neg n3).trans ((if_neg n4).trans (if_pos k5)))))).symm
    · exact ((if_neg n0).trans ((if_neg n1).trans ((if_neg n2).trans ((if_neg n3).trans (if_pos k4))))).symm
    · exact ((if_neg n0).trans ((if_neg n1).trans ((if_neg n2).trans (if_pos k3)))).symm
    · exact ((if_neg n0).trans ((if_neg n1).trans (if_pos k2))).symm
    · exact ((if_neg n0).trans (if_pos k1)).symm
    · exact (if_pos k0).symm
  · have n : ∀ c : Int32, (0 : Int32) ≤ c → c ≤ 6 → ¬ v = c := fun c a1 a2 z => by
      subst z
      exact m1.elim (fun y => absurd y (ile.mpr a1)) (fun y => absurd a2 y)
    exact ((if_neg (n 0 (by decide) (by decide))).trans ((if_neg (n 1 (by decide) (by decide))).trans ((if_neg (n 2 (by decide) (by decide))).trans ((if_neg (n 3 (by decide) (by decide))).trans ((if_neg (n 4 (by decide) (by decide))).trans ((if_neg (n 5 (by decide) (by decide))).trans (if_neg (n 6 (by decide) (by decide))))))))).symm
end W9V
