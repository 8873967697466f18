/-! ===== fill(), fillAt(): what they answer ===== -/
theorem an_ge {a b : Int32} (h : 0 ≤ a.toInt) : 0 ≤ (a &&& b).toInt := by
  have e : (a &&& b).toBitVec.msb = (a.toBitVec.msb && b.toBitVec.msb) := by rw [Int32.toBitVec_and]; exact BitVec.msb_and
  have e1 : a.toBitVec.toInt = a.toInt := rfl
  have e2 : (a &&& b).toBitVec.toInt = (a &&& b).toInt := rfl
  have ea : a.toBitVec.msb = false := by rw [BitVec.msb_eq_toInt]; exact decide_eq_false (by omega)
  rw [ea, Bool.false_and, BitVec.msb_eq_toInt] at e
  have := of_decide_eq_false e
  omega
theorem fw0 {S : Nat → Bool} {l : Int} (h : 0 ≤ l) : fwR S l (6 - 0) 0 = fwC S l := by
  show fwR S l (5 + 1) 0 = _
  by_cases q : l = 0
  · subst q
    have e : rws S 30 0 0 = [] :: [] := rws_0.trans (if_pos rfl)
    rw [fwR_c e]
    exact (if_pos rfl).symm
  · rw [fwR_n (rws_0.trans (if_neg q)), fwC_pos (by omega)]
/-- what the store holds and a man has not -/
def gf9 (s : StS9) (k : Int32) : Int32 := stR s.1 30 0 &&& (s.2.1 (nn9 k) ^^^ (-1))
def fl9 (I : Im) (k : Int32) : Option (List Nat) := fwC (SA (gf9 (s9 I) k)) (lk9 (du9 I) (s9 I).2.1 (nn9 k))
def flX9 (I : Im) (v : Int32) : Int32 := if (0 : Int32) ≤ v ∧ v < I 102 0 then lnO (fl9 I v) else -1
def faX9 (I : Im) (v k : Int32) : Int32 := if (0 : Int32) ≤ v ∧ v < I 102 0 then atO k (fl9 I v) else -1
theorem lk_b {du : Du9} {hv : Nat → Int32} {k : Nat} (hs : sh (du k).1 (du k).2) : -1000000000000000 ≤ lk9 du hv k ∧ lk9 du hv k ≤ 1000000000000000 := by
  have b1 := shL_b hs
  have b2 := hvR_b (h := hv k) 30 0 (by decide) (by decide)
  unfold lk9
  omega
section W9F
variable {I I1 : Im} {J J1 : Jm} {R : Rm} {Q : Qt} {v w : Int32}
theorem px_give9 {d : Nat} (hR : RI R) (e0 : I (R 1 7) 4 = I 102 0) (h : W9 I R) (hk : (0 : Int32) ≤ v ∧ v < I (R 1 7) 4) (hQ : Q (gf9 (s9 I) v) 0 I J R) : AM (d + 3) 13 112 [.ref (R 1 7), .int v] I J R Q := by
  have hO := hR.now.1
  obtain ⟨a5, l5, -⟩ := fa_0_8 hO
  have hm := h.mm
  have hk2 := hk
  rw [e0] at hk2
  obtain ⟨nk, vk⟩ := mn_nn hk2 hm
  have e5 : I (R 1 7 + 5) (Int32.toNatClampNeg v) = (s9 I).2.1 (nn9 v) := (h.1.2.1.2.2.2 _ nk).2.2
  refine w_X0_giftsFor (bif_t hO (px_stockSet hO h.hs.1 (bif_t hO (bif_t a5 ⟨by rw [l5]; exact vk, ?_⟩))))
  rw [e5]
  exact hQ
theorem px_lack9 {d : Nat} (hR : RI R) (e0 : I (R 1 7) 4 = I 102 0) (h : W9 I R) (hk : (0 : Int32) ≤ v ∧ v < I (R 1 7) 4) (hQ : ∀ y : Int64, y.toInt = lk9 (du9 I) (s9 I).2.1 (nn9 v) → sh (du9 I (nn9 v)).1 (du9 I (nn9 v)).2 → Q 0 y I J R) : AM (d + 3) 11 112 [.ref (R 1 7), .int v] I J R Q := by
  have hO := hR.now.1
  have hs := h.hs
  have hm := h.mm
  have hk2 := hk
  rw [e0] at hk2
  obtain ⟨nk, -⟩ := mn_nn hk2 hm
  have hsh := (h.1.1.2.2 _ nk).1
  exact px_lacking hO hk (by rw [e0]; exact hm) hs.1 hs.2.2.2.2.1 hsh (fun y hy => hQ y hy hsh)
theorem cx_fill9 {d : Nat} (hR : RI R) (e0 : I (R 1 7) 4 = I 102 0) (h : W9 I R) : AM (d + 12) 138 112 [.ref 1, .int v] I J R (fun x _ _ _ _ => x = flX9 I v) := by
  have hO := hR.now.1
  refine w_X11_fill ⟨hR.now.2, bif_t hO (px_cMan9 hO (fun hk _ => ⟨fun _ => ⟨hR.now.2, bif_t hO (px_give9 hR e0 h hk ⟨hR.now.2, bif_t hO (px_lack9 hR e0 h hk (fun y hy hs => ?_))⟩)⟩, fun z => absurd z (by decide)⟩) (fun hk _ => ⟨fun z => absurd rfl z, fun _ => w_X11_refuse (if_neg (fun z => hk (by rw [e0]; exact z))).symm⟩))⟩
  have hk2 := hk
  rw [e0] at hk2
  have e1 : flX9 I v = lnO (fl9 I v) := if_pos hk2
  rw [e1]
  refine px_findFewest hy (lk_b hs) (fun I2 h2 c _ => ?_)
  show AM _ 153 112 [.ref 1, .int (bl (fl9 I v).isSome)] I2 J R (fun x _ _ _ _ => x = lnO (fl9 I v))
  cases o : fl9 I v with
  | none => exact w_X11_answerSize ⟨fun _ => w_X11_refuse rfl, fun z => absurd rfl z⟩
  | some r =>
    have e := (h2 r o).1
    exact w_X11_answerSize ⟨fun z => absurd (show (1 : Int32) = 0 from z) (by decide), fun _ => w_X11_answer e⟩
theorem cx_fillAt9 {d : Nat} (hR : RI R) (e0 : I (R 1 7) 4 = I 102 0) (h : W9 I R) : AM (d + 12) 139 112 [.ref 1, .int v, .int w] I J R (fun x _ _ _ _ => x = faX9 I v w) := by
  have hO := hR.now.1
  refine w_X11_fillAt ⟨hR.now.2, bif_t hO (px_cMan9 hO (fun hk _ => ⟨fun _ => ⟨hR.now.2, bif_t hO (px_give9 hR e0 h hk ⟨hR.now.2, bif_t hO (px_lack9 hR e0 h hk (fun y hy hs => ?_))⟩)⟩, fun z => absurd z (by decide)⟩) (fun hk _ => ⟨fun z => absurd rfl z, fun _ => w_X11_refuse (if_neg (fun z => hk (by rw [e0]; exact z))).symm⟩))⟩
  have hk2 := hk
  rw [e0] at hk2
  have e1 : faX9 I v w = atO w (fl9 I v) := if_pos hk2
  rw [e1]
  exact px_findFewest hy (lk_b hs) (fun I2 h2 c _ => px_answerSlice (o := fl9 I v) h2 (fun r => fwC_len) (fun I3 => rfl))
/-! the reference -/
theorem px_fillOf9 {d : Nat} (h : W9 I R) (b : I1 102 = I 102) (hk : (0 : Int32) ≤ v ∧ v < I 102 0) (hQ : ∀ I2, (∀ r, fl9 I v = some r → ∀ i, i < r.length → I2 106 i = nI (r.getD i 0)) → Q (lnO (fl9 I v)) 0 I2 J1 R) : AM (d + 11) 293 112 [.ref 97, .int v] I1 J1 R Q := by
  have hs := h.hs
  have hm := h.mm
  have hr : BkR (mnN (I 102)) (s9 I) I1 := by
    unfold BkR
    rw [b]
    exact hs.2.1
  have hd : DuR (mnN (I 102)) (du9 I) I1 := by
    unfold DuR
    rw [b]
    exact hs.2.2.2.2.2.1
  obtain ⟨nk, -⟩ := mn_nn hk hm
  obtain ⟨ik, vk, -⟩ := ix_hv hk hm
  obtain ⟨hsh, hh, -⟩ := h.1.1.2.2 _ nk
  have z0 : (0 : Int64).toInt = 0 := rfl
  refine w_X12_fillOf (px_lackOf hk hm hr hh hd hsh (fun y hy => ⟨fun c => ?_, fun c => ?_⟩))
  · rw [lg_cmp_ge] at c
    have l0 := cl_le z0 hy c
    refine px_heldSet hr ⟨vk, ?_⟩
    rw [ik, b]
    have hA : 0 ≤ (gf9 (s9 I) v).toInt := an_ge (stR_b (S := (s9 I).1) 30 0 (by decide) (by decide)).1
    refine px_fewestOf (A := gf9 (s9 I) v) (t := 0) hA hy (lk_b hsh) (by decide) (fun I4 h4 _ => ?_)
    rw [fw0 l0] at h4 ⊢
    exact hQ I4 h4
  · rw [lg_cmp_ge] at c
    have l0 := cl_nle z0 hy c
    have e : fl9 I v = none := by
      unfold fl9 fwC
      rw [if_neg (by omega), if_pos l0]
    rw [e] at hQ
    exact hQ I1 (fun r z => by cases z)
theorem fl9_5 {r : List Nat} (h : fl9 I v = some r) : r.length ≤ 5 := fwC_len h
theorem mx_fill9 {d : Nat} (h : W9 I R) (e : I1 102 = I 102) : AM (d + 12) 294 112 [.ref 97, .int v] I1 J1 R (fun x _ _ _ _ => x = flX9 I v) := by
  have b : uI (uI I1 97 1 0) 97 0 0 102 = I 102 := by rw [uI_ne (by decide), uI_ne (by decide)]; exact e
  have b0 : uI (uI I1 97 1 0) 97 0 0 102 0 = I 102 0 := congrFun b 0
  have hm := h.mm
  refine w_X12_fill (px_manAt (by rw [b0]; omega) (fun hk => ⟨fun _ => w_X12_refuse (if_neg (fun z => hk (by rw [b0]; exact z))).symm, fun z => absurd rfl z⟩) (fun hk => ⟨fun z => absurd z (by decide), fun _ => ?_⟩))
  rw [b0] at hk
  have e1 : flX9 I v = lnO (fl9 I v) := if_pos hk
  rw [e1]
  refine px_fillOf9 h b hk (fun I2 _ => w_X12_answer ⟨fun _ => rfl, fun c => w_X12_refuse ?_⟩)
  cases o : fl9 I v with
  | none => rfl
  | some r =>
    have hl := fl9_5 o
    have c2 : ¬ (0 : Int32) ≤ lnO (fl9 I v) := c
    rw [o] at c2
    exact absurd ((nle_nI (a := 0) (b := r.length) (by omega) (by omega)).mpr (Nat.zero_le _)) c2
theorem mx_fillAt9 {d : Nat} (h : W9 I R) (e : I1 102 = I 102) : AM (d + 12) 295 112 [.ref 97, .int v, .int w] I1 J1 R (fun x _ _ _ _ => x = faX9 I v w) := by
  have b : uI (uI I1 97 1 0) 97 0 0 102 = I 102 := by rw [uI_ne (by decide), uI_ne (by decide)]; exact e
  have b0 : uI (uI I1 97 1 0) 97 0 0 102 0 = I 102 0 := congrFun b 0
  have hm := h.mm
  refine w_X12_fillAt (px_manAt (by rw [b0]; omega) (fun hk => ⟨fun z => absurd rfl z, fun _ => w_X12_refuse (if_neg (fun z => hk (by rw [b0]; exact z))).symm⟩) (fun hk => ⟨fun _ => ?_, fun z => absurd z (by decide)⟩))
  rw [b0] at hk
  have e1 : faX9 I v w = atO w (fl9 I v) := if_pos hk
  rw [e1]
  refine px_fillOf9 h b hk (fun I2 h2 => ?_)
  have z0 : (0 : Int32).toInt = 0 := rfl
  cases o : fl9 I v with
  | none =>
    refine px_isInI (lo := 0) (hi := lnO none - 1) (fun l1 l2 _ => ?_) (fun _ _ => ⟨fun _ => w_X12_refuse rfl, fun z => absurd rfl z⟩)
    rw [le_i] at l1 l2
    have : (lnO none - 1 : Int32).toInt = -2 := rfl
    omega
  | some r =>
    have hl := fl9_5 o
    have e2 : (lnO (some r) - 1 : Int32).toInt = (r.length : Int) - 1 := ti_sub (nI_toInt (by omega)) (show (1 : Int32).toInt = 1 from rfl) (by omega)
    refine px_isInI (lo := 0) (hi := lnO (some r) - 1) (fun l1 l2 _ => ⟨fun z => absurd z (by decide), fun _ => ?_⟩) (fun n1 _ => ⟨fun _ => w_X12_refuse ?_, fun z => absurd rfl z⟩)
    · rw [le_i] at l1 l2
      have hk2 : 0 ≤ w.toInt ∧ w.toInt < r.length := by omega
      have hi : w.toNatClampNeg < r.length := by
        show w.toInt.toNat < r.length
        omega
      refine ⟨vp_of (a := w.toInt) rfl hk2.1 (by omega), ?_⟩
      rw [h2 r o _ hi, atO_y hk2]
    · rw [atO_n]
      intro hk2
      rcases n1 with n1 | n1
      · rw [Int32.lt_iff_toInt_lt] at n1; omega
      · rw [le_i] at n1; omega
end W9F
