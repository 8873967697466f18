/-! ===== ask(): which slice parts the rows the best ===== -/
theorem rws_cnt {S : Nat → Bool} : ∀ (f k : Nat) (l : Int) (r : List Nat), f ≤ 30 → r ∈ rws S f k l → ∀ d : Nat, r.count d ≤ 1 := by
  intro f
  induction f with
  | zero =>
    intro k l r hf h d
    cases k with
    | zero =>
      rw [rws_0] at h
      split at h
      · rw [List.mem_singleton.mp h]; exact Nat.zero_le _
      · cases h
    | succ k => cases h
  | succ f ih =>
    intro k l r hf h d
    cases k with
    | zero =>
      rw [rws_0] at h
      split at h
      · rw [List.mem_singleton.mp h]; exact Nat.zero_le _
      · cases h
    | succ k =>
      rw [rws_s] at h
      rcases List.mem_append.mp h with h | h
      · split at h
        · obtain ⟨r2, h2, rfl⟩ := List.mem_map.mp h
          have b := (rws_mem f k _ r2 (by omega) h2).2
          rw [List.count_cons]
          by_cases q : 30 - f = d
          · have z : r2.count d = 0 := List.count_eq_zero_of_not_mem (fun hd => by have := b d hd; omega)
            rw [z, if_pos (by rw [q, beq_self_eq_true])]
            exact Nat.le_refl _
          · rw [if_neg (by intro z; exact q (beq_iff_eq.mp z))]
            exact ih k _ r2 (by omega) h2 d
        · cases h
      · exact ih (k + 1) l r (by omega) h d
theorem cntR_le {d : Nat} : ∀ rs : List (List Nat), (∀ r, r ∈ rs → r.count d ≤ 1) → cntR rs d ≤ rs.length := by
  intro rs
  induction rs with
  | nil => intro _; exact Nat.le_refl _
  | cons r rs ih =>
    intro h
    have h1 := h r (List.mem_cons_self ..)
    have h2 := ih (fun r2 hr => h r2 (List.mem_cons_of_mem _ hr))
    rw [cntR_cons, List.length_cons]; omega
def moN (c w : Nat) : Nat := if w < c - w then c - w else w
theorem moN_le {c w : Nat} (h : w ≤ c) : moN c w ≤ c := by
  unfold moN
  split <;> omega
theorem moI {c w : Nat} (h : w ≤ c) (hc : c < 2 ^ 31) : (if (nI w : Int32) < (nI c - nI w) then (nI c - nI w) else nI w) = nI (moN c w) := by
  have e1 : (nI c).toInt = c := nI_toInt hc
  have e2 : (nI w).toInt = w := nI_toInt (by omega)
  have e3 : (nI c - nI w : Int32) = nI (c - w) := Int32.toInt_inj.mp (by rw [ti_sub e1 e2 (by omega), nI_toInt (by omega)]; omega)
  have e4 : (nI (c - w)).toInt = ((c - w : Nat) : Int) := nI_toInt (by omega)
  rw [e3]
  unfold moN
  by_cases q : w < c - w
  · rw [if_pos q, if_pos (by rw [Int32.lt_iff_toInt_lt, e2, e4]; omega)]
  · rw [if_neg q, if_neg (by rw [Int32.lt_iff_toInt_lt, e2, e4]; omega)]
def aqS (S : Nat → Bool) (w : Nat → Nat) (c d : Nat) (st : Option (Nat × Nat)) : Option (Nat × Nat) := if S d = true then (match st with
  | none => some (d, moN c (w d))
  | some p => if moN c (w d) < p.2 then some (d, moN c (w d)) else some p) else st
def aqR (S : Nat → Bool) (w : Nat → Nat) (c : Nat) : Nat → Option (Nat × Nat) → Option (Nat × Nat)
  | 0, st => st
  | f + 1, st => aqR S w c f (aqS S w c (30 - f) st)
def aqB : Option (Nat × Nat) → Int32
  | none => -1
  | some p => nI p.1
def aqM (c : Nat) : Option (Nat × Nat) → Nat
  | none => c
  | some p => p.2
def aqOk (c : Nat) : Option (Nat × Nat) → Prop
  | none => True
  | some p => p.1 ≤ 30 ∧ p.2 < c
theorem aqS_ok {S : Nat → Bool} {w : Nat → Nat} {c d : Nat} {st : Option (Nat × Nat)} (hd : d ≤ 30) (hw : w d ≤ c) (h : aqOk (c + 1) st) : aqOk (c + 1) (aqS S w c d st) := by
  have := moN_le hw
  unfold aqS
  split
  · cases st with
    | none => exact ⟨hd, by show moN c (w d) < c + 1; omega⟩
    | some p =>
      show aqOk (c + 1) (if moN c (w d) < p.2 then some (d, moN c (w d)) else some p)
      split
      · exact ⟨hd, by show moN c (w d) < c + 1; omega⟩
      · exact h
  · exact h
section AKS
variable {I : Im} {J : Jm} {R : Rm} {Q : Qt}
theorem px_bestQ {c d : Nat} {w : Nat → Nat} {K : Int32} (h6 : I 35 6 = nI c) (h8 : ∀ k : Nat, k ≤ 30 → I 38 k = nI (w k)) (hw : ∀ k, w k ≤ c) (hc30 : c ≤ 2 ^ 30) (hQ : Q (aqB (aqR (SA K) w c 30 none)) 0 I J R) : AM (d + 2) 81 112 [.ref 35, .int K] I J R Q := by
  have h31 : (2 : Nat) ^ 30 + 1 < 2 ^ 31 := by decide
  refine am_X7_bestQuestion (fun P hc => sg_X7_bestQuestion_0 hc _ _ _ _ ?_)
  have L12 : ∀ (f : Nat) (st : Option (Nat × Nat)), f ≤ 30 → aqOk (c + 1) st → Q (aqB (aqR (SA K) w c f st)) 0 I J R → P 12 112 [(0, .ref 35), (1, .int K), (2, .int (aqB st)), (3, .int (nI (aqM (c + 1) st))), (4, .int (nI (31 - f)))] [] I J R := by
    intro f
    induction f with
    | zero =>
      intro st hf ho hQ
      exact sg_X7_bestQuestion_12 hc _ _ _ _ _ _ _ ⟨fun _ => hQ, fun z => absurd ((nlt_nI (a := 30) (b := 31 - 0) (by omega) (by omega)).mpr (by omega)) z⟩
    | succ f ih =>
      intro st hf ho hQ
      have ed : 31 - (f + 1) = 30 - f := by omega
      have d1 : 30 - f ≤ 30 := by omega
      have hmo := moN_le (hw (30 - f))
      rw [ed]
      refine sg_X7_bestQuestion_12 hc _ _ _ _ _ _ _ ⟨fun z => absurd ((nlt_nI (a := 30) (by omega) (by omega)).mp z) (by omega), fun _ => ⟨vp_nI (by omega) (by omega), vp_nI (by omega) (by omega), ?_⟩⟩
      rw [tn_nI (by omega), h6, h8 _ d1, moI (hw _) (by omega), show nI (30 - f) + 1 = nI (31 - f) from by rw [nI_k1]; exact congrArg nI (by omega)]
      have ho2 := aqS_ok (S := SA K) d1 (hw (30 - f)) ho
      have key := ih (aqS (SA K) w c (30 - f) st) (by omega) ho2 hQ
      refine px_isIn (fun hi _ => ⟨fun z => absurd z (by decide), fun _ => ?_⟩) (fun hi _ => ⟨fun _ => ?_, fun z => absurd rfl z⟩)
      · have hS : SA K (30 - f) = true := hi
        unfold aqS at key
        rw [if_pos hS] at key
        cases st with
        | none =>
          refine ⟨fun z => ?_, fun _ => key⟩
          have z2 : nI (c + 1) ≤ nI (moN c (w (30 - f))) := z
          rw [le_i, nI_toInt (by omega), nI_toInt (by omega)] at z2
          omega
        | some p =>
          have k2 : P 12 112 [(0, .ref 35), (1, .int K), (2, .int (aqB (if moN c (w (30 - f)) < p.2 then some (30 - f, moN c (w (30 - f))) else some p))), (3, .int (nI (aqM (c + 1) (if moN c (w (30 - f)) < p.2 then some (30 - f, moN c (w (30 - f))) else some p)))), (4, .int (nI (31 - f)))] [] I J R := key
          have hp := ho.2
          refine ⟨fun z => ?_, fun z => ?_⟩
          · have z2 : nI p.2 ≤ nI (moN c (w (30 - f))) := z
            rw [le_i, nI_toInt (by omega), nI_toInt (by omega)] at z2
            rw [if_neg (by omega)] at k2
            exact k2
          · have z2 : ¬ nI p.2 ≤ nI (moN c (w (30 - f))) := z
            rw [le_i, nI_toInt (by omega), nI_toInt (by omega)] at z2
            rw [if_pos (by omega)] at k2
            exact k2
      · have hS : ¬ SA K (30 - f) = true := by
          have hi2 : SA K (30 - f) = false := hi
          rw [hi2]; exact Bool.false_ne_true
        unfold aqS at key
        rw [if_neg hS] at key
        exact key
  have e3 : I 35 6 + 1 = nI (c + 1) := by rw [h6, nI_k1]
  rw [e3]
  exact L12 30 none (by decide) trivial hQ
def akV (K p q k : Int32) : Int32 := if wyN K p q k < 2 then -1 else aqB (aqR (SA K) (cntR (rws (SA K) 30 k.toInt.toNat (shL p q))) (wyN K p q k) 30 none)
theorem cx_ask {d : Nat} {p q k : Int32} (hR : RI R) : AM (d + 12) 131 112 [.ref 1, .int p, .int q, .int k] I J R (fun x _ _ _ _ => Cs (sh p q ∧ rz k) (akV (I (R 1 7) 2) p q k) x) := by
  have hO := hR.now.1
  refine w_X11_ask (px_isShare (fun hs _ => ⟨fun z => absurd z (by decide), fun _ => px_isRowSize (fun hz _ => ⟨fun _ => ⟨hR.now.2, bif_t hO (px_crumbs hs (fun y hy => ?_))⟩, fun z => absurd z (by decide)⟩) (fun hz _ => ⟨fun z => absurd rfl z, fun _ => w_X11_refuse (Or.inr ⟨fun y => hz y.2, rfl⟩)⟩)⟩) (fun hs _ => ⟨fun _ => w_X11_refuse (Or.inr ⟨fun y => hs y.1, rfl⟩), fun z => absurd rfl z⟩))
  have hb := shL_b hs
  obtain ⟨n, ek, h5⟩ := rz_n hz
  have hkn : k.toInt.toNat = n + 1 := by rw [ek, nI_toInt (by omega)]; rfl
  have hwy : wyN (I (R 1 7) 2) p q k = (rws (SA (I (R 1 7) 2)) 30 (n + 1) (shL p q)).length := by unfold wyN; rw [hkn]
  have hlen : (rws (SA (I (R 1 7) 2)) 30 (n + 1) (shL p q)).length ≤ 2 ^ 30 := rws_len 30 (n + 1) _
  have h31 : (2 : Nat) ^ 30 < 2 ^ 31 := by decide
  have hv : akV (I (R 1 7) 2) p q k = if (rws (SA (I (R 1 7) 2)) 30 (n + 1) (shL p q)).length < 2 then -1 else aqB (aqR (SA (I (R 1 7) 2)) (cntR (rws (SA (I (R 1 7) 2)) 30 (n + 1) (shL p q))) (rws (SA (I (R 1 7) 2)) 30 (n + 1) (shL p q)).length 30 none) := by unfold akV; rw [hwy, hkn]
  subst ek
  refine px_countAll h5 hy (by omega) (fun I2 e6 e8 hF => ?_)
  have e2 : (2 : Int32).toInt = 2 := rfl
  have kn : I2 (R 1 7) 2 = I (R 1 7) 2 := hF.1 _ _ (fun z => by
    have := (isO_spec hO).2.2
    rcases z with z | z | z | z <;> rw [z] at this <;> exact absurd this (by decide))
  refine ⟨fun c => ⟨hR.now.2, bif_t hO ?_⟩, fun c => w_X11_refuse (Or.inl ⟨⟨hs, hz⟩, ?_⟩)⟩
  · rw [e6, le_i, e2, nI_toInt (by omega)] at c
    rw [kn]
    refine px_bestQ (K := I (R 1 7) 2) e6 e8 (fun z => cntR_le _ (fun r hr => rws_cnt 30 (n + 1) _ r (by decide) hr z)) hlen (w_X11_answer (Or.inl ⟨⟨hs, hz⟩, ?_⟩))
    rw [hv, if_neg (by omega)]
  · rw [e6, le_i, e2, nI_toInt (by omega)] at c
    rw [hv, if_pos (by omega)]
theorem mx_ask {d : Nat} {p q k : Int32} (hB : Bd I) : AM (d + 12) 279 112 [.ref 97, .int p, .int q, .int k] I J R (fun x _ _ _ _ => Cs (sh p q ∧ rz k) (akV (I 102 3) p q k) x) := by
  have e102 : uI (uI I 97 1 0) 97 0 0 102 = I 102 := (uI_ne (by decide)).trans (uI_ne (by decide))
  have t3 : Int32.toNatClampNeg 3 = 3 := rfl
  refine am_X12_ask (fun P hc => sg_X12_ask_0 hc _ _ _ _ _ _ (px_mShare (fun hs _ => ⟨fun z => absurd z (by decide), fun _ => px_isInI (lo := 1) (hi := 5) (fun l1 l2 _ => ⟨fun _ => px_shareOf hs (fun y hy => ⟨vp_of (a := 3) rfl (by decide) (by decide), ?_⟩), fun z => absurd z (by decide)⟩) (fun n1 _ => ⟨fun z => absurd rfl z, fun _ => w_X12_refuse (Or.inr ⟨fun y => n1.elim (fun a => ile.mpr y.2.1 a) (fun a => a y.2.2), rfl⟩)⟩)⟩) (fun hs _ => ⟨fun _ => w_X12_refuse (Or.inr ⟨fun y => hs y.1, rfl⟩), fun z => absurd rfl z⟩)))
  have hb := shL_b hs
  have hz : rz k := ⟨l1, l2⟩
  obtain ⟨n, ek, h5⟩ := rz_n hz
  have hA := Bd.known0 hB
  have hkn : k.toInt.toNat = n + 1 := by rw [ek, nI_toInt (by omega)]; rfl
  have hwy : wyN (I 102 3) p q k = (rws (SA (I 102 3)) 30 (n + 1) (shL p q)).length := by unfold wyN; rw [hkn]
  have hlen : (rws (SA (I 102 3)) 30 (n + 1) (shL p q)).length ≤ 2 ^ 30 := rws_len 30 (n + 1) _
  have h31 : (2 : Nat) ^ 30 < 2 ^ 31 := by decide
  have hv : akV (I 102 3) p q k = if (rws (SA (I 102 3)) 30 (n + 1) (shL p q)).length < 2 then -1 else aqB (aqR (SA (I 102 3)) (cntR (rws (SA (I 102 3)) 30 (n + 1) (shL p q))) (rws (SA (I 102 3)) 30 (n + 1) (shL p q)).length 30 none) := by unfold akV; rw [hwy, hkn]
  have hw : ∀ z, cntR (rws (SA (I 102 3)) 30 (n + 1) (shL p q)) z ≤ (rws (SA (I 102 3)) 30 (n + 1) (shL p q)).length := fun z => cntR_le _ (fun r hr => rws_cnt 30 (n + 1) _ r (by decide) hr z)
  rw [t3, e102]
  subst ek
  have e11 : d + 11 = (d + (7 - n)) + (n + 1) + 3 := by omega
  rw [e11]
  refine px_laysRows (b := 31) hA (by decide) h5 hy (by omega) (fun I2 a hF _ => ?_)
  rw [rws_SB] at a
  have kn : I2 102 = I 102 := (hF.c (fun k z => by rcases z with ⟨z, -⟩ | z | z | z <;> exact absurd z (by decide))).trans e102
  have e6 : I2 97 31 = nI (rws (SA (I 102 3)) 30 (n + 1) (shL p q)).length := by rw [a.1, rfRun_n]; exact congrArg nI (Nat.zero_add _)
  have e8 : ∀ z : Nat, z ≤ 30 → I2 107 z = nI (cntR (rws (SA (I 102 3)) 30 (n + 1) (shL p q)) z) := fun z hz2 => by rw [a.2.2 z hz2, rfRun_o]; exact congrArg nI (Nat.zero_add _)
  generalize cntR (rws (SA (I 102 3)) 30 (n + 1) (shL p q)) = w at hv hw e8
  generalize (rws (SA (I 102 3)) 30 (n + 1) (shL p q)).length = c at hv hw e6 hlen
  have e2 : (2 : Int32).toInt = 2 := rfl
  refine ⟨fun c2 => ?_, fun c2 => w_X12_refuse (Or.inl ⟨⟨hs, hz⟩, ?_⟩)⟩
  · rw [e6, le_i, e2, nI_toInt (by omega)] at c2
    rw [if_neg (by omega)] at hv
    have L79 : ∀ (f : Nat) (st : Option (Nat × Nat)) (v5 : Int32), f ≤ 30 → aqOk (c + 1) st → (∀ p, st = some p → v5 = nI p.2) → aqB (aqR (SA (I 102 3)) w c f st) = akV (I 102 3) p q (nI (n + 1)) → P 79 112 [(0, .ref 97), (4, .int (aqB st)), (5, .int v5), (6, .int (nI (31 - f)))] [] I2 J R := by
      intro f
      induction f with
      | zero =>
        intro st v5 hf ho h5' hQ
        exact sg_X12_ask_79 hc _ _ _ _ _ _ ⟨fun _ => Or.inl ⟨⟨hs, hz⟩, hQ⟩, fun z => absurd ((nlt_nI (a := 30) (b := 31 - 0) (by omega) (by omega)).mpr (by omega)) z⟩
      | succ f ih =>
        intro st v5 hf ho h5' hQ
        have ed : 31 - (f + 1) = 30 - f := by omega
        have d1 : 30 - f ≤ 30 := by omega
        have d2 : 1 ≤ 30 - f := by omega
        have hmo := moN_le (hw (30 - f))
        rw [ed]
        refine sg_X12_ask_79 hc _ _ _ _ _ _ ⟨fun z => absurd ((nlt_nI (a := 30) (by omega) (by omega)).mp z) (by omega), fun _ => ⟨vp_nI (by omega) (by omega), vp_nI (by omega) (by omega), vp_of (a := 3) rfl (by decide) (by decide), ?_⟩⟩
        rw [tn_nI (by omega), t3, kn, e6, e8 _ d1, moI (hw _) (by omega), show nI (30 - f) + 1 = nI (31 - f) from by rw [nI_k1]; exact congrArg nI (by omega)]
        have ho2 := aqS_ok (S := SA (I 102 3)) d1 (hw (30 - f)) ho
        refine px_isOf hA ((nle_nI (a := 1) (by omega) (by omega)).mpr d2) ((nle_nI (b := 30) (by omega) (by omega)).mpr d1) (fun hi _ => ⟨fun z => absurd z (by decide), fun _ => ?_⟩) (fun hi _ => ⟨fun _ => ?_, fun z => absurd rfl z⟩)
        · have hS : SA (I 102 3) (30 - f) = true := hi
          have hQ2 : aqB (aqR (SA (I 102 3)) w c f (aqS (SA (I 102 3)) w c (30 - f) st)) = akV (I 102 3) p q (nI (n + 1)) := hQ
          cases st with
          | none =>
            have eS : aqS (SA (I 102 3)) w c (30 - f) none = some (30 - f, moN c (w (30 - f))) := if_pos hS
            rw [eS] at hQ2 ho2
            exact ⟨fun _ => ih _ _ (by omega) ho2 (fun p2 h2 => by rw [← Option.some.inj h2]) hQ2, fun z => absurd (show (-1 : Int32) < 0 by decide) z⟩
          | some pp =>
            have eS : aqS (SA (I 102 3)) w c (30 - f) (some pp) = if moN c (w (30 - f)) < pp.2 then some (30 - f, moN c (w (30 - f))) else some pp := if_pos hS
            rw [eS] at hQ2 ho2
            have e5 := h5' pp rfl
            have hp := ho.2
            refine ⟨fun z => ?_, fun _ => ⟨fun z => ?_, fun z => ?_⟩⟩
            · have z2 : nI pp.1 < 0 := z
              rw [Int32.lt_iff_toInt_lt, nI_toInt (by have := ho.1; omega), show (0 : Int32).toInt = 0 from rfl] at z2
              omega
            · rw [e5, Int32.lt_iff_toInt_lt, nI_toInt (by omega), nI_toInt (by omega)] at z
              rw [if_pos (by omega)] at hQ2 ho2
              exact ih _ _ (by omega) ho2 (fun p2 h2 => by rw [← Option.some.inj h2]) hQ2
            · rw [e5, Int32.lt_iff_toInt_lt, nI_toInt (by omega), nI_toInt (by omega)] at z
              rw [if_neg (by omega)] at hQ2 ho2
              exact ih _ _ (by omega) ho2 h5' hQ2
        · have hS : ¬ SA (I 102 3) (30 - f) = true := by
            have hi2 : SA (I 102 3) (30 - f) = false := hi
            rw [hi2]; exact Bool.false_ne_true
          have eS : aqS (SA (I 102 3)) w c (30 - f) st = st := if_neg hS
          have hQ2 : aqB (aqR (SA (I 102 3)) w c f (aqS (SA (I 102 3)) w c (30 - f) st)) = akV (I 102 3) p q (nI (n + 1)) := hQ
          rw [eS] at hQ2
          exact ih _ _ (by omega) ho h5' hQ2
    exact L79 30 none 0 (by decide) trivial (fun p2 h2 => by cases h2) hv.symm
  · rw [e6, le_i, e2, nI_toInt (by omega)] at c2
    rw [hv, if_pos (by omega)]
end AKS
theorem AkX_both {K K2 p q k x x2 : Int32} (e : K2 = K) (h : Cs (sh p q ∧ rz k) (akV K p q k) x) (h2 : Cs (sh p q ∧ rz k) (akV K2 p q k) x2) : x2 = x := by
  rw [e] at h2; exact h.eq h2
