noncomputable def dcp (g : Nat → Int32) (n : Int32) (k : Nat) : Nat → Int32 := fun j => if 54 ≤ j ∧ j < 54 + k then g (1296 + j) else if j = 52 then 1 else if j = 53 then n else g j
theorem dcp_in {g : Nat → Int32} {n : Int32} {k j : Nat} (h : 54 ≤ j ∧ j < 54 + k) : dcp g n k j = g (1296 + j) := if_pos h
theorem dcp_52 {g : Nat → Int32} {n : Int32} {k : Nat} : dcp g n k 52 = 1 := by unfold dcp; rw [if_neg (by omega), if_pos rfl]
theorem dcp_53 {g : Nat → Int32} {n : Int32} {k : Nat} : dcp g n k 53 = n := by unfold dcp; rw [if_neg (by omega), if_neg (by omega), if_pos rfl]
theorem dcp_o {g : Nat → Int32} {n : Int32} {k j : Nat} (h : j < 52 ∨ 54 + k ≤ j) : dcp g n k j = g j := by unfold dcp; rw [if_neg (by omega), if_neg (by omega), if_neg (by omega)]
theorem dcp_n {g : Nat → Int32} {n : Int32} {k : Nat} : upd (dcp g n k) (54 + k) (dcp g n k (1350 + k)) = dcp g n (k + 1) := by
  rw [dcp_o (j := 1350 + k) (by omega)]
  funext j
  by_cases q : j = 54 + k
  · subst q; rw [upd_s, dcp_in (j := 54 + k) (by omega)]; exact congrArg g (by omega)
  · rw [upd_i q]
    by_cases r : 54 ≤ j ∧ j < 54 + k
    · rw [dcp_in r, dcp_in (j := j) (by omega)]
    · by_cases r2 : j = 52
      · subst r2; rw [dcp_52, dcp_52]
      · by_cases r3 : j = 53
        · subst r3; rw [dcp_53, dcp_53]
        · rw [dcp_o (j := j) (by omega), dcp_o (j := j) (by omega)]
theorem dcp_0 {g : Nat → Int32} {n : Int32} : upd (upd g 52 1) 53 n = dcp g n 0 := by
  funext j
  by_cases r2 : j = 52
  · subst r2; rw [dcp_52, upd_i (by omega), upd_s]
  · by_cases r3 : j = 53
    · subst r3; rw [dcp_53, upd_s]
    · rw [dcp_o (j := j) (by omega), upd_i r3, upd_i r2]
theorem CK.dcpK {g : Nat → Int32} (h : CK g) {n : Int32} {k : Nat} (hn : 0 ≤ n.toInt ∧ n.toInt ≤ 30) (hN : NR g 0 n.toInt (g 0).toInt) (hk : (k : Int) = 9 * n.toInt) : CK (dcp g n k) := by
  refine ⟨fun j => ?_, fun c i hc hi => ?_, fun c s hc hd hs => ?_⟩
  · by_cases r : 54 ≤ j ∧ j < 54 + k
    · rw [dcp_in r]
      have q := h.1 (1296 + j)
      have e : (1296 + j) % 324 = j % 324 := by omega
      unfold CB at q ⊢
      rw [e] at q
      exact q
    · by_cases r2 : j = 52
      · subst r2; rw [dcp_52]; unfold CB; omega
      · by_cases r3 : j = 53
        · subst r3; rw [dcp_53]; unfold CB; omega
        · rw [dcp_o (j := j) (by omega)]; exact h.1 j
  · have h6 := (h.1 (324 * c)).1 (by omega)
    rw [dcp_o (j := 324 * c) (by omega)] at hi
    rw [dcp_o (j := 324 * c + 40 + i) (by omega)]
    exact h.2.1 c i hc hi
  · by_cases q : c = 0
    · subst q
      rw [show 324 * 0 + 53 = 53 from rfl, dcp_53] at hs
      have q := hN s (by omega) hs
      unfold NewOk at q
      unfold RecOk
      rw [show 324 * 0 + 53 = 53 from rfl, dcp_53, show 324 * 0 = 0 from rfl, dcp_o (j := 0) (by omega), dcp_in (j := 0 + 54 + 9 * s) (by omega), dcp_in (j := 0 + 54 + 9 * s + 1) (by omega), dcp_in (j := 0 + 54 + 9 * s + 2) (by omega), dcp_in (j := 0 + 54 + 9 * s + 3) (by omega), dcp_in (j := 0 + 54 + 9 * s + 5) (by omega), dcp_in (j := 0 + 54 + 9 * s + 8) (by omega)]
      rw [show 1296 + (0 + 54 + 9 * s) = 1350 + 9 * s by omega, show 1296 + (0 + 54 + 9 * s + 1) = 1350 + 9 * s + 1 by omega, show 1296 + (0 + 54 + 9 * s + 2) = 1350 + 9 * s + 2 by omega, show 1296 + (0 + 54 + 9 * s + 3) = 1350 + 9 * s + 3 by omega, show 1296 + (0 + 54 + 9 * s + 5) = 1350 + 9 * s + 5 by omega, show 1296 + (0 + 54 + 9 * s + 8) = 1350 + 9 * s + 8 by omega]
      exact q
    · have h6 := (h.1 (324 * c + 53)).2.2.1 (by omega)
      rw [dcp_o (j := 324 * c + 52) (by omega)] at hd
      rw [dcp_o (j := 324 * c + 53) (by omega)] at hs
      have q := h.2.2 c s hc hd hs
      unfold RecOk at q ⊢
      rw [dcp_o (j := 324 * c + 54 + 9 * s) (by omega), dcp_o (j := 324 * c + 54 + 9 * s + 1) (by omega), dcp_o (j := 324 * c + 54 + 9 * s + 2) (by omega), dcp_o (j := 324 * c + 54 + 9 * s + 3) (by omega), dcp_o (j := 324 * c + 54 + 9 * s + 5) (by omega), dcp_o (j := 324 * c + 54 + 9 * s + 8) (by omega), dcp_o (j := 324 * c + 53) (by omega), dcp_o (j := 324 * c) (by omega)]
      exact q
theorem dcp_K {f : Nat → Int32} {n : Int32} {k j : Nat} (hk : k ≤ 270) (hj : pK j) : dcp f n k j = f j := dcp_o (by unfold pK at hj; omega)
theorem sp_X12_days {d : Nat} {Q : Qt} {v1 : Int32} {I : Im} {J : Jm} {R : Rm} (hB0 : Bd I) (hR0 : RI R) (hQ : ∀ (x : Int32) (y : Int64) (I2 : Im) (J2 : Jm), Bd I2 → (Fr pK I I2 ∧ (((v1.toInt < 0 ∨ (I 97 8).toInt < v1.toInt ∨ 300 < v1.toInt) ∧ (I2 97 8).toInt = (I 97 8).toInt) ∨ (0 ≤ v1.toInt ∧ v1.toInt ≤ (I 97 8).toInt ∧ v1.toInt ≤ 300 ∧ (I2 97 8).toInt = 0))) → Q x y I2 J2 R) : AM (d + 20) 237 112 [.ref 97, .int v1] I J R Q := by
  refine am_X12_days (fun P hc => ?_)
  have T : (∀ (x : Int32) (y : Int64) (I2 : Im) (J2 : Jm), Bd I2 → (I2 97 8).toInt = 0 → Fr pK I I2 → Q x y I2 J2 R) → ∀ I1 : Im, Bd I1 → (I1 97 8).toInt = 0 → Fr pK I I1 → NR (I1 102) 0 (I1 97 27).toInt (I1 102 0).toInt → ∀ m k : Nat, ((k + m : Nat) : Int) = 9 * (I1 97 27).toInt → ∀ v2 : Int32, v2.toInt = k → ∀ J : Jm, P 80 112 [(0, .ref 97), (2, .int v2)] [] (sIm I1 (dcp (I1 102) (I1 97 27) k)) J R := by
    intro hQ0 I1 hB h8 hf hN m
    have hn := hB.n27
    have hm : (9 * (I1 97 27) : Int32).toInt = 9 * (I1 97 27).toInt := ti_mul rfl rfl (by omega)
    have e97 : ∀ g, sIm I1 g 97 = I1 97 := fun g => sIm_o (by decide)
    induction m with
    | zero =>
      intro k hk v2 h2 J
      refine sg_X12_days_80 hc _ _ _ _ ?_
      rw [e97]
      refine ⟨fun c => ?_, fun c => absurd (Int32.le_iff_toInt_le.mpr (by rw [hm, h2]; omega)) c⟩
      exact hQ0 _ _ _ _ (hB.sIm (hB.ck.dcpK hn hN (by omega))) (by rw [e97]; exact h8) ⟨fun j hj => (by rw [sIm_c, dcp_K (by omega) hj]; exact hf.1 j hj), (sIm_o (by decide)).trans hf.2⟩
    | succ m ih =>
      intro k hk v2 h2 J
      refine sg_X12_days_80 hc _ _ _ _ ?_
      rw [e97]
      refine ⟨fun c => absurd (Int32.le_iff_toInt_le.mp c) (by rw [hm, h2]; omega), fun c => ?_⟩
      have h1 : (1350 + v2 : Int32).toInt = 1350 + (k : Int) := ti_add rfl h2 (by omega)
      have h3 : (54 + v2 : Int32).toInt = 54 + (k : Int) := ti_add rfl h2 (by omega)
      have t1 := tn_of h1 (by omega)
      have t3 := tn_of h3 (by omega)
      refine ⟨vp_of h1 (by omega) (by omega), vp_of h3 (by omega) (by omega), ?_⟩
      rw [show Int32.toNatClampNeg (1350 + v2) = 1350 + k by omega, show Int32.toNatClampNeg (54 + v2) = 54 + k by omega, sIm_c, sIm_u, dcp_n]
      exact ih (k + 1) (by omega) _ (by have z := ti_add h2 (show (1 : Int32).toInt = 1 from rfl) (by omega); omega) J
  have E : (∀ (x : Int32) (y : Int64) (I2 : Im) (J2 : Jm), Bd I2 → (I2 97 8).toInt = 0 → Fr pK I I2 → Q x y I2 J2 R) → ∀ (M : Im) (J : Jm), Bd M → (M 97 8).toInt = 0 → Fr pK I M → ((M 97 12).toInt = 0 → NR (M 102) 0 (M 97 27).toInt (M 102 0).toInt) → P 50 112 [(0, .ref 97)] [] M J R := by
    intro hQ0 M J hB h8 hf hN
    refine sg_X12_days_50 hc _ _ _ (kp1 rfl (sp_X12_isWell hB hR0 (fun x y I1 J1 hB1 hp k8 => ?_)))
    intro ho
    refine ⟨fun c => ?_, fun c => hQ0 _ _ _ _ hB1 (by rw [k8]; exact h8) (Fr.tr hf hp.2.1 (fun _ _ => trivial))⟩
    refine ⟨vp_of rfl (by decide) (by decide), vp_of rfl (by decide) (by decide), ?_⟩
    have hx : ¬ x.toInt = 0 := fun z => c (Int32.toInt_inj.mp z)
    have hb : (M 97 12).toInt = 0 := by have := hp.2.2; omega
    have e27 : I1 97 27 = M 97 27 := hp.1
    have hN1 : NR (I1 102) 0 (I1 97 27).toInt (I1 102 0).toInt := by rw [e27, hp.2.1.eq]; exact hN hb
    have hn := hB1.n27
    have h0 := T hQ0 I1 hB1 (by rw [k8]; exact h8) (Fr.tr hf hp.2.1 (fun _ _ => trivial)) hN1 (9 * (I1 97 27).toInt).toNat 0 (by omega) 0 rfl J1
    have e : uI (uI I1 102 (Int32.toNatClampNeg 52) 1) 102 (Int32.toNatClampNeg 53) ((uI I1 102 (Int32.toNatClampNeg 52) 1) 97 27) = sIm I1 (dcp (I1 102) (I1 97 27) 0) := by
      have e1 : uI I1 102 52 1 = sIm I1 (upd (I1 102) 52 1) := by
        have := sIm_u (I := I1) (g := I1 102) (j := 52) (v := 1)
        rw [sIm_0 rfl] at this; exact this
      show uI (uI I1 102 52 1) 102 53 ((uI I1 102 52 1) 97 27) = _
      rw [e1, sIm_u, sIm_o (by decide), dcp_0]
    rw [e]
    exact h0
  have L : (∀ (x : Int32) (y : Int64) (I2 : Im) (J2 : Jm), Bd I2 → (I2 97 8).toInt = 0 → Fr pK I I2 → Q x y I2 J2 R) → ∀ n : Nat, ∀ (M : Im) (J : Jm), Bd M → (M 97 8).toInt = 0 → Fr pK I M → ((M 97 12).toInt = 0 → NR (M 102) 0 (M 97 27).toInt (M 102 0).toInt) → 2 * MUf M + 3 - min (M 97 12).toInt 1 < (n : Int) → P 28 112 [(0, .ref 97)] [] M J R := by
    intro hQ0 n
    induction n with
    | zero =>
      intro M J hB h8 hf0 hN hm
      have b1 := hB.o (show isO 112 97 12 = true from rfl) (show bnd 12 12 = some _ from rfl)
      have b2 := hB.mu
      exact absurd hm (by omega)
    | succ n ih =>
      intro M J hB h8 hf0 hN hm
      refine sg_X12_days_28 hc _ _ _ ⟨fun _ => E hQ0 M J hB h8 hf0 hN, fun c => ⟨fun _ => E hQ0 M J hB h8 hf0 hN, fun c2 => ?_⟩⟩
      have c0 : (M 97 12).toInt = 0 := congrArg Int32.toInt c
      have b12 := hB.o (show isO 112 97 12 = true from rfl) (show bnd 12 12 = some _ from rfl)
      refine kp1 rfl (sp_X12_readStep hB hR0 (by decide) (fun x y I2 J2 hB2 hp k8 => ?_))
      obtain ⟨hf, hpm, hpg, ho, hr⟩ := hp
      have hpm1 := hpm.1
      have hpg1 : 1 ≤ (I2 97 12).toInt ∨ MUf I2 < MUf M := hpg
      have mu1 := hB.mu
      have mu2 := hB2.mu
      have c12 := hB2.o (show isO 112 97 12 = true from rfl) (show bnd 12 12 = some _ from rfl)
      have hn0 := hB.n27
      refine ih I2 J2 hB2 (by rw [k8]; exact h8) (Fr.tr hf0 hf (fun j hj => by unfold pK at hj; unfold pB; omega)) (fun hz => ?_) (by omega)
      have hn := hB.n27
      have hm0 : (I2 102 0) = (M 102 0) := hf.1 0 (show ((0 : Nat) : Int) < 1350 + 9 * (M 97 27).toInt by omega)
      refine NR.app (by rw [hm0]; exact hN c0) hf.1 rfl (by rw [hm0]; exact hr hz) (by omega)
  have f38 : Fr pK I (uI (uI I 97 1 0) 97 0 0) := ((Fr.refl pK I).o (by decide) (by decide)).o (by decide) (by decide)
  refine sg_X12_days_0 hc _ _ _ _ (sp_X12_starts ((hB0.o0 (show isO 112 97 12 = true from rfl) (by omega) (show bnd 12 1 = none from rfl)).o0 (show isO 112 97 12 = true from rfl) (by omega) (show bnd 12 0 = none from rfl)) hR0 (fun x y I1 J1 hB1 hp => ?_))
  intro ho
  have z3 : (300 : Int32).toInt = 300 := rfl
  have hp2 := hp.2
  have e8 : (uI (uI I 97 1 0) 97 0 0) 97 8 = I 97 8 := rfl
  rw [e8] at hp2
  refine ⟨fun c => ?_, fun c => hQ _ _ _ _ hB1 ⟨Fr.tr f38 hp.1 (fun _ _ => trivial), by have hx : x.toInt = 0 := congrArg Int32.toInt c; omega⟩⟩
  have hx : ¬ x.toInt = 0 := fun z => c (Int32.toInt_inj.mp z)
  have hv : 0 ≤ v1.toInt ∧ v1.toInt ≤ (I 97 8).toInt ∧ v1.toInt ≤ 300 ∧ (I1 97 8).toInt = 0 := by omega
  have hB2 : Bd (uI I1 97 27 0) := hB1.o1 (show isO 112 97 12 = true from rfl) (by omega) (show bnd 12 27 = some _ from rfl) (show (0 : Int32).toInt = 0 from rfl) (by decide)
  refine L (fun x y I2 J2 hB h8 hf => hQ _ _ _ _ hB ⟨hf, Or.inr ⟨hv.1, hv.2.1, hv.2.2.1, h8⟩⟩) 1000000 _ _ hB2 hv.2.2.2 ((Fr.tr f38 hp.1 (fun _ _ => trivial)).o (by decide) (by decide)) (fun _ => NR.nil ?_) ?_
  · show ((uI I1 97 27 0) 97 27).toInt ≤ 0
    rw [rd_eq]; decide
  · have b1 := hB2.o (show isO 112 97 12 = true from rfl) (show bnd 12 12 = some _ from rfl)
    have b2 := hB2.mu
    omega

