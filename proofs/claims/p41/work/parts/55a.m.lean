section PT12x0
noncomputable def dcp (g : Nat → Int32) (n : Int32) (k : Nat) : Nat → Int32 := fun j => if 54 ≤ j ∧ j < 54 + k then g (1296 + j) else if j = 52 then 1 else if j = 53 then n else g j
theorem dcp_in {g : Nat → Int32} {n : Int32} {k j : Nat} (h : 54 ≤ j ∧ j < 54 + k) : dcp g n k j = g (1296 + j) := if_pos h
theorem dcp_52 {g : Nat → Int32} {n : Int32} {k : Nat} : dcp g n k 52 = 1 := by unfold dcp; rw [if_neg (by omega), if_pos rfl]
theorem dcp_53 {g : Nat → Int32} {n : Int32} {k : Nat} : dcp g n k 53 = n := by unfold dcp; rw [if_neg (by omega), if_neg (by omega), if_pos rfl]
theorem dcp_o {g : Nat → Int32} {n : Int32} {k j : Nat} (h : j < 52 ∨ 54 + k ≤ j) : dcp g n k j = g j := by unfold dcp; rw [if_neg (by omega), if_neg (by omega), if_neg (by omega)]
theorem dcp_n {g : Nat → Int32} {n : Int32} {k : Nat} : upd (dcp g n k) (54 + k) (dcp g n k (1350 + k)) = dcp g n (k + 1) := by
  rw [dcp_o (j := 1350 + k) (by omega)]
  funext j
  by_cases q : j = 54 + k
  · subst q; rw [upd_s, dcp_in (j := 54 + k) (by omega)]; exact congrArg g (by omega)
  · rw [upd_i q]
    by_cases r : 54 ≤ j ∧ j < 54 + k
    · rw [dcp_in r, dcp_in (j := j) (by omega)]
    · by_cases r2 : j = 52
      · subst r2; rw [dcp_52, dcp_52]
      · by_cases r3 : j = 53
        · subst r3; rw [dcp_53, dcp_53]
        · rw [dcp_o (j := j) (by omega), dcp_o (j := j) (by omega)]
theorem dcp_0 {g : Nat → Int32} {n : Int32} : upd (upd g 52 1) 53 n = dcp g n 0 := by
  funext j
  by_cases r2 : j = 52
  · subst r2; rw [dcp_52, upd_i (by omega), upd_s]
  · by_cases r3 : j = 53
    · subst r3; rw [dcp_53, upd_s]
    · rw [dcp_o (j := j) (by omega), upd_i r3, upd_i r2]
theorem CK.dcpK {g : Nat → Int32} (h : CK g) {n : Int32} {k : Nat} (hn : 0 ≤ n.toInt ∧ n.toInt ≤ 30) (hN : NR g 0 n.toInt (g 0).toInt) (hk : (k : Int) = 9 * n.toInt) : CK (dcp g n k) := by
  refine ⟨fun j => ?_, fun c i hc hi => ?_, fun c s hc hd hs => ?_⟩
  · by_cases r : 54 ≤ j ∧ j < 54 + k
    · rw [dcp_in r]
      have q := h.1 (1296 + j)
      have e : (1296 + j) % 324 = j % 324 := by omega
      unfold CB at q ⊢
      rw [e] at q
      exact q
    · by_cases r2 : j = 52
      · subst r2; rw [dcp_52]; unfold CB; omega
      · by_cases r3 : j = 53
        · subst r3; rw [dcp_53]; unfold CB; omega
        · rw [dcp_o (j := j) (by omega)]; exact h.1 j
  · have h6 := (h.1 (324 * c)).1 (by omega)
    rw [dcp_o (j := 324 * c) (by omega)] at hi
    rw [dcp_o (j := 324 * c + 40 + i) (by omega)]
    exact h.2.1 c i hc hi
  · by_cases q : c = 0
    · subst q
      rw [show 324 * 0 + 53 = 53 from rfl, dcp_53] at hs
      have q := hN s (by omega) hs
      unfold NewOk at q
      unfold RecOk
      rw [show 324 * 0 + 53 = 53 from rfl, dcp_53, show 324 * 0 = 0 from rfl, dcp_o (j := 0) (by omega), dcp_in (j := 0 + 54 + 9 * s) (by omega), dcp_in (j := 0 + 54 + 9 * s + 1) (by omega), dcp_in (j := 0 + 54 + 9 * s + 2) (by omega), dcp_in (j := 0 + 54 + 9 * s + 3) (by omega), dcp_in (j := 0 + 54 + 9 * s + 5) (by omega), dcp_in (j := 0 + 54 + 9 * s + 8) (by omega)]
      rw [show 1296 + (0 + 54 + 9 * s) = 1350 + 9 * s by omega, show 1296 + (0 + 54 + 9 * s + 1) = 1350 + 9 * s + 1 by omega, show 1296 + (0 + 54 + 9 * s + 2) = 1350 + 9 * s + 2 by omega, show 1296 + (0 + 54 + 9 * s + 3) = 1350 + 9 * s + 3 by omega, show 1296 + (0 + 54 + 9 * s + 5) = 1350 + 9 * s + 5 by omega, show 1296 + (0 + 54 + 9 * s + 8) = 1350 + 9 * s + 8 by omega]
      exact q
    · have h6 := (h.1 (324 * c + 53)).2.2.1 (by omega)
      rw [dcp_o (j := 324 * c + 52) (by omega)] at hd
      rw [dcp_o (j := 324 * c + 53) (by omega)] at hs
      have q := h.2.2 c s hc hd hs
      unfold RecOk at q ⊢
      rw [dcp_o (j := 324 * c + 54 + 9 * s) (by omega), dcp_o (j := 324 * c + 54 + 9 * s + 1) (by omega), dcp_o (j := 324 * c + 54 + 9 * s + 2) (by omega), dcp_o (j := 324 * c + 54 + 9 * s + 3) (by omega), dcp_o (j := 324 * c + 54 + 9 * s + 5) (by omega), dcp_o (j := 324 * c + 54 + 9 * s + 8) (by omega), dcp_o (j := 324 * c + 53) (by omega), dcp_o (j := 324 * c) (by omega)]
      exact q
theorem dcp_K {f : Nat → Int32} {n : Int32} {k j : Nat} (hk : k ≤ 270) (hj : pK j) : dcp f n k j = f j := dcp_o (by unfold pK at hj; omega)
theorem sp_X12_days {d : Nat} {Q : Qt} {v1 : Int32} {I : Im} {J : Jm} {R : Rm} (hB0 : Bd I) (hR0 : RI R) (hQ : ∀ (x : Int32) (y : Int64) (I2 : Im) (J2 : Jm), Bd I2 → (Fr pK I I2 ∧ (((v1.toInt < 0 ∨ (I 97 8).toInt < v1.toInt ∨ 300 < v1.toInt) ∧ (I2 97 8).toInt = (I 97 8).toInt) ∨ (0 ≤ v1.toInt ∧ v1.toInt ≤ (I 97 8).toInt ∧ v1.toInt ≤ 300 ∧ (I2 97 8).toInt = 0))) → Q x y I2 J2 R) : AM (d + 20) 237 112 [.ref 97, .int v1] I J R Q := by
  refine am_X12_days (fun P hc => ?_)
  have T : (∀ (x : Int32) (y : Int64) (I2 : Im) (J2 : Jm), Bd I2 → (I2 97 8).toInt = 0 → Fr pK I I2 → Q x y I2 J2 R) → ∀ I1 : Im, Bd I1 → (I1 97 8).toInt = 0 → Fr pK I I1 → NR (I1 102) 0 (I1 97 27).toInt (I1 102 0).toInt → ∀ m k : Nat, ((k + m : Nat) : Int) = 9 * (I1 97 27).toInt → ∀ v2 : Int32, v2.toInt = k → ∀ J : Jm, P 80 112 [(0, .ref 97), (2, .int v2)] [] (sIm I1 (dcp (I1 102) (I1 97 27) k)) J R := by
    intro hQ0 I1 hB h8 hf hN m
    have hn := hB.n27
    have hm : (9 * (I1 97 27) : Int32).toInt = 9 * (I1 97 27).toInt := ti_mul rfl rfl (by omega)
    have e97 : ∀ g, sIm I1 g 97 = I1 97 := fun g => sIm_o (by decide)
    induction m with
    | zero =>
      intro k hk v2 h2 J
      refine sg_X12_days_80 hc _ _ _ _ ?_
      rw [e97]
      refine ⟨fun c => ?_, fun c => absurd (Int32.le_iff_toInt_le.mpr (by rw [hm, h2]; omega)) c⟩
      exact hQ0 _ _ _ _ (hB.sIm (hB.ck.dcpK hn hN (by omega))) (by rw [e97]; exact h8) ⟨fun j hj => (by rw [sIm_c, dcp_K (by omega) hj]; exact hf.1 j hj), (sIm_o (by decide)).trans hf.2⟩
    | succ m ih =>
      intro k hk v2 h2 J
      refine sg_X12_days_80 hc _ _ _ _ ?_
      rw [e97]
      refine ⟨fun c => absurd (Int32.le_iff_toInt_le.mp c) (by rw [hm, h2]; omega), fun c => ?_⟩
      have h1 : (1350 + v2 : Int32).toInt = 1350 + (k : Int) := ti_add rfl h2 (by omega)
      have h3 : (54 + v2 : Int32).toInt = 54 + (k : Int) := ti_add rfl h2 (by omega)
      have t1 := tn_of h1 (by omega)
      have t3 := tn_of h3 (by omega)
      refine ⟨vp_of h1 (by omega) (by omega), vp_of h3 (by omega) (by omega), ?_⟩
      rw [show Int32.toNatClampNeg (1350 + v2) = 1350 + k by omega, show Int32.toNatClampNeg (54 + v2) = 54 + k by omega, sIm_c, sIm_u, dcp_n]
      exact ih (k + 1) (by omega) _ (by have z := ti_add h2 (show (1 : Int32).toInt = 1 from rfl) (by omega); omega) J
  have E : (∀ (x : Int32) (y : Int64) (I2 : Im) (J2 : Jm), Bd I2 → (I2 97 8).toInt = 0 → Fr pK I I2 → Q x y I2 J2 R) → ∀ (M : Im) (J : Jm), Bd M → (M 97 8).toInt = 0 → Fr pK I M → ((M 97 12).toInt = 0 → NR (M 102) 0 (M 97 27).toInt (M 102 0).toInt) → P 50 112 [(0, .ref 97)] [] M J R := by
    intro hQ0 M J hB h8 hf hN
    refine sg_X12_days_50 hc _ _ _ (kp1 rfl (sp_X12_isWell hB hR0 (fun x y I1 J1 hB1 hp k8 => ?_)))
    intro ho
    refine ⟨fun c => ?_, fun c => hQ0 _ _ _ _ hB1 (by rw [k8]; exact h8) (Fr.tr hf hp.2.1 (fun _ _ => trivial))⟩
    refine ⟨vp_of rfl (by decide) (by decide), vp_of rfl (by decide) (by decide), ?_⟩
    have hx : ¬ x.toInt = 0 := fun z => c (Int32.toInt_inj.mp z)
    have hb : (M 97 12).toInt = 0 := by have := hp.2.2; omega
    have e27 : I1 97 27 = M 97 27 := hp.1
    have hN1 : NR (I1 102) 0 (I1 97 27).toInt (I1 102 0).toInt := by rw [e27, hp.2.1.eq]; exact hN hb
    have hn := hB1.n27
    have h0 := T hQ0 I1 hB1 (by rw [k8]; exact h8) (Fr.tr hf hp.2.1 (fun _ _ => trivial)) hN1 (9 * (I1 97 27).toInt).toNat 0 (by omega) 0 rfl J1
    have e : uI (uI I1 102 (Int32.toNatClampNeg 52) 1) 102 (Int32.toNatClampNeg 53) ((uI I1 102 (Int32.toNatClampNeg 52) 1) 97 27) = sIm I1 (dcp (I1 102) (I1 97 27) 0) := by
      have e1 : uI I1 102 52 1 = sIm I1 (upd (I1 102) 52 1) := by
        have := sIm_u (I := I1) (g := I1 102) (j := 52) (v := 1)
        rw [sIm_0 rfl] at this; exact this
      show uI (uI I1 102 52 1) 102 53 ((uI I1 102 52 1) 97 27) = _
      rw [e1, sIm_u, sIm_o (by decide), dcp_0]
    rw [e]
    exact h0
  have L : (∀ (x : Int32) (y : Int64) (I2 : Im) (J2 : Jm), Bd I2 → (I2 97 8).toInt = 0 → Fr pK I I2 → Q x y I2 J2 R) → ∀ n : Nat, ∀ (M : Im) (J : Jm), Bd M → (M 97 8).toInt = 0 → Fr pK I M → ((M 97 12).toInt = 0 → NR (M 102) 0 (M 97 27).toInt (M 102 0).toInt) → 2 * MUf M + 3 - min (M 97 12).toInt 1 < (n : Int) → P 28 112 [(0, .ref 97)] [] M J R := by
    intro hQ0 n
    induction n with
    | zero =>
      intro M J hB h8 hf0 hN hm
      have b1 := hB.o io9_112_97_12 bd9_12_12
      have b2 := hB.mu
      exact absurd hm (by omega)
    | succ n ih =>
      intro M J hB h8 hf0 hN hm
      refine sg_X12_days_28 hc _ _ _ ⟨fun _ => E hQ0 M J hB h8 hf0 hN, fun c => ⟨fun _ => E hQ0 M J hB h8 hf0 hN, fun c2 => ?_⟩⟩
      have c0 : (M 97 12).toInt = 0 := congrArg Int32.toInt c
      have b12 := hB.o io9_112_97_12 bd9_12_12
      refine kp1 rfl (sp_X12_readStep hB hR0 (by decide) (fun x y I2 J2 hB2 hp k8 => ?_))
      obtain ⟨hf, hpm, hpg, ho, hr⟩ := hp
      have hpm1 := hpm.1
      have hpg1 : 1 ≤ (I2 97 12).toInt ∨ MUf I2 < MUf M := hpg
      have mu1 := hB.mu
      have mu2 := hB2.mu
      have c12 := hB2.o io9_112_97_12 bd9_12_12
      have hn0 := hB.n27
      refine ih I2 J2 hB2 (by rw [k8]; exact h8) (Fr.tr hf0 hf (fun j hj => by unfold pK at hj; unfold pB; omega)) (fun hz => ?_) (by omega)
      have hn := hB.n27
      have hm0 : (I2 102 0) = (M 102 0) := hf.1 0 (show ((0 : Nat) : Int) < 1350 + 9 * (M 97 27).toInt by omega)
      refine NR.app (by rw [hm0]; exact hN c0) hf.1 rfl (by rw [hm0]; exact hr hz) (by omega)
  have f38 : Fr pK I (uI (uI I 97 1 0) 97 0 0) := ((Fr.refl pK I).o (by decide) (by decide)).o (by decide) (by decide)
  refine sg_X12_days_0 hc _ _ _ _ (sp_X12_starts ((hB0.o0 io9_112_97_12 (by decide) bd9_12_1).o0 io9_112_97_12 (by decide) bd9_12_0) hR0 (fun x y I1 J1 hB1 hp => ?_))
  intro ho
  have z3 : (300 : Int32).toInt = 300 := rfl
  have hp2 := hp.2
  have e8 : (uI (uI I 97 1 0) 97 0 0) 97 8 = I 97 8 := rfl
  rw [e8] at hp2
  refine ⟨fun c => ?_, fun c => hQ _ _ _ _ hB1 ⟨Fr.tr f38 hp.1 (fun _ _ => trivial), by have hx : x.toInt = 0 := congrArg Int32.toInt c; omega⟩⟩
  have hx : ¬ x.toInt = 0 := fun z => c (Int32.toInt_inj.mp z)
  have hv : 0 ≤ v1.toInt ∧ v1.toInt ≤ (I 97 8).toInt ∧ v1.toInt ≤ 300 ∧ (I1 97 8).toInt = 0 := by omega
  have hB2 : Bd (uI I1 97 27 0) := hB1.o1 io9_112_97_12 (by decide) bd9_12_27 (show (0 : Int32).toInt = 0 from rfl) (by decide)
  refine L (fun x y I2 J2 hB h8 hf => hQ _ _ _ _ hB ⟨hf, Or.inr ⟨hv.1, hv.2.1, hv.2.2.1, h8⟩⟩) 1000000 _ _ hB2 hv.2.2.2 ((Fr.tr f38 hp.1 (fun _ _ => trivial)).o (by decide) (by decide)) (fun _ => NR.nil ?_) ?_
  · show ((uI I1 97 27 0) 97 27).toInt ≤ 0
    rw [rd_eq]; decide
  · have b1 := hB2.o io9_112_97_12 bd9_12_12
    have b2 := hB2.mu
    omega
end PT12x0
section PT12x1
set_option maxHeartbeats 2000000 in
theorem sp_X12_draw {d : Nat} {Q : Qt} {v1 : Int32} {I : Im} {J : Jm} {R : Rm} (hB0 : Bd I) (hR0 : RI R) (hv1 : 1 ≤ v1.toInt) (hQ : ∀ (x : Int32) (y : Int64) (I2 : Im) (J2 : Jm), Bd I2 → (I2 97 43 = I 97 43 ∧ Fr pT I I2 ∧ (0 ≤ x.toInt ∧ x.toInt < v1.toInt)) → Q x y I2 J2 R) : AM (d + 1) 304 112 [.ref 97, .int v1] I J R Q := by
  have i_v1 := i32 v1
  refine w_X12_draw ?_
  refine ⟨by decide, ?_⟩
  have b2 := Bd.o hB0 io9_112_97_12 bd9_12_42
  have e3 : (((I 97 42) * 2971) : Int32).toInt = ((I 97 42).toInt) * (2971) := ti_mul rfl rfl (by omega)
  have e4 : ((((I 97 42) * 2971) + 10993) : Int32).toInt = (((I 97 42).toInt * 2971)) + (10993) := ti_add e3 rfl (by omega)
  have s5 := ti_rem (show ((((I 97 42) * 2971) + 10993) : Int32).toInt = (((I 97 42).toInt * 2971) + 10993) from e4) (show (65536 : Int32).toInt = 65536 from rfl) (by omega) (by omega)
  have hB1 : Bd (uI I 97 42 ((((I 97 42) * 2971) + 10993) - (((I 97 42) * 2971) + 10993) / 65536 * 65536)) := Bd.o1 hB0 io9_112_97_12 (by decide) bd9_12_42 (show (((((I 97 42) * 2971) + 10993) - (((I 97 42) * 2971) + 10993) / 65536 * 65536) : Int32).toInt = (((((I 97 42) * 2971) + 10993) - (((I 97 42) * 2971) + 10993) / 65536 * 65536) : Int32).toInt from rfl) (by omega)
  have f6 : Fr pT I (uI I 97 42 ((((I 97 42) * 2971) + 10993) - (((I 97 42) * 2971) + 10993) / 65536 * 65536)) := Fr.o (Fr.refl _ _) (by decide) (by decide)
  refine ⟨by decide, ?_⟩
  refine ⟨(fun z => by have z2 : (v1.toInt : Int) = 0 := ci_eq rfl rfl z; omega), ?_⟩
  have e7 : (((uI I 97 42 ((((I 97 42) * 2971) + 10993) - (((I 97 42) * 2971) + 10993) / 65536 * 65536)) 97 42) : Int32).toInt = (((((I 97 42) * 2971) + 10993) - (((I 97 42) * 2971) + 10993) / 65536 * 65536) : Int32).toInt := Eq.trans (congrArg Int32.toInt rd_eq) rfl
  have e8 : ((((uI I 97 42 ((((I 97 42) * 2971) + 10993) - (((I 97 42) * 2971) + 10993) / 65536 * 65536)) 97 42) / 8) : Int32).toInt = ((((((I 97 42) * 2971) + 10993) - (((I 97 42) * 2971) + 10993) / 65536 * 65536) : Int32).toInt) / (8) := ti_div (show (((uI I 97 42 ((((I 97 42) * 2971) + 10993) - (((I 97 42) * 2971) + 10993) / 65536 * 65536)) 97 42) : Int32).toInt = (((((I 97 42) * 2971) + 10993) - (((I 97 42) * 2971) + 10993) / 65536 * 65536) : Int32).toInt from e7) (show (8 : Int32).toInt = 8 from rfl) (by omega) (by omega)
  have s9 := ti_rem (show ((((uI I 97 42 ((((I 97 42) * 2971) + 10993) - (((I 97 42) * 2971) + 10993) / 65536 * 65536)) 97 42) / 8) : Int32).toInt = (((((((I 97 42) * 2971) + 10993) - (((I 97 42) * 2971) + 10993) / 65536 * 65536) : Int32).toInt) / (8)) from e8) (show (v1 : Int32).toInt = v1.toInt from rfl) (by omega) (by omega)
  exact hQ _ _ _ _ hB1 ⟨(rd_k (by decide)), f6, (by have q0 : (((((uI I 97 42 ((((I 97 42) * 2971) + 10993) - (((I 97 42) * 2971) + 10993) / 65536 * 65536)) 97 42) / 8) - (((uI I 97 42 ((((I 97 42) * 2971) + 10993) - (((I 97 42) * 2971) + 10993) / 65536 * 65536)) 97 42) / 8) / v1 * v1) : Int32).toInt = (((((uI I 97 42 ((((I 97 42) * 2971) + 10993) - (((I 97 42) * 2971) + 10993) / 65536 * 65536)) 97 42) / 8) - (((uI I 97 42 ((((I 97 42) * 2971) + 10993) - (((I 97 42) * 2971) + 10993) / 65536 * 65536)) 97 42) / 8) / v1 * v1) : Int32).toInt := rfl; omega)⟩
set_option maxHeartbeats 2000000 in
theorem sp_X12_isGiven {d : Nat} {Q : Qt} {v1 : Int32} {v2 : Int32} {I : Im} {J : Jm} {R : Rm} (hB0 : Bd I) (hR0 : RI R) (hv1 : 0 ≤ v1.toInt ∧ v1.toInt ≤ 5) (hv2 : 1 ≤ v2.toInt ∧ v2.toInt ≤ 30) (hQ : ∀ (x : Int32) (y : Int64) (I2 : Im) (J2 : Jm), Bd I2 → (I2 97 43 = I 97 43 ∧ Fr pD I I2) → Q x y I2 J2 R) : AM (d + 3) 305 112 [.ref 97, .int v1, .int v2] I J R Q := by
  have i_v1 := i32 v1
  have i_v2 := i32 v2
  refine w_X12_isGiven ?_
  refine sp_X12_gives hB0 hR0 (by have z1 : (v1 : Int32).toInt = v1.toInt := rfl; omega) (by have z2 : (v2 : Int32).toInt = v2.toInt := rfl; omega) (fun x1 y6 I2 J3 hB4 p5 => ?_)
  intro o7
  have f8 : Fr pD I I2 := p5.2
  have f9 : Fr pD I I2 := Fr.tr (Fr.refl _ _) f8 (fun _ z => z)
  have i10 := i32 x1
  refine ⟨fun c11 => ?_, fun c11 => ?_⟩
  · skip
    have d12 : ((x1.toInt) : Int) = (0) := ci_eq rfl rfl c11
    have hB13 : Bd (uI I2 97 46 ((I2 97 46) + 0)) := Bd.o0 hB4 io9_112_97_12 (by decide) bd9_12_46
    have f14 : Fr pD I (uI I2 97 46 ((I2 97 46) + 0)) := Fr.o f9 (by decide) (by decide)
    refine ⟨o7, ?_⟩
    exact hQ _ _ _ _ hB13 ⟨(Eq.trans (rd_k (by decide)) p5.1), f14⟩
  · skip
    have d15 : ¬ ((x1.toInt) : Int) = (0) := ci_ne rfl rfl c11
    have hB16 : Bd (uI I2 97 46 ((I2 97 46) + 1)) := Bd.o0 hB4 io9_112_97_12 (by decide) bd9_12_46
    have f17 : Fr pD I (uI I2 97 46 ((I2 97 46) + 1)) := Fr.o f9 (by decide) (by decide)
    refine ⟨o7, ?_⟩
    exact hQ _ _ _ _ hB16 ⟨(Eq.trans (rd_k (by decide)) p5.1), f17⟩
set_option maxHeartbeats 2000000 in
theorem sp_X12_isBaked {d : Nat} {Q : Qt} {v1 : Int32} {I : Im} {J : Jm} {R : Rm} (hB0 : Bd I) (hR0 : RI R) (hQ : ∀ (x : Int32) (y : Int64) (I2 : Im) (J2 : Jm), Bd I2 → (I2 97 43 = I 97 43 ∧ Fr pD I I2) → Q x y I2 J2 R) : AM (d + 2) 306 112 [.ref 97, .int v1] I J R Q := by
  have i_v1 := i32 v1
  refine w_X12_isBaked ?_
  refine sp_X12_bakes hB0 hR0 (fun x1 y6 I2 J3 hB4 p5 => ?_)
  intro o7
  have f8 : Fr pD I I2 := p5.2
  have f9 : Fr pD I I2 := Fr.tr (Fr.refl _ _) f8 (fun _ z => z)
  have i10 := i32 x1
  refine ⟨fun c11 => ?_, fun c11 => ?_⟩
  · skip
    have d12 : ((x1.toInt) : Int) = (0) := ci_eq rfl rfl c11
    have hB13 : Bd (uI I2 97 47 ((I2 97 47) + 0)) := Bd.o0 hB4 io9_112_97_12 (by decide) bd9_12_47
    have f14 : Fr pD I (uI I2 97 47 ((I2 97 47) + 0)) := Fr.o f9 (by decide) (by decide)
    refine ⟨o7, ?_⟩
    exact hQ _ _ _ _ hB13 ⟨(Eq.trans (rd_k (by decide)) p5.1), f14⟩
  · skip
    have d15 : ¬ ((x1.toInt) : Int) = (0) := ci_ne rfl rfl c11
    have hB16 : Bd (uI I2 97 47 ((I2 97 47) + v1)) := Bd.o0 hB4 io9_112_97_12 (by decide) bd9_12_47
    have f17 : Fr pD I (uI I2 97 47 ((I2 97 47) + v1)) := Fr.o f9 (by decide) (by decide)
    refine ⟨o7, ?_⟩
    exact hQ _ _ _ _ hB16 ⟨(Eq.trans (rd_k (by decide)) p5.1), f17⟩
set_option maxHeartbeats 2000000 in
theorem sp_X12_isAny {d : Nat} {Q : Qt} {I : Im} {J : Jm} {R : Rm} (hB0 : Bd I) (hR0 : RI R) (hQ : ∀ (x : Int32) (y : Int64) (I2 : Im) (J2 : Jm), Bd I2 → (I2 97 43 = I 97 43 ∧ Fr pD I I2) → Q x y I2 J2 R) : AM (d + 4) 307 112 [.ref 97] I J R Q := by
  refine w_X12_isAny ?_
  refine ⟨vp_of (a := 0) rfl (by omega) (by omega), ?_⟩
  refine ⟨fun c1 => ?_, fun c1 => ?_⟩
  · skip
    have b2 := (Bd.c hB0 (j := 0) (z := 0) rfl).1 (by decide)
    have e3 : ((I 102 (Int32.toNatClampNeg 0)) : Int32).toInt = (I 102 0).toInt := Eq.trans (congrArg Int32.toInt rfl) rfl
    have d4 : ¬ (((I 102 0).toInt) : Int) = (0) := ci_ne e3 rfl c1
    refine ⟨vp_of (a := 0) rfl (by omega) (by omega), ?_⟩
    refine sp_X12_draw hB0 hR0 (by have z1 : ((I 102 (Int32.toNatClampNeg 0)) : Int32).toInt = (I 102 0).toInt := e3; omega) (fun x5 y10 I6 J7 hB8 p9 => ?_)
    have f11 : Fr pT I I6 := p9.2.1
    have f12 : Fr pD I I6 := Fr.tr (Fr.refl _ _) f11 (fun _ _ => trivial)
    have q13 : ((I 102 (Int32.toNatClampNeg 0)) : Int32).toInt = (I 102 0).toInt := e3
    have i14 := i32 x5
    refine sp_X12_draw hB8 hR0 (by have z1 : (30 : Int32).toInt = 30 := rfl; omega) (fun x15 y20 I16 J17 hB18 p19 => ?_)
    have f21 : Fr pT I6 I16 := p19.2.1
    have f22 : Fr pD I I16 := Fr.tr f12 f21 (fun _ _ => trivial)
    have q23 : (30 : Int32).toInt = 30 := rfl
    have i24 := i32 x15
    refine sp_X12_draw hB18 hR0 (by have z1 : (16 : Int32).toInt = 16 := rfl; omega) (fun x25 y30 I26 J27 hB28 p29 => ?_)
    have f31 : Fr pT I16 I26 := p29.2.1
    have f32 : Fr pD I I26 := Fr.tr f22 f31 (fun _ _ => trivial)
    have q33 : (16 : Int32).toInt = 16 := rfl
    have i34 := i32 x25
    refine ⟨vp_of (a := 1) rfl (by first | (clear e3 d4 p9 q13 i14 p19 i24 p29 i34; omega) | omega) (by first | (clear e3 d4 p9 q13 i14 p19 i24 p29 i34; omega) | omega), ?_⟩
    refine ⟨fun c35 => ?_, fun c35 => ?_⟩
    · skip
      have e36 : ((I26 102 (Int32.toNatClampNeg 1)) : Int32).toInt = (I 102 1).toInt := Eq.trans (congrArg Int32.toInt (Eq.trans (Eq.trans (Eq.trans (f31.1 (Int32.toNatClampNeg 1) trivial) (f21.1 (Int32.toNatClampNeg 1) trivial)) (f11.1 (Int32.toNatClampNeg 1) trivial)) rfl)) rfl
      have d37 : (((I 102 1).toInt) : Int) ≤ (x25.toInt) := ci_le e36 rfl c35
      have e38 : ((x15 + 1) : Int32).toInt = (x15.toInt) + (1) := ti_add rfl rfl (by first | (clear e3 d4 p9 q13 i14 p29 i34 e36 d37; omega) | omega)
      refine sp_X12_isGiven hB28 hR0 (by have z1 : (x5 : Int32).toInt = x5.toInt := rfl; omega) (by have z2 : ((x15 + 1) : Int32).toInt = (x15.toInt + 1) := e38; omega) (fun x39 y44 I40 J41 hB42 p43 => ?_)
      intro o45
      have f46 : Fr pD I26 I40 := p43.2
      have f47 : Fr pD I I40 := Fr.tr f32 f46 (fun _ z => z)
      have i48 := i32 x39
      refine ⟨o45, ?_⟩
      exact hQ _ _ _ _ hB42 ⟨(Eq.trans (Eq.trans (Eq.trans p43.1 p29.1) p19.1) p9.1), f47⟩
    · skip
      have e49 : ((I26 102 (Int32.toNatClampNeg 1)) : Int32).toInt = (I 102 1).toInt := Eq.trans (congrArg Int32.toInt (Eq.trans (Eq.trans (Eq.trans (f31.1 (Int32.toNatClampNeg 1) trivial) (f21.1 (Int32.toNatClampNeg 1) trivial)) (f11.1 (Int32.toNatClampNeg 1) trivial)) rfl)) rfl
      have d50 : ((x25.toInt) : Int) < ((I 102 1).toInt) := ci_nle e49 rfl c35
      have e51 : ((x15 + 1) : Int32).toInt = (x15.toInt) + (1) := ti_add rfl rfl (by first | (clear e3 d4 p9 q13 i14 p29 i34 e49 d50; omega) | omega)
      refine sp_X12_splits hB28 hR0 (by have z1 : ((x15 + 1) : Int32).toInt = (x15.toInt + 1) := e51; omega) (by have z2 : (2 : Int32).toInt = 2 := rfl; omega) (fun x52 y57 I53 J54 hB55 p56 => ?_)
      intro o58
      have f59 : Fr pD I26 I53 := p56.2
      have f60 : Fr pD I I53 := Fr.tr f32 f59 (fun _ z => z)
      have i61 := i32 x52
      refine ⟨o58, ?_⟩
      exact hQ _ _ _ _ hB55 ⟨(Eq.trans (Eq.trans (Eq.trans p56.1 p29.1) p19.1) p9.1), f60⟩
  · skip
    have b62 := (Bd.c hB0 (j := 0) (z := 0) rfl).1 (by decide)
    have e63 : ((I 102 (Int32.toNatClampNeg 0)) : Int32).toInt = (I 102 0).toInt := Eq.trans (congrArg Int32.toInt rfl) rfl
    have d64 : (((I 102 0).toInt) : Int) = (0) := ci_eq e63 rfl c1
    refine ⟨Or.inl rfl, ?_⟩
    exact hQ _ _ _ _ hB0 ⟨rfl, (Fr.refl _ _)⟩
set_option maxHeartbeats 2000000 in
theorem sp_X12_does {d : Nat} {Q : Qt} {v1 : Int32} {I : Im} {J : Jm} {R : Rm} (hB0 : Bd I) (hR0 : RI R) (hRF : RF (I 102) v1 (I 102 0).toInt) (hv1 : 54 ≤ v1.toInt ∧ v1.toInt ≤ 315 ∧ (v1.toInt - 54) % 9 = 0) (hQ : ∀ (x : Int32) (y : Int64) (I2 : Im) (J2 : Jm), Bd I2 → (I2 97 43 = I 97 43 ∧ Fr pD I I2) → Q x y I2 J2 R) : AM (d + 5) 308 112 [.ref 97, .int v1] I J R Q := by
  have i_v1 := i32 v1
  refine w_X12_does ?_
  refine ⟨vp_of (a := v1.toInt) rfl (by omega) (by omega), ?_⟩
  have e1 : ((v1 + 1) : Int32).toInt = (v1.toInt) + (1) := ti_add rfl rfl (by omega)
  refine ⟨vp_of (a := (v1.toInt + 1)) e1 (by omega) (by omega), ?_⟩
  refine ⟨fun c2 => ?_, fun c2 => ?_⟩
  · skip
    have d3 : ¬ (((I 102 (Int32.toNatClampNeg v1)).toInt) : Int) = (0) := ci_ne rfl rfl c2
    refine ⟨fun c4 => ?_, fun c4 => ?_⟩
    · skip
      have d5 : ¬ (((I 102 (Int32.toNatClampNeg v1)).toInt) : Int) = (1) := ci_ne rfl rfl c4
      refine ⟨fun c6 => ?_, fun c6 => ?_⟩
      · skip
        have d7 : ¬ (((I 102 (Int32.toNatClampNeg v1)).toInt) : Int) = (2) := ci_ne rfl rfl c6
        refine ⟨fun c8 => ?_, fun c8 => ?_⟩
        · skip
          have d9 : ¬ (((I 102 (Int32.toNatClampNeg v1)).toInt) : Int) = (3) := ci_ne rfl rfl c8
          refine ⟨fun c10 => ?_, fun c10 => ?_⟩
          · skip
            have d11 : ¬ (((I 102 (Int32.toNatClampNeg v1)).toInt) : Int) = (4) := ci_ne rfl rfl c10
            refine sp_X12_isAny hB0 hR0 (fun x12 y17 I13 J14 hB15 p16 => ?_)
            intro o18
            have f19 : Fr pD I I13 := p16.2
            have f20 : Fr pD I I13 := Fr.tr (Fr.refl _ _) f19 (fun _ z => z)
            have i21 := i32 x12
            refine ⟨o18, ?_⟩
            exact hQ _ _ _ _ hB15 ⟨p16.1, f20⟩
          · skip
            have d22 : (((I 102 (Int32.toNatClampNeg v1)).toInt) : Int) = (4) := ci_eq rfl rfl c10
            have rf23 := hRF.2.2.2.1 (by first | (clear e1 d3 d5 d7 d9 d22; omega) | omega)
            have mn24 := Bd.men hB0
            refine sp_X12_isBaked hB0 hR0 (fun x25 y30 I26 J27 hB28 p29 => ?_)
            intro o31
            have f32 : Fr pD I I26 := p29.2
            have f33 : Fr pD I I26 := Fr.tr (Fr.refl _ _) f32 (fun _ z => z)
            have i34 := i32 x25
            refine ⟨o31, ?_⟩
            exact hQ _ _ _ _ hB28 ⟨p29.1, f33⟩
        · skip
          have d35 : (((I 102 (Int32.toNatClampNeg v1)).toInt) : Int) = (3) := ci_eq rfl rfl c8
          have e36 : ((v1 + 2) : Int32).toInt = (v1.toInt) + (2) := ti_add rfl rfl (by omega)
          refine ⟨vp_of (a := (v1.toInt + 2)) e36 (by omega) (by omega), ?_⟩
          have rf37 := hRF.2.2.1 (Or.inr (by first | (clear e1 d3 d5 d7 d35 e36; omega) | omega))
          have mn38 := Bd.men hB0
          refine sp_X12_takes hB0 hR0 (by have z1 : ((I 102 (Int32.toNatClampNeg (v1 + 1))) : Int32).toInt = (I 102 (Int32.toNatClampNeg (v1 + 1))).toInt := rfl; omega) (by have z2 : ((I 102 (Int32.toNatClampNeg (v1 + 2))) : Int32).toInt = (I 102 (Int32.toNatClampNeg (v1 + 2))).toInt := rfl; omega) (fun x39 y44 I40 J41 hB42 p43 => ?_)
          intro o45
          have f46 : Fr pD I I40 := p43.2
          have f47 : Fr pD I I40 := Fr.tr (Fr.refl _ _) f46 (fun _ z => z)
          have i48 := i32 x39
          refine ⟨o45, ?_⟩
          exact hQ _ _ _ _ hB42 ⟨p43.1, f47⟩
      · skip
        have d49 : (((I 102 (Int32.toNatClampNeg v1)).toInt) : Int) = (2) := ci_eq rfl rfl c6
        have e50 : ((v1 + 2) : Int32).toInt = (v1.toInt) + (2) := ti_add rfl rfl (by omega)
        refine ⟨vp_of (a := (v1.toInt + 2)) e50 (by omega) (by omega), ?_⟩
        have rf51 := hRF.2.2.1 (Or.inl (by first | (clear e1 d3 d5 d49 e50; omega) | omega))
        have mn52 := Bd.men hB0
        refine sp_X12_isGiven hB0 hR0 (by have z1 : ((I 102 (Int32.toNatClampNeg (v1 + 1))) : Int32).toInt = (I 102 (Int32.toNatClampNeg (v1 + 1))).toInt := rfl; omega) (by have z2 : ((I 102 (Int32.toNatClampNeg (v1 + 2))) : Int32).toInt = (I 102 (Int32.toNatClampNeg (v1 + 2))).toInt := rfl; omega) (fun x53 y58 I54 J55 hB56 p57 => ?_)
        intro o59
        have f60 : Fr pD I I54 := p57.2
        have f61 : Fr pD I I54 := Fr.tr (Fr.refl _ _) f60 (fun _ z => z)
        have i62 := i32 x53
        refine ⟨o59, ?_⟩
        exact hQ _ _ _ _ hB56 ⟨p57.1, f61⟩
    · skip
      have d63 : (((I 102 (Int32.toNatClampNeg v1)).toInt) : Int) = (1) := ci_eq rfl rfl c4
      have e64 : ((v1 + 2) : Int32).toInt = (v1.toInt) + (2) := ti_add rfl rfl (by omega)
      refine ⟨vp_of (a := (v1.toInt + 2)) e64 (by omega) (by omega), ?_⟩
      have rf65 := hRF.2.1 (by first | (clear e1 d3 d63 e64; omega) | omega)
      have mn66 := Bd.men hB0
      refine sp_X12_splits hB0 hR0 (by have z1 : ((I 102 (Int32.toNatClampNeg (v1 + 1))) : Int32).toInt = (I 102 (Int32.toNatClampNeg (v1 + 1))).toInt := rfl; omega) (by have z2 : ((I 102 (Int32.toNatClampNeg (v1 + 2))) : Int32).toInt = (I 102 (Int32.toNatClampNeg (v1 + 2))).toInt := rfl; omega) (fun x67 y72 I68 J69 hB70 p71 => ?_)
      intro o73
      have f74 : Fr pD I I68 := p71.2
      have f75 : Fr pD I I68 := Fr.tr (Fr.refl _ _) f74 (fun _ z => z)
      have i76 := i32 x67
      refine ⟨o73, ?_⟩
      exact hQ _ _ _ _ hB70 ⟨p71.1, f75⟩
  · skip
    have d77 : (((I 102 (Int32.toNatClampNeg v1)).toInt) : Int) = (0) := ci_eq rfl rfl c2
    have e78 : ((v1 + 2) : Int32).toInt = (v1.toInt) + (2) := ti_add rfl rfl (by omega)
    refine ⟨vp_of (a := (v1.toInt + 2)) e78 (by omega) (by omega), ?_⟩
    have e79 : ((v1 + 3) : Int32).toInt = (v1.toInt) + (3) := ti_add rfl rfl (by omega)
    refine ⟨vp_of (a := (v1.toInt + 3)) e79 (by omega) (by omega), ?_⟩
    have rf80 := hRF.1 (by first | (clear e1 d77 e78 e79; omega) | omega)
    have mn81 := Bd.men hB0
    refine sp_X12_cuts hB0 hR0 (by have z1 : ((I 102 (Int32.toNatClampNeg (v1 + 1))) : Int32).toInt = (I 102 (Int32.toNatClampNeg (v1 + 1))).toInt := rfl; omega) (by have z2 : ((I 102 (Int32.toNatClampNeg (v1 + 2))) : Int32).toInt = (I 102 (Int32.toNatClampNeg (v1 + 2))).toInt := rfl; omega) (by have z3 : ((I 102 (Int32.toNatClampNeg (v1 + 3))) : Int32).toInt = (I 102 (Int32.toNatClampNeg (v1 + 3))).toInt := rfl; omega) (fun x82 y87 I83 J84 hB85 p86 => ?_)
    intro o88
    have f89 : Fr pD I I83 := p86.2
    have f90 : Fr pD I I83 := Fr.tr (Fr.refl _ _) f89 (fun _ z => z)
    have i91 := i32 x82
    refine ⟨o88, ?_⟩
    exact hQ _ _ _ _ hB85 ⟨p86.1, f90⟩
set_option maxHeartbeats 2000000 in
theorem sp_X12_holds {d : Nat} {Q : Qt} {v1 : Int32} {I : Im} {J : Jm} {R : Rm} (hB0 : Bd I) (hR0 : RI R) (hRF : RF (I 102) v1 (I 102 0).toInt) (hv1 : 54 ≤ v1.toInt ∧ v1.toInt ≤ 315 ∧ (v1.toInt - 54) % 9 = 0) (hk : (I 102 v1.toNatClampNeg).toInt = 6) (hQ : ∀ (x : Int32) (y : Int64) (I2 : Im) (J2 : Jm), Bd I2 → (I = I2) → Q x y I2 J2 R) : AM (d + 4) 309 112 [.ref 97, .int v1] I J R Q := by
  have i_v1 := i32 v1
  refine w_X12_holds ?_
  have rf1 := hRF.2.2.2.2 hk
  have mn2 := Bd.men hB0
  have e3 : ((v1 + 5) : Int32).toInt = (v1.toInt) + (5) := ti_add rfl rfl (by omega)
  refine ⟨vp_of (a := (v1.toInt + 5)) e3 (by omega) (by omega), ?_⟩
  have e4 : ((v1 + 1) : Int32).toInt = (v1.toInt) + (1) := ti_add rfl rfl (by omega)
  refine ⟨vp_of (a := (v1.toInt + 1)) e4 (by omega) (by omega), ?_⟩
  refine ⟨fun c5 => ?_, fun c5 => ?_⟩
  · skip
    have d6 : ¬ (((I 102 (Int32.toNatClampNeg (v1 + 5))).toInt) : Int) = (0) := ci_ne rfl rfl c5
    refine ⟨fun c7 => ?_, fun c7 => ?_⟩
    · skip
      have d8 : ¬ (((I 102 (Int32.toNatClampNeg (v1 + 5))).toInt) : Int) = (1) := ci_ne rfl rfl c7
      have b9 := (Bd.c hB0 (j := 0) (z := 0) rfl).1 (by decide)
      refine sp_X12_lackOf hB0 hR0 (by have z : ((I 102 (Int32.toNatClampNeg (v1 + 1))) : Int32).toInt = (I 102 (Int32.toNatClampNeg (v1 + 1))).toInt := rfl; have z2 : ((I 102 0) : Int32).toInt = (I 102 0).toInt := rfl; have z3 := Bd.men hB0; omega) (fun x10 y15 I11 J12 hB13 p14 => ?_)
      subst p14
      refine ⟨fun c16 => ?_, fun c16 => ?_⟩
      · skip
        have d17 : ¬ (((I 102 (Int32.toNatClampNeg (v1 + 5))).toInt) : Int) = (1) := ci_ne rfl rfl c16
        have e18 : ((v1 + 6) : Int32).toInt = (v1.toInt) + (6) := ti_add rfl rfl (by omega)
        refine ⟨vp_of (a := (v1.toInt + 6)) e18 (by omega) (by omega), ?_⟩
        have e19 : ((v1 + 7) : Int32).toInt = (v1.toInt) + (7) := ti_add rfl rfl (by omega)
        refine ⟨vp_of (a := (v1.toInt + 7)) e19 (by omega) (by omega), ?_⟩
        refine ⟨fun c20 => ?_, fun c20 => ?_⟩
        · skip
          have d21 : ¬ (((I 102 (Int32.toNatClampNeg (v1 + 7))).toInt) : Int) = (60) := ci_ne rfl rfl c20
          refine ⟨vp_of (a := (v1.toInt + 7)) e19 (by omega) (by omega), ?_⟩
          refine ⟨fun c22 => ?_, fun c22 => ?_⟩
          · skip
            have d23 : ¬ (((I 102 (Int32.toNatClampNeg (v1 + 7))).toInt) : Int) = (62) := ci_ne rfl rfl c22
            refine ⟨fun c24 => ?_, fun c24 => ?_⟩
            · skip
              rw [lg_cmp_eq] at c24
              have d25 : ¬ (((y15 : Int64).toInt) : Int) = ((((Int32.toInt64 (I 102 (Int32.toNatClampNeg (v1 + 6)))) * 2329089562800) : Int64).toInt) := cl_ne rfl rfl c24
              refine ⟨Or.inl rfl, ?_⟩
              exact hQ _ _ _ _ hB0 rfl
            · skip
              rw [lg_cmp_eq] at c24
              have d26 : (((y15 : Int64).toInt) : Int) = ((((Int32.toInt64 (I 102 (Int32.toNatClampNeg (v1 + 6)))) * 2329089562800) : Int64).toInt) := cl_eq rfl rfl c24
              refine ⟨Or.inr rfl, ?_⟩
              exact hQ _ _ _ _ hB0 rfl
          · skip
            have d27 : (((I 102 (Int32.toNatClampNeg (v1 + 7))).toInt) : Int) = (62) := ci_eq rfl rfl c22
            refine ⟨fun c28 => ?_, fun c28 => ?_⟩
            · skip
              rw [lg_cmp_le] at c28
              have d29 : (((y15 : Int64).toInt) : Int) ≤ ((((Int32.toInt64 (I 102 (Int32.toNatClampNeg (v1 + 6)))) * 2329089562800) : Int64).toInt) := cl_le rfl rfl c28
              refine ⟨Or.inl rfl, ?_⟩
              exact hQ _ _ _ _ hB0 rfl
            · skip
              rw [lg_cmp_le] at c28
              have d30 : (((((Int32.toInt64 (I 102 (Int32.toNatClampNeg (v1 + 6)))) * 2329089562800) : Int64).toInt) : Int) < ((y15 : Int64).toInt) := cl_nle rfl rfl c28
              refine ⟨Or.inr rfl, ?_⟩
              exact hQ _ _ _ _ hB0 rfl
        · skip
          have d31 : (((I 102 (Int32.toNatClampNeg (v1 + 7))).toInt) : Int) = (60) := ci_eq rfl rfl c20
          refine ⟨fun c32 => ?_, fun c32 => ?_⟩
          · skip
            rw [lg_cmp_ge] at c32
            have d33 : (((((Int32.toInt64 (I 102 (Int32.toNatClampNeg (v1 + 6)))) * 2329089562800) : Int64).toInt) : Int) ≤ ((y15 : Int64).toInt) := cl_le rfl rfl c32
            refine ⟨Or.inl rfl, ?_⟩
            exact hQ _ _ _ _ hB0 rfl
          · skip
            rw [lg_cmp_ge] at c32
            have d34 : (((y15 : Int64).toInt) : Int) < ((((Int32.toInt64 (I 102 (Int32.toNatClampNeg (v1 + 6)))) * 2329089562800) : Int64).toInt) := cl_nle rfl rfl c32
            refine ⟨Or.inr rfl, ?_⟩
            exact hQ _ _ _ _ hB0 rfl
      · skip
        have d35 : (((I 102 (Int32.toNatClampNeg (v1 + 5))).toInt) : Int) = (1) := ci_eq rfl rfl c16
        have e36 : ((v1 + 6) : Int32).toInt = (v1.toInt) + (6) := ti_add rfl rfl (by omega)
        refine ⟨vp_of (a := (v1.toInt + 6)) e36 (by omega) (by omega), ?_⟩
        have e37 : ((v1 + 7) : Int32).toInt = (v1.toInt) + (7) := ti_add rfl rfl (by omega)
        refine ⟨vp_of (a := (v1.toInt + 7)) e37 (by omega) (by omega), ?_⟩
        refine ⟨fun c38 => ?_, fun c38 => ?_⟩
        · skip
          have d39 : ¬ (((I 102 (Int32.toNatClampNeg (v1 + 7))).toInt) : Int) = (60) := ci_ne rfl rfl c38
          refine ⟨vp_of (a := (v1.toInt + 7)) e37 (by omega) (by omega), ?_⟩
          refine ⟨fun c40 => ?_, fun c40 => ?_⟩
          · skip
            have d41 : ¬ (((I 102 (Int32.toNatClampNeg (v1 + 7))).toInt) : Int) = (62) := ci_ne rfl rfl c40
            refine ⟨fun c42 => ?_, fun c42 => ?_⟩
            · skip
              rw [lg_cmp_eq] at c42
              have i43 := i32 ((I 102 (Int32.toNatClampNeg (v1 + 6))))
              have d44 : ¬ (((y15 : Int64).toInt) : Int) = ((I 102 (Int32.toNatClampNeg (v1 + 6))).toInt) := cl_ne rfl (tl_i2l rfl) c42
              refine ⟨Or.inl rfl, ?_⟩
              exact hQ _ _ _ _ hB0 rfl
            · skip
              rw [lg_cmp_eq] at c42
              have i45 := i32 ((I 102 (Int32.toNatClampNeg (v1 + 6))))
              have d46 : (((y15 : Int64).toInt) : Int) = ((I 102 (Int32.toNatClampNeg (v1 + 6))).toInt) := cl_eq rfl (tl_i2l rfl) c42
              refine ⟨Or.inr rfl, ?_⟩
              exact hQ _ _ _ _ hB0 rfl
          · skip
            have d47 : (((I 102 (Int32.toNatClampNeg (v1 + 7))).toInt) : Int) = (62) := ci_eq rfl rfl c40
            refine ⟨fun c48 => ?_, fun c48 => ?_⟩
            · skip
              rw [lg_cmp_le] at c48
              have i49 := i32 ((I 102 (Int32.toNatClampNeg (v1 + 6))))
              have d50 : (((y15 : Int64).toInt) : Int) ≤ ((I 102 (Int32.toNatClampNeg (v1 + 6))).toInt) := cl_le rfl (tl_i2l rfl) c48
              refine ⟨Or.inl rfl, ?_⟩
              exact hQ _ _ _ _ hB0 rfl
            · skip
              rw [lg_cmp_le] at c48
              have i51 := i32 ((I 102 (Int32.toNatClampNeg (v1 + 6))))
              have d52 : (((I 102 (Int32.toNatClampNeg (v1 + 6))).toInt) : Int) < ((y15 : Int64).toInt) := cl_nle rfl (tl_i2l rfl) c48
              refine ⟨Or.inr rfl, ?_⟩
              exact hQ _ _ _ _ hB0 rfl
        · skip
          have d53 : (((I 102 (Int32.toNatClampNeg (v1 + 7))).toInt) : Int) = (60) := ci_eq rfl rfl c38
          refine ⟨fun c54 => ?_, fun c54 => ?_⟩
          · skip
            rw [lg_cmp_ge] at c54
            have i55 := i32 ((I 102 (Int32.toNatClampNeg (v1 + 6))))
            have d56 : (((I 102 (Int32.toNatClampNeg (v1 + 6))).toInt) : Int) ≤ ((y15 : Int64).toInt) := cl_le (tl_i2l rfl) rfl c54
            refine ⟨Or.inl rfl, ?_⟩
            exact hQ _ _ _ _ hB0 rfl
          · skip
            rw [lg_cmp_ge] at c54
            have i57 := i32 ((I 102 (Int32.toNatClampNeg (v1 + 6))))
            have d58 : (((y15 : Int64).toInt) : Int) < ((I 102 (Int32.toNatClampNeg (v1 + 6))).toInt) := cl_nle (tl_i2l rfl) rfl c54
            refine ⟨Or.inr rfl, ?_⟩
            exact hQ _ _ _ _ hB0 rfl
    · skip
      have d59 : (((I 102 (Int32.toNatClampNeg (v1 + 5))).toInt) : Int) = (1) := ci_eq rfl rfl c7
      have e60 : ((4 + (I 102 (Int32.toNatClampNeg (v1 + 1)))) : Int32).toInt = (4) + ((I 102 (Int32.toNatClampNeg (v1 + 1))).toInt) := ti_add rfl rfl (by omega)
      have e61 : (((4 + (I 102 (Int32.toNatClampNeg (v1 + 1)))) - 1) : Int32).toInt = ((4 + (I 102 (Int32.toNatClampNeg (v1 + 1))).toInt)) - (1) := ti_sub e60 rfl (by omega)
      refine ⟨vp_of (a := ((4 + (I 102 (Int32.toNatClampNeg (v1 + 1))).toInt) - 1)) e61 (by omega) (by omega), ?_⟩
      refine ⟨fun c62 => ?_, fun c62 => ?_⟩
      · skip
        have d63 : ¬ (((I 102 (Int32.toNatClampNeg (v1 + 5))).toInt) : Int) = (1) := ci_ne rfl rfl c62
        have e64 : ((v1 + 6) : Int32).toInt = (v1.toInt) + (6) := ti_add rfl rfl (by omega)
        refine ⟨vp_of (a := (v1.toInt + 6)) e64 (by omega) (by omega), ?_⟩
        have e65 : ((v1 + 7) : Int32).toInt = (v1.toInt) + (7) := ti_add rfl rfl (by omega)
        refine ⟨vp_of (a := (v1.toInt + 7)) e65 (by omega) (by omega), ?_⟩
        refine ⟨fun c66 => ?_, fun c66 => ?_⟩
        · skip
          have d67 : ¬ (((I 102 (Int32.toNatClampNeg (v1 + 7))).toInt) : Int) = (60) := ci_ne rfl rfl c66
          refine ⟨vp_of (a := (v1.toInt + 7)) e65 (by omega) (by omega), ?_⟩
          refine ⟨fun c68 => ?_, fun c68 => ?_⟩
          · skip
            have d69 : ¬ (((I 102 (Int32.toNatClampNeg (v1 + 7))).toInt) : Int) = (62) := ci_ne rfl rfl c68
            refine ⟨fun c70 => ?_, fun c70 => ?_⟩
            · skip
              rw [lg_cmp_eq] at c70
              have i71 := i32 ((I 102 (Int32.toNatClampNeg ((4 + (I 102 (Int32.toNatClampNeg (v1 + 1)))) - 1))))
              have d72 : ¬ (((I 102 (Int32.toNatClampNeg ((4 + (I 102 (Int32.toNatClampNeg (v1 + 1)))) - 1))).toInt) : Int) = ((((Int32.toInt64 (I 102 (Int32.toNatClampNeg (v1 + 6)))) * 2329089562800) : Int64).toInt) := cl_ne (tl_i2l rfl) rfl c70
              refine ⟨Or.inl rfl, ?_⟩
              exact hQ _ _ _ _ hB0 rfl
            · skip
              rw [lg_cmp_eq] at c70
              have i73 := i32 ((I 102 (Int32.toNatClampNeg ((4 + (I 102 (Int32.toNatClampNeg (v1 + 1)))) - 1))))
              have d74 : (((I 102 (Int32.toNatClampNeg ((4 + (I 102 (Int32.toNatClampNeg (v1 + 1)))) - 1))).toInt) : Int) = ((((Int32.toInt64 (I 102 (Int32.toNatClampNeg (v1 + 6)))) * 2329089562800) : Int64).toInt) := cl_eq (tl_i2l rfl) rfl c70
              refine ⟨Or.inr rfl, ?_⟩
              exact hQ _ _ _ _ hB0 rfl
          · skip
            have d75 : (((I 102 (Int32.toNatClampNeg (v1 + 7))).toInt) : Int) = (62) := ci_eq rfl rfl c68
            refine ⟨fun c76 => ?_, fun c76 => ?_⟩
            · skip
              rw [lg_cmp_le] at c76
              have i77 := i32 ((I 102 (Int32.toNatClampNeg ((4 + (I 102 (Int32.toNatClampNeg (v1 + 1)))) - 1))))
              have d78 : (((I 102 (Int32.toNatClampNeg ((4 + (I 102 (Int32.toNatClampNeg (v1 + 1)))) - 1))).toInt) : Int) ≤ ((((Int32.toInt64 (I 102 (Int32.toNatClampNeg (v1 + 6)))) * 2329089562800) : Int64).toInt) := cl_le (tl_i2l rfl) rfl c76
              refine ⟨Or.inl rfl, ?_⟩
              exact hQ _ _ _ _ hB0 rfl
            · skip
              rw [lg_cmp_le] at c76
              have i79 := i32 ((I 102 (Int32.toNatClampNeg ((4 + (I 102 (Int32.toNatClampNeg (v1 + 1)))) - 1))))
              have d80 : (((((Int32.toInt64 (I 102 (Int32.toNatClampNeg (v1 + 6)))) * 2329089562800) : Int64).toInt) : Int) < ((I 102 (Int32.toNatClampNeg ((4 + (I 102 (Int32.toNatClampNeg (v1 + 1)))) - 1))).toInt) := cl_nle (tl_i2l rfl) rfl c76
              refine ⟨Or.inr rfl, ?_⟩
              exact hQ _ _ _ _ hB0 rfl
        · skip
          have d81 : (((I 102 (Int32.toNatClampNeg (v1 + 7))).toInt) : Int) = (60) := ci_eq rfl rfl c66
          refine ⟨fun c82 => ?_, fun c82 => ?_⟩
          · skip
            rw [lg_cmp_ge] at c82
            have i83 := i32 ((I 102 (Int32.toNatClampNeg ((4 + (I 102 (Int32.toNatClampNeg (v1 + 1)))) - 1))))
            have d84 : (((((Int32.toInt64 (I 102 (Int32.toNatClampNeg (v1 + 6)))) * 2329089562800) : Int64).toInt) : Int) ≤ ((I 102 (Int32.toNatClampNeg ((4 + (I 102 (Int32.toNatClampNeg (v1 + 1)))) - 1))).toInt) := cl_le rfl (tl_i2l rfl) c82
            refine ⟨Or.inl rfl, ?_⟩
            exact hQ _ _ _ _ hB0 rfl
          · skip
            rw [lg_cmp_ge] at c82
            have i85 := i32 ((I 102 (Int32.toNatClampNeg ((4 + (I 102 (Int32.toNatClampNeg (v1 + 1)))) - 1))))
            have d86 : (((I 102 (Int32.toNatClampNeg ((4 + (I 102 (Int32.toNatClampNeg (v1 + 1)))) - 1))).toInt) : Int) < ((((Int32.toInt64 (I 102 (Int32.toNatClampNeg (v1 + 6)))) * 2329089562800) : Int64).toInt) := cl_nle rfl (tl_i2l rfl) c82
            refine ⟨Or.inr rfl, ?_⟩
            exact hQ _ _ _ _ hB0 rfl
      · skip
        have d87 : (((I 102 (Int32.toNatClampNeg (v1 + 5))).toInt) : Int) = (1) := ci_eq rfl rfl c62
        have e88 : ((v1 + 6) : Int32).toInt = (v1.toInt) + (6) := ti_add rfl rfl (by omega)
        refine ⟨vp_of (a := (v1.toInt + 6)) e88 (by omega) (by omega), ?_⟩
        have e89 : ((v1 + 7) : Int32).toInt = (v1.toInt) + (7) := ti_add rfl rfl (by omega)
        refine ⟨vp_of (a := (v1.toInt + 7)) e89 (by omega) (by omega), ?_⟩
        refine ⟨fun c90 => ?_, fun c90 => ?_⟩
        · skip
          have d91 : ¬ (((I 102 (Int32.toNatClampNeg (v1 + 7))).toInt) : Int) = (60) := ci_ne rfl rfl c90
          refine ⟨vp_of (a := (v1.toInt + 7)) e89 (by omega) (by omega), ?_⟩
          refine ⟨fun c92 => ?_, fun c92 => ?_⟩
          · skip
            have d93 : ¬ (((I 102 (Int32.toNatClampNeg (v1 + 7))).toInt) : Int) = (62) := ci_ne rfl rfl c92
            refine ⟨fun c94 => ?_, fun c94 => ?_⟩
            · skip
              rw [lg_cmp_eq] at c94
              have i95 := i32 ((I 102 (Int32.toNatClampNeg ((4 + (I 102 (Int32.toNatClampNeg (v1 + 1)))) - 1))))
              have i96 := i32 ((I 102 (Int32.toNatClampNeg (v1 + 6))))
              have d97 : ¬ (((I 102 (Int32.toNatClampNeg ((4 + (I 102 (Int32.toNatClampNeg (v1 + 1)))) - 1))).toInt) : Int) = ((I 102 (Int32.toNatClampNeg (v1 + 6))).toInt) := cl_ne (tl_i2l rfl) (tl_i2l rfl) c94
              refine ⟨Or.inl rfl, ?_⟩
              exact hQ _ _ _ _ hB0 rfl
            · skip
              rw [lg_cmp_eq] at c94
              have i98 := i32 ((I 102 (Int32.toNatClampNeg ((4 + (I 102 (Int32.toNatClampNeg (v1 + 1)))) - 1))))
              have i99 := i32 ((I 102 (Int32.toNatClampNeg (v1 + 6))))
              have d100 : (((I 102 (Int32.toNatClampNeg ((4 + (I 102 (Int32.toNatClampNeg (v1 + 1)))) - 1))).toInt) : Int) = ((I 102 (Int32.toNatClampNeg (v1 + 6))).toInt) := cl_eq (tl_i2l rfl) (tl_i2l rfl) c94
              refine ⟨Or.inr rfl, ?_⟩
              exact hQ _ _ _ _ hB0 rfl
          · skip
            have d101 : (((I 102 (Int32.toNatClampNeg (v1 + 7))).toInt) : Int) = (62) := ci_eq rfl rfl c92
            refine ⟨fun c102 => ?_, fun c102 => ?_⟩
            · skip
              rw [lg_cmp_le] at c102
              have i103 := i32 ((I 102 (Int32.toNatClampNeg ((4 + (I 102 (Int32.toNatClampNeg (v1 + 1)))) - 1))))
              have i104 := i32 ((I 102 (Int32.toNatClampNeg (v1 + 6))))
              have d105 : (((I 102 (Int32.toNatClampNeg ((4 + (I 102 (Int32.toNatClampNeg (v1 + 1)))) - 1))).toInt) : Int) ≤ ((I 102 (Int32.toNatClampNeg (v1 + 6))).toInt) := cl_le (tl_i2l rfl) (tl_i2l rfl) c102
              refine ⟨Or.inl rfl, ?_⟩
              exact hQ _ _ _ _ hB0 rfl
            · skip
              rw [lg_cmp_le] at c102
              have i106 := i32 ((I 102 (Int32.toNatClampNeg ((4 + (I 102 (Int32.toNatClampNeg (v1 + 1)))) - 1))))
              have i107 := i32 ((I 102 (Int32.toNatClampNeg (v1 + 6))))
              have d108 : (((I 102 (Int32.toNatClampNeg (v1 + 6))).toInt) : Int) < ((I 102 (Int32.toNatClampNeg ((4 + (I 102 (Int32.toNatClampNeg (v1 + 1)))) - 1))).toInt) := cl_nle (tl_i2l rfl) (tl_i2l rfl) c102
              refine ⟨Or.inr rfl, ?_⟩
              exact hQ _ _ _ _ hB0 rfl
        · skip
          have d109 : (((I 102 (Int32.toNatClampNeg (v1 + 7))).toInt) : Int) = (60) := ci_eq rfl rfl c90
          refine ⟨fun c110 => ?_, fun c110 => ?_⟩
          · skip
            rw [lg_cmp_ge] at c110
            have i111 := i32 ((I 102 (Int32.toNatClampNeg ((4 + (I 102 (Int32.toNatClampNeg (v1 + 1)))) - 1))))
            have i112 := i32 ((I 102 (Int32.toNatClampNeg (v1 + 6))))
            have d113 : (((I 102 (Int32.toNatClampNeg (v1 + 6))).toInt) : Int) ≤ ((I 102 (Int32.toNatClampNeg ((4 + (I 102 (Int32.toNatClampNeg (v1 + 1)))) - 1))).toInt) := cl_le (tl_i2l rfl) (tl_i2l rfl) c110
            refine ⟨Or.inl rfl, ?_⟩
            exact hQ _ _ _ _ hB0 rfl
          · skip
            rw [lg_cmp_ge] at c110
            have i114 := i32 ((I 102 (Int32.toNatClampNeg ((4 + (I 102 (Int32.toNatClampNeg (v1 + 1)))) - 1))))
            have i115 := i32 ((I 102 (Int32.toNatClampNeg (v1 + 6))))
            have d116 : (((I 102 (Int32.toNatClampNeg ((4 + (I 102 (Int32.toNatClampNeg (v1 + 1)))) - 1))).toInt) : Int) < ((I 102 (Int32.toNatClampNeg (v1 + 6))).toInt) := cl_nle (tl_i2l rfl) (tl_i2l rfl) c110
            refine ⟨Or.inr rfl, ?_⟩
            exact hQ _ _ _ _ hB0 rfl
  · skip
    have d117 : (((I 102 (Int32.toNatClampNeg (v1 + 5))).toInt) : Int) = (0) := ci_eq rfl rfl c5
    have b118 := (Bd.c hB0 (j := 0) (z := 0) rfl).1 (by decide)
    refine sp_X12_lackOf hB0 hR0 (by have z : ((I 102 (Int32.toNatClampNeg (v1 + 1))) : Int32).toInt = (I 102 (Int32.toNatClampNeg (v1 + 1))).toInt := rfl; have z2 : ((I 102 0) : Int32).toInt = (I 102 0).toInt := rfl; have z3 := Bd.men hB0; omega) (fun x119 y124 I120 J121 hB122 p123 => ?_)
    subst p123
    refine ⟨fun c125 => ?_, fun c125 => ?_⟩
    · skip
      rw [lg_cmp_eq] at c125
      have d126 : ¬ (((y124 : Int64).toInt) : Int) = (0) := cl_ne rfl rfl c125
      refine ⟨Or.inl rfl, ?_⟩
      exact hQ _ _ _ _ hB0 rfl
    · skip
      rw [lg_cmp_eq] at c125
      have d127 : (((y124 : Int64).toInt) : Int) = (0) := cl_eq rfl rfl c125
      refine ⟨Or.inr rfl, ?_⟩
      exact hQ _ _ _ _ hB0 rfl
end PT12x1
section PT12x2
noncomputable def AllS (m : Nat) : Prop := ∀ {d : Nat} {Q : Qt} {v1 v2 : Int32} {I : Im} {J : Jm} {R : Rm} (hB0 : Bd I) (hR0 : RI R) (hv1 : 0 ≤ v1.toInt) (hv2 : v2.toInt ≤ (I 102 53).toInt) (h52 : ¬ (I 102 52).toInt = 0) (hm0 : 301 - (I 97 43).toInt ≤ (m : Int)) (hQ : ∀ (x : Int32) (y : Int64) (I2 : Im) (J2 : Jm), Bd I2 → (Fr pD I I2 ∧ ((I 97 43).toInt ≤ (I2 97 43).toInt)) → Q x y I2 J2 R), AM (d + 2 * m + 7) 311 112 [.ref 97, .int v1, .int v2] I J R Q
noncomputable def BEq (I : Im) (k : Int) : Prop := ∀ j : Nat, (j : Int) < k → I 103 j = I 102 j
theorem BEq.zero {I : Im} {k : Int} (h : k ≤ 0) : BEq I k := fun j hj => absurd hj (by omega)
theorem BEq.keep {I : Im} {v : Int32} {k : Int} (h : BEq I v.toInt) (h0 : 0 ≤ v.toInt) (hk : k = v.toInt + 1) : BEq (uI I 103 (Int32.toNatClampNeg v) (I 102 (Int32.toNatClampNeg v))) k := by
  have t := tn_of (x := v) rfl h0
  intro j hj
  refine Eq.trans ?_ (rd_ne (show ¬ (102 : Nat) = 103 by decide)).symm
  by_cases q : j = Int32.toNatClampNeg v
  · subst q; exact rd_eq
  · exact (rd_k q).trans (h j (by omega))
noncomputable def BD (I : Im) : Prop := I 103 0 = I 102 0 ∧ (∀ j : Nat, 40 ≤ j → j ≤ 45 → I 103 j = I 102 j) ∧ 0 ≤ (I 103 3).toInt ∧ I 103 3 = I 102 3
theorem BD.of {M I : Im} (h : BEq M 52) (fr : Fr pD M I) (hB : Bd M) : BD I := by
  refine ⟨?_, fun j h1 h2 => ?_, ?_, ?_⟩
  · rw [fr.2, fr.1 0 (Or.inl rfl)]; exact h 0 (by decide)
  · rw [fr.2, fr.1 j (Or.inr (Or.inl ⟨h1, h2⟩))]; exact h j (by omega)
  · rw [fr.2, h 3 (by decide)]; exact hB.known0
  · rw [fr.2, fr.1 3 (Or.inr (Or.inr (Or.inr rfl)))]; exact h 3 (by decide)
theorem BD.w {M : Im} {v : Int32} (h : BD M) (h0 : 0 ≤ v.toInt) : BD (uI M 102 (Int32.toNatClampNeg v) (M 103 (Int32.toNatClampNeg v))) := by
  have g : ∀ j : Nat, M 103 j = M 102 j → uI M 102 (Int32.toNatClampNeg v) (M 103 (Int32.toNatClampNeg v)) 103 j = uI M 102 (Int32.toNatClampNeg v) (M 103 (Int32.toNatClampNeg v)) 102 j := fun j hj => by
    rw [rd_ne (by decide)]
    by_cases q : j = Int32.toNatClampNeg v
    · subst q; rw [rd_eq]
    · rw [rd_k q]; exact hj
  exact ⟨g 0 h.1, fun j h1 h2 => g j (h.2.1 j h1 h2), by rw [rd_ne (by decide)]; exact h.2.2.1, g 3 h.2.2.2⟩
/-- the mean leaves the men and what is known -/
noncomputable def FK (I0 I : Im) : Prop := I 102 0 = I0 102 0 ∧ I 102 3 = I0 102 3 ∧ ∀ j, 52 ≤ j → I 102 j = I0 102 j
theorem FK.rf {I : Im} : FK I I := ⟨rfl, rfl, fun _ _ => rfl⟩
theorem FK.u {I0 I : Im} {o k : Nat} {v : Int32} (h : FK I0 I) (ho : ¬ (102 : Nat) = o) : FK I0 (uI I o k v) := by
  have e : uI I o k v 102 = I 102 := uI_ne ho
  unfold FK at h ⊢
  rw [e]; exact h
theorem FK.fr {I0 M I : Im} (h : FK I0 M) (f : Fr pD M I) : FK I0 I := ⟨(f.1 0 (Or.inl rfl)).trans h.1, (f.1 3 (Or.inr (Or.inr (Or.inr rfl)))).trans h.2.1, fun j hj => (f.1 j (Or.inr (Or.inr (Or.inl hj)))).trans (h.2.2 j hj)⟩
theorem FK.w {I0 M : Im} {v : Int32} (h : FK I0 M) (hd : BD M) (h0 : 0 ≤ v.toInt) (h1 : v.toInt < 52) : FK I0 (uI M 102 (Int32.toNatClampNeg v) (M 103 (Int32.toNatClampNeg v))) := by
  have t := tn_of (x := v) rfl h0
  have g : ∀ j : Nat, M 103 j = M 102 j → uI M 102 (Int32.toNatClampNeg v) (M 103 (Int32.toNatClampNeg v)) 102 j = M 102 j := fun j hj => by
    by_cases q : j = Int32.toNatClampNeg v
    · subst q; rw [rd_eq]; exact hj
    · rw [rd_k q]
  exact ⟨(g 0 hd.1).trans h.1, (g 3 hd.2.2.2).trans h.2.1, fun j hj => (rd_k (by omega)).trans (h.2.2 j hj)⟩
theorem FK.kc {I I2 : Im} (h : FK I I2) : KC I I2 := fun j hj => by
  unfold pK at hj
  rcases hj with rfl | rfl | rfl | rfl | rfl | rfl | rfl | rfl
  · exact h.1
  · exact h.2.1
  all_goals exact h.2.2 _ (by decide)
theorem BEq.w {M : Im} {v : Int32} {k : Int} (h : BEq M v.toInt) (h0 : 0 ≤ v.toInt) (hk : k = v.toInt + 1) : BEq (uI M 102 (Int32.toNatClampNeg v) (M 103 (Int32.toNatClampNeg v))) k := by
  have t := tn_of (x := v) rfl h0
  intro j hj
  rw [rd_ne (by decide)]
  by_cases q : j = Int32.toNatClampNeg v
  · subst q; rw [rd_eq]
  · rw [rd_k q]; exact h j (by omega)
theorem Bd.rest {M : Im} {v : Int32} (hB : Bd M) (h : BD M) (h0 : 0 ≤ v.toInt ∧ v.toInt < 52) : Bd (uI M 102 (Int32.toNatClampNeg v) (M 103 (Int32.toNatClampNeg v))) := by
  have t := tn_of (x := v) rfl h0.1
  have same : M 103 (Int32.toNatClampNeg v) = M 102 (Int32.toNatClampNeg v) → Bd (uI M 102 (Int32.toNatClampNeg v) (M 103 (Int32.toNatClampNeg v))) := fun e => by
    have : uI M 102 (Int32.toNatClampNeg v) (M 102 (Int32.toNatClampNeg v)) = M := by
      funext o j
      by_cases q : o = 102
      · subst q
        by_cases r : j = Int32.toNatClampNeg v
        · subst r; exact rd_eq
        · exact rd_k r
      · exact rd_ne q
    rw [e, this]; exact hB
  by_cases q0 : v.toInt = 0
  · exact same (by rw [show Int32.toNatClampNeg v = 0 by omega]; exact h.1)
  · by_cases q1 : 40 ≤ v.toInt ∧ v.toInt ≤ 45
    · exact same (h.2.1 _ (by omega) (by omega))
    · by_cases q3 : v.toInt = 3
      · exact Bd.cknown hB rfl rfl (by omega) (by omega) (by rw [show Int32.toNatClampNeg v = 3 by omega]; exact h.2.2.1)
      · exact Bd.cfree hB rfl (by omega) (by omega) (by omega) (by omega)
theorem loafs {v : Int32} (h : 1 ≤ v.toInt ∧ v.toInt ≤ 20) : ¬ (Int32.toInt64 v * 2329089562800 : Int64) = 0 := fun z => by
  have h1 : (Int32.toInt64 v * 2329089562800 : Int64).toInt = v.toInt * 2329089562800 := by
    rw [Int64.toInt_mul, tl_i2l (x := v) rfl, show (2329089562800 : Int64).toInt = 2329089562800 from rfl]; exact tl_bmod (by omega) (by omega)
  rw [z] at h1
  have h2 : (0 : Int64).toInt = 0 := rfl
  omega
set_option maxHeartbeats 2000000 in
theorem sp_X12_doOne_s {m : Nat} (ihA : AllS m) {d : Nat} {Q : Qt} {v1 : Int32} {I : Im} {J : Jm} {R : Rm} (hB0 : Bd I) (hR0 : RI R) (hv1 : 0 ≤ v1.toInt ∧ v1.toInt < (I 102 53).toInt) (h52 : ¬ (I 102 52).toInt = 0) (hm0 : 301 - (I 97 43).toInt ≤ (m : Int) + 1) (hQ : ∀ (x : Int32) (y : Int64) (I2 : Im) (J2 : Jm), Bd I2 → (Fr pD I I2 ∧ ((I 97 43).toInt ≤ (I2 97 43).toInt)) → Q x y I2 J2 R) : AM (d + 2 * m + 8) 310 112 [.ref 97, .int v1] I J R Q := by
  have i_v1 := i32 v1
  refine am_X12_doOne (fun P hc => ?_)
  have L : ∀ n : Nat, (∀ (v2 : Int32) (v3 : Int32) (M : Im) (JM : Jm), Bd M → Fr pD I M → (0 ≤ v1.toInt ∧ v1.toInt < (M 102 53).toInt ∧ ¬ (M 102 52).toInt = 0 ∧ v2.toInt = 54 + 9 * v1.toInt ∧ (I 97 43).toInt + 1 ≤ (M 97 43).toInt) → 1000 < (n : Int) → P 110 112 [(0, .ref 97), (1, .int v1), (2, .int v2), (3, .int v3)] [] M JM R) ∧ (∀ (v2 : Int32) (v4 : Int32) (M : Im) (JM : Jm), Bd M → Fr pD I M → (0 ≤ v1.toInt ∧ v1.toInt < (M 102 53).toInt ∧ ¬ (M 102 52).toInt = 0 ∧ v2.toInt = 54 + 9 * v1.toInt ∧ (I 97 43).toInt + 1 ≤ (M 97 43).toInt ∧ 0 ≤ v4.toInt ∧ v4.toInt ≤ 99) → 200 - v4.toInt < (n : Int) → P 119 112 [(0, .ref 97), (1, .int v1), (2, .int v2), (4, .int v4)] [] M JM R) := by
    intro n
    induction n with
    | zero =>
      exact ⟨fun v2 v3 M J _ _ hi hm => absurd hm (by omega), fun v2 v4 M J _ _ hi hm => absurd hm (by omega)⟩
    | succ n ih =>
      refine ⟨?_, ?_⟩
      · skip
        intro v2 v3 M JM hB hf hi hm
        have i_v1 := i32 v1
        have i_v2 := i32 v2
        have i_v3 := i32 v3
        refine sg_X12_doOne_110 hc _ _ _ _ _ _ ?_
        have e1 : ((M 102 52) : Int32).toInt = (I 102 52).toInt := Eq.trans (congrArg Int32.toInt (hf.1 52 (by unfold pD; omega))) rfl
        have b2 := (Bd.c hB0 (j := 53) (z := 53) rfl).2.2.1 (by decide)
        have e3 : ((M 102 53) : Int32).toInt = (I 102 53).toInt := Eq.trans (congrArg Int32.toInt (hf.1 53 (by unfold pD; omega))) rfl
        have b4 := Bd.o hB io9_112_97_12 bd9_12_43
        refine ⟨fun c5 => ?_, fun c5 => ?_⟩
        · skip
          have d6 : ¬ ((v3.toInt) : Int) = (7) := ci_ne rfl rfl c5
          refine ⟨fun c7 => ?_, fun c7 => ?_⟩
          · skip
            have d8 : ((v3.toInt) : Int) ≤ (7) := ci_le rfl rfl c7
            have b9 := Bd.o hB0 io9_112_97_12 bd9_12_43
            exact hQ _ _ _ _ hB ⟨hf, (by have q2 : ((M 97 43) : Int32).toInt = (M 97 43).toInt := rfl; omega)⟩
          · skip
            have d10 : ((7) : Int) < (v3.toInt) := ci_nle rfl rfl c7
            refine ⟨Or.inr rfl, ?_⟩
            have hB11 : Bd (uI M 97 41 1) := Bd.o1 hB io9_112_97_12 (by decide) bd9_12_41 rfl (bl_ti (Or.inr rfl))
            have f12 : Fr pD I (uI M 97 41 1) := Fr.o hf (by decide) (by decide)
            have b13 := Bd.o hB0 io9_112_97_12 bd9_12_43
            have e14 : (((uI M 97 41 1) 97 43) : Int32).toInt = (M 97 43).toInt := Eq.trans (congrArg Int32.toInt (rd_k (by decide))) rfl
            exact hQ _ _ _ _ hB11 ⟨f12, (by have q2 : (((uI M 97 41 1) 97 43) : Int32).toInt = (M 97 43).toInt := e14; omega)⟩
        · skip
          have d15 : ((v3.toInt) : Int) = (7) := ci_eq rfl rfl c5
          exact ih.2 _ _ _ _ hB hf (by have q0 : (v2 : Int32).toInt = v2.toInt := rfl; have q1 : (0 : Int32).toInt = 0 := rfl; have q2 : ((M 102 53) : Int32).toInt = (I 102 53).toInt := e3; have q3 : ((M 102 52) : Int32).toInt = (I 102 52).toInt := e1; have q4 : ((M 97 43) : Int32).toInt = (M 97 43).toInt := rfl; omega) (by have q0 : (0 : Int32).toInt = 0 := rfl; omega)
      · skip
        intro v2 v4 M JM hB hf hi hm
        have i_v1 := i32 v1
        have i_v2 := i32 v2
        have i_v4 := i32 v4
        refine sg_X12_doOne_119 hc _ _ _ _ _ _ ?_
        have e16 : ((M 102 52) : Int32).toInt = (I 102 52).toInt := Eq.trans (congrArg Int32.toInt (hf.1 52 (by unfold pD; omega))) rfl
        have b17 := (Bd.c hB0 (j := 53) (z := 53) rfl).2.2.1 (by decide)
        have e18 : ((M 102 53) : Int32).toInt = (I 102 53).toInt := Eq.trans (congrArg Int32.toInt (hf.1 53 (by unfold pD; omega))) rfl
        have b19 := Bd.o hB io9_112_97_12 bd9_12_43
        have w20 : ((M 102 52) : Int32).toInt = (I 102 52).toInt := e16
        have w21 : ((M 102 53) : Int32).toInt = (I 102 53).toInt := e18
        have hr := Bd.rec hB (s := v1) (w := v2) (by omega) (by omega) (show (v2 : Int32).toInt = 54 + 9 * v1.toInt by have z : (v2 : Int32).toInt = v2.toInt := rfl; omega)
        have h99 := (Bd.c hB (j := Int32.toNatClampNeg (v2 + 1)) (z := v2.toInt + 1) (tn_of (ti_add rfl (show (1 : Int32).toInt = 1 from rfl) (by omega)) (by omega))).2.2.2.2.2 (by omega) (by omega) (by omega)
        have e22 : ((v2 + 1) : Int32).toInt = (v2.toInt) + (1) := ti_add rfl rfl (by omega)
        refine ⟨vp_of (a := (v2.toInt + 1)) e22 (by omega) (by omega), ?_⟩
        refine ⟨fun c23 => ?_, fun c23 => ?_⟩
        · skip
          have d24 : (((M 102 (Int32.toNatClampNeg (v2 + 1))).toInt) : Int) ≤ (v4.toInt) := ci_le rfl rfl c23
          have b25 := Bd.o hB0 io9_112_97_12 bd9_12_43
          exact hQ _ _ _ _ hB ⟨hf, (by have q2 : ((M 97 43) : Int32).toInt = (M 97 43).toInt := rfl; omega)⟩
        · skip
          have d26 : ((v4.toInt) : Int) < ((M 102 (Int32.toNatClampNeg (v2 + 1))).toInt) := ci_nle rfl rfl c23
          refine ⟨fun c27 => ?_, fun c27 => ?_⟩
          · skip
            have b28 := Bd.o hB io9_112_97_12 bd9_12_41
            have d29 : ¬ (((M 97 41).toInt) : Int) = (0) := ci_ne rfl rfl c27
            have b30 := Bd.o hB0 io9_112_97_12 bd9_12_43
            exact hQ _ _ _ _ hB ⟨hf, (by have q2 : ((M 97 43) : Int32).toInt = (M 97 43).toInt := rfl; omega)⟩
          · skip
            have b31 := Bd.o hB io9_112_97_12 bd9_12_41
            have d32 : (((M 97 41).toInt) : Int) = (0) := ci_eq rfl rfl c27
            have e33 : ((v2 + 8) : Int32).toInt = (v2.toInt) + (8) := ti_add rfl rfl (by first | (clear e16 e18 b19 b31 d32; omega) | omega)
            refine ⟨vp_of (a := (v2.toInt + 8)) e33 (by first | (clear e16 e18 b19 b31 d32; omega) | omega) (by first | (clear e16 e18 b19 b31 d32; omega) | omega), ?_⟩
            have e34 : ((v1 + 1) : Int32).toInt = (v1.toInt) + (1) := ti_add rfl rfl (by first | (clear e16 e18 b19 e22 d26 b31 d32 e33; omega) | omega)
            refine ihA hB hR0 (by have z1 : ((v1 + 1) : Int32).toInt = (v1.toInt + 1) := e34; have y52 : ((M 102 52)).toInt = (I 102 52).toInt := e16; have y53 : ((M 102 53)).toInt = (I 102 53).toInt := e18; omega) (by have z2 : ((M 102 (Int32.toNatClampNeg (v2 + 8))) : Int32).toInt = (M 102 (Int32.toNatClampNeg (v2 + 8))).toInt := rfl; have y52 : ((M 102 52)).toInt = (I 102 52).toInt := e16; have y53 : ((M 102 53)).toInt = (I 102 53).toInt := e18; omega) (by have y52 : ((M 102 52)).toInt = (I 102 52).toInt := e16; have y53 : ((M 102 53)).toInt = (I 102 53).toInt := e18; omega) (by have z : ((M 97 43)).toInt = (M 97 43).toInt := rfl; omega) (fun x35 y40 I36 J37 hB38 p39 => ?_)
            have f41 : Fr pD M I36 := p39.1
            have f42 : Fr pD I I36 := Fr.tr hf f41 (fun _ z => z)
            have q43 : ((v1 + 1) : Int32).toInt = (v1.toInt + 1) := e34
            have b44 := Bd.o hB38 io9_112_97_12 bd9_12_43
            have e45 : ((v4 + 1) : Int32).toInt = (v4.toInt) + (1) := ti_add rfl rfl (by first | (clear e16 e18 b19 e22 b31 d32 e33 e34 p39 q43 b44; omega) | omega)
            have e46 : ((I36 102 53) : Int32).toInt = (I 102 53).toInt := Eq.trans (congrArg Int32.toInt (Eq.trans (f41.1 53 (by unfold pD; omega)) (hf.1 53 (by unfold pD; omega)))) rfl
            have e47 : ((I36 102 52) : Int32).toInt = (I 102 52).toInt := Eq.trans (congrArg Int32.toInt (Eq.trans (f41.1 52 (by unfold pD; omega)) (hf.1 52 (by unfold pD; omega)))) rfl
            exact ih.2 _ _ _ _ hB38 f42 (by have q0 : (v2 : Int32).toInt = v2.toInt := rfl; have q1 : ((v4 + 1) : Int32).toInt = (v4.toInt + 1) := e45; have q2 : ((I36 102 53) : Int32).toInt = (I 102 53).toInt := e46; have q3 : ((I36 102 52) : Int32).toInt = (I 102 52).toInt := e47; have q4 : ((I36 97 43) : Int32).toInt = (I36 97 43).toInt := rfl; omega) (by have q0 : ((v4 + 1) : Int32).toInt = (v4.toInt + 1) := e45; omega)
  refine sg_X12_doOne_0 hc _ _ _ _ ?_
  refine ⟨fun c48 => ?_, fun c48 => ?_⟩
  · skip
    have b49 := Bd.o hB0 io9_112_97_12 bd9_12_43
    have d50 : ¬ (((I 97 43).toInt) : Int) = (300) := ci_ne rfl rfl c48
    have e52 : (((I 97 43) + 1) : Int32).toInt = ((I 97 43).toInt) + (1) := ti_add rfl rfl (by omega)
    have hB51 : Bd (uI I 97 43 ((I 97 43) + 1)) := Bd.o1 hB0 io9_112_97_12 (by decide) bd9_12_43 (show (((I 97 43) + 1) : Int32).toInt = ((I 97 43).toInt + 1) from e52) (by omega)
    have f53 : Fr pD I (uI I 97 43 ((I 97 43) + 1)) := Fr.o (Fr.refl _ _) (by decide) (by decide)
    have h53 := (Bd.c hB0 (j := 53) (z := 53) rfl).2.2.1 (by decide)
    have hr := Bd.rec hB0 (s := v1) (w := (54 + (9 * v1))) h52 hv1 (ti_add (show (54 : Int32).toInt = 54 from rfl) (ti_mul (show (9 : Int32).toInt = 9 from rfl) rfl (by omega)) (by omega))
    have e54 : ((9 * v1) : Int32).toInt = (9) * (v1.toInt) := ti_mul rfl rfl (by omega)
    have e55 : ((54 + (9 * v1)) : Int32).toInt = (54) + ((9 * v1.toInt)) := ti_add rfl e54 (by omega)
    refine ⟨vp_of (a := (54 + (9 * v1.toInt))) e55 (by omega) (by omega), ?_⟩
    refine ⟨fun c56 => ?_, fun c56 => ?_⟩
    · skip
      have e57 : (((uI I 97 43 ((I 97 43) + 1)) 102 (Int32.toNatClampNeg (54 + (9 * v1)))) : Int32).toInt = (I 102 (Int32.toNatClampNeg (54 + (9 * v1)))).toInt := Eq.trans (congrArg Int32.toInt (rd_ne (by first | decide | omega))) rfl
      have d58 : ((6) : Int) ≤ ((I 102 (Int32.toNatClampNeg (54 + (9 * v1)))).toInt) := ci_le rfl e57 c56
      refine ⟨fun c59 => ?_, fun c59 => ?_⟩
      · skip
        have d60 : ¬ (((I 102 (Int32.toNatClampNeg (54 + (9 * v1)))).toInt) : Int) = (6) := ci_ne e57 rfl c59
        have b61 := (Bd.c hB0 (j := 53) (z := 53) rfl).2.2.1 (by decide)
        have e62 : (((uI I 97 43 ((I 97 43) + 1)) 102 53) : Int32).toInt = (I 102 53).toInt := Eq.trans (congrArg Int32.toInt (rd_ne (by first | decide | omega))) rfl
        have e63 : (((uI I 97 43 ((I 97 43) + 1)) 102 52) : Int32).toInt = (I 102 52).toInt := Eq.trans (congrArg Int32.toInt (rd_ne (by first | decide | omega))) rfl
        have e64 : (((uI I 97 43 ((I 97 43) + 1)) 97 43) : Int32).toInt = ((I 97 43).toInt + 1) := Eq.trans (congrArg Int32.toInt rd_eq) e52
        exact (L 1000000).1 _ _ _ _ hB51 f53 (by have q0 : ((54 + (9 * v1)) : Int32).toInt = (54 + (9 * v1.toInt)) := e55; have q1 : (((uI I 97 43 ((I 97 43) + 1)) 102 53) : Int32).toInt = (I 102 53).toInt := e62; have q2 : (((uI I 97 43 ((I 97 43) + 1)) 102 52) : Int32).toInt = (I 102 52).toInt := e63; have q3 : (((uI I 97 43 ((I 97 43) + 1)) 97 43) : Int32).toInt = ((I 97 43).toInt + 1) := e64; omega) (by omega)
      · skip
        have d65 : (((I 102 (Int32.toNatClampNeg (54 + (9 * v1)))).toInt) : Int) = (6) := ci_eq e57 rfl c59
        refine sp_X12_holds hB51 hR0 (by rw [show ((uI I 97 43 ((I 97 43) + 1)) 102) = I 102 from (uI_ne (by decide))]; exact hr.1) (by have z1 : ((54 + (9 * v1)) : Int32).toInt = (54 + (9 * v1.toInt)) := e55; omega) (by have z : (((uI I 97 43 ((I 97 43) + 1)) 102 (Int32.toNatClampNeg (54 + (9 * v1)))) : Int32).toInt = (I 102 (Int32.toNatClampNeg (54 + (9 * v1)))).toInt := e57; omega) (fun x66 y71 I67 J68 hB69 p70 => ?_)
        intro o72
        subst p70
        have i73 := i32 x66
        refine ⟨fun c74 => ?_, fun c74 => ?_⟩
        · skip
          have d75 : ((x66.toInt) : Int) = (0) := ci_eq rfl rfl c74
          have b76 := (Bd.c hB0 (j := 53) (z := 53) rfl).2.2.1 (by decide)
          have e77 : (((uI I 97 43 ((I 97 43) + 1)) 102 53) : Int32).toInt = (I 102 53).toInt := Eq.trans (congrArg Int32.toInt (rd_ne (by first | decide | omega))) rfl
          have e78 : (((uI I 97 43 ((I 97 43) + 1)) 102 52) : Int32).toInt = (I 102 52).toInt := Eq.trans (congrArg Int32.toInt (rd_ne (by first | decide | omega))) rfl
          have e79 : (((uI I 97 43 ((I 97 43) + 1)) 97 43) : Int32).toInt = ((I 97 43).toInt + 1) := Eq.trans (congrArg Int32.toInt rd_eq) e52
          exact (L 1000000).1 _ _ _ _ hB51 f53 (by have q0 : ((54 + (9 * v1)) : Int32).toInt = (54 + (9 * v1.toInt)) := e55; have q1 : (((uI I 97 43 ((I 97 43) + 1)) 102 53) : Int32).toInt = (I 102 53).toInt := e77; have q2 : (((uI I 97 43 ((I 97 43) + 1)) 102 52) : Int32).toInt = (I 102 52).toInt := e78; have q3 : (((uI I 97 43 ((I 97 43) + 1)) 97 43) : Int32).toInt = ((I 97 43).toInt + 1) := e79; omega) (by omega)
        · skip
          have d80 : ¬ ((x66.toInt) : Int) = (0) := ci_ne rfl rfl c74
          have e81 : (((54 + (9 * v1)) + 8) : Int32).toInt = ((54 + (9 * v1.toInt))) + (8) := ti_add e55 rfl (by first | (clear b49 d50 e52 p70 i73 d80; omega) | omega)
          refine ⟨vp_of (a := ((54 + (9 * v1.toInt)) + 8)) e81 (by first | (clear b49 d50 e52 p70 i73 d80; omega) | omega) (by first | (clear b49 d50 e52 p70 i73 d80; omega) | omega), ?_⟩
          have e82 : ((v1 + 1) : Int32).toInt = (v1.toInt) + (1) := ti_add rfl rfl (by first | (clear b49 d50 e52 p70 i73 d80; omega) | omega)
          have e83 : (((uI I 97 43 ((I 97 43) + 1)) 102 52) : Int32).toInt = (I 102 52).toInt := Eq.trans (congrArg Int32.toInt (rd_ne (by first | decide | omega))) rfl
          have b84 := (Bd.c hB0 (j := 53) (z := 53) rfl).2.2.1 (by decide)
          have e85 : (((uI I 97 43 ((I 97 43) + 1)) 102 53) : Int32).toInt = (I 102 53).toInt := Eq.trans (congrArg Int32.toInt (rd_ne (by first | decide | omega))) rfl
          have e86 : (((uI I 97 43 ((I 97 43) + 1)) 102 (Int32.toNatClampNeg ((54 + (9 * v1)) + 8))) : Int32).toInt = (I 102 (Int32.toNatClampNeg ((54 + (9 * v1)) + 8))).toInt := Eq.trans (congrArg Int32.toInt (rd_ne (by first | decide | omega))) rfl
          have e87 : (((uI I 97 43 ((I 97 43) + 1)) 97 43) : Int32).toInt = ((I 97 43).toInt + 1) := Eq.trans (congrArg Int32.toInt rd_eq) e52
          refine ihA hB51 hR0 (by have z1 : ((v1 + 1) : Int32).toInt = (v1.toInt + 1) := e82; have y52 : (((uI I 97 43 ((I 97 43) + 1)) 102 52)).toInt = (I 102 52).toInt := e83; have y53 : (((uI I 97 43 ((I 97 43) + 1)) 102 53)).toInt = (I 102 53).toInt := e85; omega) (by have z2 : (((uI I 97 43 ((I 97 43) + 1)) 102 (Int32.toNatClampNeg ((54 + (9 * v1)) + 8))) : Int32).toInt = (I 102 (Int32.toNatClampNeg ((54 + (9 * v1)) + 8))).toInt := e86; have y52 : (((uI I 97 43 ((I 97 43) + 1)) 102 52)).toInt = (I 102 52).toInt := e83; have y53 : (((uI I 97 43 ((I 97 43) + 1)) 102 53)).toInt = (I 102 53).toInt := e85; omega) (by have y52 : (((uI I 97 43 ((I 97 43) + 1)) 102 52)).toInt = (I 102 52).toInt := e83; have y53 : (((uI I 97 43 ((I 97 43) + 1)) 102 53)).toInt = (I 102 53).toInt := e85; omega) (by have z : (((uI I 97 43 ((I 97 43) + 1)) 97 43)).toInt = ((I 97 43).toInt + 1) := e87; omega) (fun x88 y93 I89 J90 hB91 p92 => ?_)
          have f94 : Fr pD (uI I 97 43 ((I 97 43) + 1)) I89 := p92.1
          have f95 : Fr pD I I89 := Fr.tr f53 f94 (fun _ z => z)
          have q96 : ((v1 + 1) : Int32).toInt = (v1.toInt + 1) := e82
          have b97 := Bd.o hB91 io9_112_97_12 bd9_12_43
          exact hQ _ _ _ _ hB91 ⟨f95, (by have q2 : ((I89 97 43) : Int32).toInt = (I89 97 43).toInt := rfl; omega)⟩
    · skip
      have e98 : (((uI I 97 43 ((I 97 43) + 1)) 102 (Int32.toNatClampNeg (54 + (9 * v1)))) : Int32).toInt = (I 102 (Int32.toNatClampNeg (54 + (9 * v1)))).toInt := Eq.trans (congrArg Int32.toInt (rd_ne (by first | decide | omega))) rfl
      have d99 : (((I 102 (Int32.toNatClampNeg (54 + (9 * v1)))).toInt) : Int) < (6) := ci_nle rfl e98 c56
      refine sp_X12_does hB51 hR0 (by rw [show ((uI I 97 43 ((I 97 43) + 1)) 102) = I 102 from (uI_ne (by decide))]; exact hr.1) (by have z1 : ((54 + (9 * v1)) : Int32).toInt = (54 + (9 * v1.toInt)) := e55; omega) (fun x100 y105 I101 J102 hB103 p104 => ?_)
      intro o106
      have f107 : Fr pD (uI I 97 43 ((I 97 43) + 1)) I101 := p104.2
      have f108 : Fr pD I I101 := Fr.tr f53 f107 (fun _ z => z)
      have i109 := i32 x100
      refine ⟨fun c110 => ?_, fun c110 => ?_⟩
      · skip
        have d111 : ((x100.toInt) : Int) = (0) := ci_eq rfl rfl c110
        have hB112 : Bd (uI I101 97 44 (((uI I 97 43 ((I 97 43) + 1)) 97 44) + 1)) := Bd.o0 hB103 io9_112_97_12 (by decide) bd9_12_44
        have f113 : Fr pD I (uI I101 97 44 (((uI I 97 43 ((I 97 43) + 1)) 97 44) + 1)) := Fr.o f108 (by decide) (by decide)
        have e114 : (((uI I101 97 44 (((uI I 97 43 ((I 97 43) + 1)) 97 44) + 1)) 97 43) : Int32).toInt = ((I 97 43).toInt + 1) := Eq.trans (congrArg Int32.toInt (Eq.trans (Eq.trans (rd_k (by decide)) p104.1) rd_eq)) e52
        exact hQ _ _ _ _ hB112 ⟨f113, (by have q2 : (((uI I101 97 44 (((uI I 97 43 ((I 97 43) + 1)) 97 44) + 1)) 97 43) : Int32).toInt = ((I 97 43).toInt + 1) := e114; omega)⟩
      · skip
        have d115 : ¬ ((x100.toInt) : Int) = (0) := ci_ne rfl rfl c110
        have hB116 : Bd (uI I101 97 44 (((uI I 97 43 ((I 97 43) + 1)) 97 44) + 0)) := Bd.o0 hB103 io9_112_97_12 (by decide) bd9_12_44
        have f117 : Fr pD I (uI I101 97 44 (((uI I 97 43 ((I 97 43) + 1)) 97 44) + 0)) := Fr.o f108 (by decide) (by decide)
        have e118 : (((uI I101 97 44 (((uI I 97 43 ((I 97 43) + 1)) 97 44) + 0)) 97 43) : Int32).toInt = ((I 97 43).toInt + 1) := Eq.trans (congrArg Int32.toInt (Eq.trans (Eq.trans (rd_k (by decide)) p104.1) rd_eq)) e52
        exact hQ _ _ _ _ hB116 ⟨f117, (by have q2 : (((uI I101 97 44 (((uI I 97 43 ((I 97 43) + 1)) 97 44) + 0)) 97 43) : Int32).toInt = ((I 97 43).toInt + 1) := e118; omega)⟩
  · skip
    have b119 := Bd.o hB0 io9_112_97_12 bd9_12_43
    have d120 : (((I 97 43).toInt) : Int) = (300) := ci_eq rfl rfl c48
    refine ⟨Or.inr rfl, ?_⟩
    have hB121 : Bd (uI I 97 41 1) := Bd.o1 hB0 io9_112_97_12 (by decide) bd9_12_41 rfl (bl_ti (Or.inr rfl))
    have f122 : Fr pD I (uI I 97 41 1) := Fr.o (Fr.refl _ _) (by decide) (by decide)
    have hB123 : Bd (uI (uI I 97 41 1) 97 48 1) := Bd.o0 hB121 io9_112_97_12 (by decide) bd9_12_48
    have f124 : Fr pD I (uI (uI I 97 41 1) 97 48 1) := Fr.o f122 (by decide) (by decide)
    have e125 : (((uI (uI I 97 41 1) 97 48 1) 97 43) : Int32).toInt = (I 97 43).toInt := Eq.trans (congrArg Int32.toInt (Eq.trans (rd_k (by decide)) (rd_k (by decide)))) rfl
    exact hQ _ _ _ _ hB123 ⟨f124, (by have q2 : (((uI (uI I 97 41 1) 97 48 1) 97 43) : Int32).toInt = (I 97 43).toInt := e125; omega)⟩
end PT12x2
