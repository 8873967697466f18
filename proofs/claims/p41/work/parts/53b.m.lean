theorem rd_e {I : Im} {o j k : Nat} {v : Int32} (h : k = j) : uI I o j v o k = v := by rw [h]; exact rd_eq
/-- the blocks' row set whole -/
noncomputable def sIm (I : Im) (g : Nat → Int32) : Im := fun o => if o = 102 then g else I o
theorem sIm_c {I : Im} {g : Nat → Int32} : sIm I g 102 = g := if_pos rfl
theorem sIm_o {I : Im} {g : Nat → Int32} {o : Nat} (h : ¬ o = 102) : sIm I g o = I o := if_neg h
theorem sIm_u {I : Im} {g : Nat → Int32} {j : Nat} {v : Int32} : uI (sIm I g) 102 j v = sIm I (upd g j v) := by
  funext o
  by_cases q : o = 102
  · subst q; rw [uI_eq, sIm_c, sIm_c]
  · rw [uI_ne q, sIm_o q, sIm_o q]
theorem sIm_0 {I : Im} {g : Nat → Int32} (h : g = I 102) : sIm I g = I := by
  subst h
  funext o
  by_cases q : o = 102
  · subst q; exact sIm_c
  · exact sIm_o q
theorem Bd.sIm {I : Im} (h : Bd I) {g : Nat → Int32} (hg : CK g) : Bd (sIm I g) := by
  refine ⟨fun o k lo hi hb => ?_, fun a j lo hi hb => ?_, by rw [sIm_c]; exact hg⟩
  · by_cases q : o = 102
    · subst q; cases hb
    · rw [sIm_o q]; exact h.1 o k lo hi hb
  · by_cases q : a = 102
    · subst q; cases hb; exact ⟨Int32.le_toInt _, Int.le_of_lt_add_one (Int32.toInt_lt _)⟩
    · rw [sIm_o q]; exact h.2.1 a j lo hi hb
noncomputable def zer (f : Nat → Int32) (b n : Nat) : Nat → Int32 := fun j => if 324 * b ≤ j ∧ j < 324 * b + n then 0 else f j
theorem zer_n {f : Nat → Int32} {b n : Nat} : upd (zer f b n) (324 * b + n) 0 = zer f b (n + 1) := by
  funext j
  by_cases q : j = 324 * b + n
  · subst q; rw [upd_s]; unfold zer; rw [if_pos (by omega)]
  · rw [upd_i q]; unfold zer
    by_cases r : 324 * b ≤ j ∧ j < 324 * b + n
    · rw [if_pos r, if_pos (by omega)]
    · rw [if_neg r, if_neg (by omega)]
theorem CK.zerK {f : Nat → Int32} (h : CK f) {b : Nat} (hb : b < 5) : CK (upd (upd (zer f b 324) (324 * b + 1) 4) (324 * b + 3) 1073741823) := by
  have hz : ∀ j : Nat, 324 * b ≤ j → j < 324 * b + 324 → ¬ j = 324 * b + 1 → ¬ j = 324 * b + 3 → upd (upd (zer f b 324) (324 * b + 1) 4) (324 * b + 3) 1073741823 j = 0 := fun j h1 h2 h3 h4 => by
    rw [upd_i h4, upd_i h3]; exact if_pos ⟨h1, h2⟩
  have ho : ∀ j : Nat, (j < 324 * b ∨ 324 * b + 324 ≤ j) → upd (upd (zer f b 324) (324 * b + 1) 4) (324 * b + 3) 1073741823 j = f j := fun j h1 => by
    rw [upd_i (by omega), upd_i (by omega)]; exact if_neg (by omega)
  have z0 : (0 : Int32).toInt = 0 := rfl
  refine ⟨fun j => ?_, fun c k hc hk => ?_, fun c s hc hd hs => ?_⟩
  · by_cases q1 : j = 324 * b + 3
    · subst q1; rw [upd_s]; have z1 : (1073741823 : Int32).toInt = 1073741823 := rfl
      unfold CB; omega
    · by_cases q2 : j = 324 * b + 1
      · subst q2; rw [upd_i (by omega), upd_s]; have z1 : (4 : Int32).toInt = 4 := rfl
        unfold CB; omega
      · by_cases q3 : 324 * b ≤ j ∧ j < 324 * b + 324
        · rw [hz j q3.1 q3.2 q2 q1]; unfold CB; omega
        · rw [ho j (by omega)]; exact h.1 j
  · by_cases q : c = b
    · subst q
      rw [hz (324 * c) (by omega) (by omega) (by omega) (by omega)] at hk
      omega
    · have h6 := (h.1 (324 * c)).1 (by omega)
      rw [ho (324 * c) (by omega)] at hk
      rw [ho (324 * c + 40 + k) (by omega)]
      exact h.2.1 c k hc hk
  · by_cases q : c = b
    · subst q
      rw [hz (324 * c + 52) (by omega) (by omega) (by omega) (by omega)] at hd
      exact absurd rfl hd
    · have h6 := (h.1 (324 * c + 53)).2.2.1 (by omega)
      rw [ho (324 * c + 52) (by omega)] at hd
      rw [ho (324 * c + 53) (by omega)] at hs
      have q := h.2.2 c s hc hd hs
      unfold RecOk at q ⊢
      rw [ho (324 * c + 54 + 9 * s) (by omega), ho (324 * c + 54 + 9 * s + 1) (by omega), ho (324 * c + 54 + 9 * s + 2) (by omega), ho (324 * c + 54 + 9 * s + 3) (by omega), ho (324 * c + 54 + 9 * s + 5) (by omega), ho (324 * c + 54 + 9 * s + 8) (by omega), ho (324 * c + 53) (by omega), ho (324 * c) (by omega)]
      exact q
theorem cel {b k : Nat} {v i : Int32} {z : Int} (hv : v.toInt = b) (hb : b < 5) (hi : i.toInt = z) (hz : 0 ≤ z ∧ z < 324) (hk : z = k) : Int32.toNatClampNeg (324 * v + i) = 324 * b + k ∧ vp_in (324 * v + i) 1620 := by
  have h1 : (324 * v + i : Int32).toInt = 324 * (b : Int) + z := ti_add (ti_mul rfl hv (show -2147483648 ≤ (324 : Int) * b ∧ (324 : Int) * b < 2147483648 by omega)) hi (by omega)
  have h2 := tn_of h1 (by omega)
  exact ⟨by omega, vp_of h1 (by omega) (by omega)⟩
theorem emp_b {d b : Nat} {Q : Qt} {v1 : Int32} {I : Im} {J : Jm} {R : Rm} (hB0 : Bd I) (hv1 : v1.toInt = (b : Int)) (hb5 : b < 5) (hQ : ∀ (x : Int32) (y : Int64) (I2 : Im) (J2 : Jm), Bd I2 → (b = 4 → (I2 102 1348).toInt = 0) → Q x y I2 J2 R) : AM (d + 1) 225 112 [.ref 97, .int v1] I J R Q := by
  refine am_X12_empties (fun P hc => ?_)
  have L : ∀ m n : Nat, n + m = 324 → ∀ v2 : Int32, v2.toInt = n → P 2 112 [(0, .ref 97), (1, .int v1), (2, .int v2)] [] (sIm I (zer (I 102) b n)) J R := by
    intro m
    induction m with
    | zero =>
      intro n hn v2 h2
      refine sg_X12_empties_2 hc _ _ _ _ _ ⟨fun c => ?_, fun c => absurd (Int32.le_iff_toInt_le.mpr (by rw [h2]; show (324 : Int) ≤ n; omega)) c⟩
      obtain ⟨a1, b1⟩ := cel (k := 1) (i := 1) (z := 1) hv1 hb5 rfl (by omega) rfl
      obtain ⟨a3, b3⟩ := cel (k := 3) (i := 3) (z := 3) hv1 hb5 rfl (by omega) rfl
      refine ⟨b1, b3, ?_⟩
      rw [a1, a3, sIm_u, sIm_u, show n = 324 by omega]
      refine hQ _ _ _ _ (hB0.sIm (hB0.ck.zerK hb5)) ?_
      intro hb4; subst hb4; rw [sIm_c]; rfl
    | succ m ih =>
      intro n hn v2 h2
      refine sg_X12_empties_2 hc _ _ _ _ _ ⟨fun c => absurd (Int32.le_iff_toInt_le.mp c) (by rw [h2]; show ¬ (324 : Int) ≤ n; omega), fun c => ?_⟩
      obtain ⟨a1, b1⟩ := cel (k := n) (i := v2) (z := n) hv1 hb5 h2 (by omega) rfl
      refine ⟨b1, ?_⟩
      rw [a1, sIm_u, zer_n]
      exact ih (n + 1) (by omega) _ (by have z := ti_add h2 (show (1 : Int32).toInt = 1 from rfl) (by omega); omega)
  have h0 := L 324 0 (by omega) 0 rfl
  rw [sIm_0 (show zer (I 102) b 0 = I 102 from funext fun j => if_neg (by omega))] at h0
  exact sg_X12_empties_0 hc _ _ _ _ h0
theorem sp_X12_empties {d : Nat} {Q : Qt} {v1 : Int32} {I : Im} {J : Jm} {R : Rm} (hB0 : Bd I) (hR0 : RI R) (hv1 : v1.toInt = 4) (hQ : ∀ (x : Int32) (y : Int64) (I2 : Im) (J2 : Jm), Bd I2 → ((I2 102 1348).toInt = 0) → Q x y I2 J2 R) : AM (d + 1) 225 112 [.ref 97, .int v1] I J R Q :=
  emp_b (b := 4) hB0 hv1 (by decide) (fun x y I2 J2 h q => hQ _ _ _ _ h (q rfl))
noncomputable def cpy (f : Nat → Int32) (a b n : Nat) : Nat → Int32 := fun j => if 324 * b ≤ j ∧ j < 324 * b + n then f (324 * a + (j - 324 * b)) else f j
theorem cpy_n {f : Nat → Int32} {a b n : Nat} (hn : n < 324) : upd (cpy f a b n) (324 * b + n) (cpy f a b n (324 * a + n)) = cpy f a b (n + 1) := by
  funext j
  by_cases q : j = 324 * b + n
  · subst q; rw [upd_s]
    unfold cpy
    rw [if_pos (show 324 * b ≤ 324 * b + n ∧ 324 * b + n < 324 * b + (n + 1) by omega)]
    by_cases r : 324 * b ≤ 324 * a + n ∧ 324 * a + n < 324 * b + n
    · rw [if_pos r]
      exact congrArg f (by omega)
    · rw [if_neg r]; exact congrArg f (by omega)
  · rw [upd_i q]; unfold cpy
    by_cases r : 324 * b ≤ j ∧ j < 324 * b + n
    · rw [if_pos r, if_pos (by omega)]
    · rw [if_neg r, if_neg (by omega)]
theorem CK.cpyK {f : Nat → Int32} (h : CK f) {a b : Nat} (ha : a < 5) (hb : b < 4) (h4 : a = 4 → (f 1348).toInt = 0) : CK (cpy f a b 324) := by
  have hi : ∀ i, i < 324 → ∀ j, j = 324 * b + i → ∀ k, k = 324 * a + i → cpy f a b 324 j = f k := fun i h1 j hj k hk => by
    subst hj; subst hk
    unfold cpy
    rw [if_pos (by omega)]
    exact congrArg f (by omega)
  have ho : ∀ j : Nat, (j < 324 * b ∨ 324 * b + 324 ≤ j) → cpy f a b 324 j = f j := fun j h1 => if_neg (by omega)
  refine ⟨fun j => ?_, fun c k hc hk => ?_, fun c s hc hd hs => ?_⟩
  · by_cases q : 324 * b ≤ j ∧ j < 324 * b + 324
    · rw [hi (j - 324 * b) (by omega) j (by omega) _ rfl]
      have q := h.1 (324 * a + (j - 324 * b))
      have e : (324 * a + (j - 324 * b)) % 324 = j % 324 := by omega
      unfold CB at q ⊢
      rw [e] at q
      exact q
    · rw [ho j (by omega)]; exact h.1 j
  · by_cases q : c = b
    · subst q
      rw [hi 0 (by omega) (324 * c) (by omega) (324 * a) (by omega)] at hk
      have h6 := (h.1 (324 * a)).1 (by omega)
      rw [hi (40 + k) (by omega) (324 * c + 40 + k) (by omega) (324 * a + 40 + k) (by omega)]
      exact h.2.1 a k ha hk
    · have h6 := (h.1 (324 * c)).1 (by omega)
      rw [ho (324 * c) (by omega)] at hk
      rw [ho (324 * c + 40 + k) (by omega)]
      exact h.2.1 c k hc hk
  · by_cases q : c = b
    · subst q
      rw [hi 52 (by omega) (324 * c + 52) (by omega) (324 * a + 52) (by omega)] at hd
      rw [hi 53 (by omega) (324 * c + 53) (by omega) (324 * a + 53) (by omega)] at hs
      have h6 := (h.1 (324 * a + 53)).2.2.1 (by omega)
      have q := h.2.2 a s (by
        by_cases r : a = 4
        · exact absurd (h4 r) (by subst r; exact hd)
        · omega) hd hs
      unfold RecOk at q ⊢
      rw [hi (54 + 9 * s) (by omega) (324 * c + 54 + 9 * s) (by omega) (324 * a + 54 + 9 * s) (by omega), hi (54 + 9 * s + 1) (by omega) (324 * c + 54 + 9 * s + 1) (by omega) (324 * a + 54 + 9 * s + 1) (by omega), hi (54 + 9 * s + 2) (by omega) (324 * c + 54 + 9 * s + 2) (by omega) (324 * a + 54 + 9 * s + 2) (by omega), hi (54 + 9 * s + 3) (by omega) (324 * c + 54 + 9 * s + 3) (by omega) (324 * a + 54 + 9 * s + 3) (by omega), hi (54 + 9 * s + 5) (by omega) (324 * c + 54 + 9 * s + 5) (by omega) (324 * a + 54 + 9 * s + 5) (by omega), hi (54 + 9 * s + 8) (by omega) (324 * c + 54 + 9 * s + 8) (by omega) (324 * a + 54 + 9 * s + 8) (by omega), hi 53 (by omega) (324 * c + 53) (by omega) (324 * a + 53) (by omega), hi 0 (by omega) (324 * c) (by omega) (324 * a) (by omega)]
      exact q
    · have h6 := (h.1 (324 * c + 53)).2.2.1 (by omega)
      rw [ho (324 * c + 52) (by omega)] at hd
      rw [ho (324 * c + 53) (by omega)] at hs
      have q := h.2.2 c s hc hd hs
      unfold RecOk at q ⊢
      rw [ho (324 * c + 54 + 9 * s) (by omega), ho (324 * c + 54 + 9 * s + 1) (by omega), ho (324 * c + 54 + 9 * s + 2) (by omega), ho (324 * c + 54 + 9 * s + 3) (by omega), ho (324 * c + 54 + 9 * s + 5) (by omega), ho (324 * c + 54 + 9 * s + 8) (by omega), ho (324 * c + 53) (by omega), ho (324 * c) (by omega)]
      exact q
theorem sp_X12_copy {d : Nat} {Q : Qt} {v1 v2 : Int32} {I : Im} {J : Jm} {R : Rm} (hB0 : Bd I) (hR0 : RI R) (hv : 0 ≤ v1.toInt ∧ v1.toInt ≤ 4 ∧ 0 ≤ v2.toInt ∧ v2.toInt ≤ 3) (h4 : v1.toInt = 4 → (I 102 1348).toInt = 0) (hQ : ∀ (x : Int32) (y : Int64) (I2 : Im) (J2 : Jm), Bd I2 → I2 97 23 = I 97 23 → Q x y I2 J2 R) : AM (d + 1) 316 112 [.ref 97, .int v1, .int v2] I J R Q := by
  refine am_X12_copy (fun P hc => ?_)
  have z1 : v1.toInt = (v1.toInt.toNat : Nat) := by omega
  have z2 : v2.toInt = (v2.toInt.toNat : Nat) := by omega
  have hfin : Bd (sIm I (cpy (I 102) v1.toInt.toNat v2.toInt.toNat 324)) := hB0.sIm (hB0.ck.cpyK (by omega) (by omega) (fun q => h4 (by omega)))
  have L2 : ∀ m n : Nat, n + m = 6 → ∀ v3 : Int32, v3.toInt = n → ∀ J : Jm, P 41 112 [(0, .ref 97), (1, .int v1), (2, .int v2), (3, .int v3)] [] (sIm I (cpy (I 102) v1.toInt.toNat v2.toInt.toNat 324)) J R := by
    intro m
    induction m with
    | zero =>
      intro n hn v3 h3 J
      refine sg_X12_copy_41 hc _ _ _ _ _ _ ⟨fun c => ?_, fun c => absurd (Int32.le_iff_toInt_le.mpr (by rw [h3]; show (6 : Int) ≤ n; omega)) c⟩
      exact hQ _ _ _ _ hfin (by rw [sIm_o (by decide)])
    | succ m ih =>
      intro n hn v3 h3 J
      refine sg_X12_copy_41 hc _ _ _ _ _ _ ⟨fun c => absurd (Int32.le_iff_toInt_le.mp c) (by rw [h3]; show ¬ (6 : Int) ≤ n; omega), fun c => ⟨vp_of (ti_add (ti_mul (show (6 : Int32).toInt = 6 from rfl) z1 (by omega)) h3 (by omega)) (by omega) (by omega), vp_of (ti_add (ti_mul (show (6 : Int32).toInt = 6 from rfl) z2 (by omega)) h3 (by omega)) (by omega) (by omega), ?_⟩⟩
      exact ih (n + 1) (by omega) _ (by have z := ti_add h3 (show (1 : Int32).toInt = 1 from rfl) (by omega); omega) _
  have L : ∀ m n : Nat, n + m = 324 → ∀ v3 : Int32, v3.toInt = n → P 2 112 [(0, .ref 97), (1, .int v1), (2, .int v2), (3, .int v3)] [] (sIm I (cpy (I 102) v1.toInt.toNat v2.toInt.toNat n)) J R := by
    intro m
    induction m with
    | zero =>
      intro n hn v3 h3
      refine sg_X12_copy_2 hc _ _ _ _ _ _ ⟨fun c => ?_, fun c => absurd (Int32.le_iff_toInt_le.mpr (by rw [h3]; show (324 : Int) ≤ n; omega)) c⟩
      rw [show n = 324 by omega]
      exact L2 6 0 (by omega) 0 rfl J
    | succ m ih =>
      intro n hn v3 h3
      refine sg_X12_copy_2 hc _ _ _ _ _ _ ⟨fun c => absurd (Int32.le_iff_toInt_le.mp c) (by rw [h3]; show ¬ (324 : Int) ≤ n; omega), fun c => ?_⟩
      obtain ⟨a1, b1⟩ := cel (k := n) (i := v3) (z := n) z1 (by omega) h3 (by omega) rfl
      obtain ⟨a2, b2⟩ := cel (k := n) (i := v3) (z := n) z2 (by omega) h3 (by omega) rfl
      refine ⟨b1, b2, ?_⟩
      rw [a1, a2, sIm_c, sIm_u, cpy_n (by omega)]
      exact ih (n + 1) (by omega) _ (by have z := ti_add h3 (show (1 : Int32).toInt = 1 from rfl) (by omega); omega)
  have h0 := L 324 0 (by omega) 0 rfl
  rw [sIm_0 (show cpy (I 102) v1.toInt.toNat v2.toInt.toNat 0 = I 102 from funext fun j => if_neg (by omega))] at h0
  exact sg_X12_copy_0 hc _ _ _ _ _ h0


set_option maxHeartbeats 2000000 in
theorem sp_X12_bakery {d : Nat} {Q : Qt} {v1 : Int32} {I : Im} {J : Jm} {R : Rm} (hB0 : Bd I) (hR0 : RI R) (hQ : ∀ (x : Int32) (y : Int64) (I2 : Im) (J2 : Jm), Bd I2 → ((((v1.toInt < 0 ∨ (I 97 8).toInt < v1.toInt) ∧ (I2 97 8).toInt = (I 97 8).toInt) ∨ (0 ≤ v1.toInt ∧ v1.toInt ≤ (I 97 8).toInt ∧ (I2 97 8).toInt = 0))) → Q x y I2 J2 R) : AM (d + 8) 233 112 [.ref 97, .int v1] I J R Q := by
  have i_v1 := i32 v1
  refine am_X12_bakery (fun P hc => ?_)
  have L : ∀ n : Nat, (∀ (M : Im) (JM : Jm), Bd M → (0 ≤ v1.toInt ∧ v1.toInt ≤ (I 97 8).toInt ∧ (M 97 8).toInt = 0 ∧ (M 102 1348).toInt = 0 ∧ 0 ≤ (M 97 16).toInt ∧ (M 97 16).toInt ≤ 900 ∧ 0 ≤ (M 97 14).toInt) → 2 * (2 * (901 - (M 97 16).toInt) + min (M 97 14).toInt 1) + 3 - min (M 97 12).toInt 1 < (n : Int) → P 43 112 [(0, .ref 97)] [] M JM R) ∧ (∀ (M : Im) (JM : Jm), Bd M → (0 ≤ v1.toInt ∧ v1.toInt ≤ (I 97 8).toInt ∧ (M 97 8).toInt = 0 ∧ (M 102 1348).toInt = 0) → 1 < (n : Int) → P 74 112 [(0, .ref 97)] [] M JM R) := by
    intro n
    induction n with
    | zero =>
      exact ⟨fun  M J _ hi hm => absurd hm (by omega), fun  M J _ hi hm => absurd hm (by omega)⟩
    | succ n ih =>
      refine ⟨?_, ?_⟩
      · skip
        intro  M JM hB hi hm
        refine sg_X12_bakery_43 hc _ _ _ ?_
        have b1 := Bd.o hB io9_112_97_12 bd9_12_12
        have b2 := Bd.o hB io9_112_97_12 bd9_12_14
        have b3 := Bd.o hB io9_112_97_12 bd9_12_16
        have b4 := Bd.o hB io9_112_97_12 bd9_12_8
        refine ⟨fun c5 => ?_, fun c5 => ?_⟩
        · skip
          have d6 : ¬ (((M 97 12).toInt) : Int) = (0) := ci_ne rfl rfl c5
          exact ih.2 _ _ hB (by have q0 : ((M 97 8) : Int32).toInt = (M 97 8).toInt := rfl; have q1 : ((M 102 1348) : Int32).toInt = (M 102 1348).toInt := rfl; omega) (by omega)
        · skip
          have d7 : (((M 97 12).toInt) : Int) = (0) := ci_eq rfl rfl c5
          refine ⟨fun c8 => ?_, fun c8 => ?_⟩
          · skip
            have d9 : (((M 97 14).toInt) : Int) = (0) := ci_eq rfl rfl c8
            exact ih.2 _ _ hB (by have q0 : ((M 97 8) : Int32).toInt = (M 97 8).toInt := rfl; have q1 : ((M 102 1348) : Int32).toInt = (M 102 1348).toInt := rfl; omega) (by omega)
          · skip
            have d10 : ¬ (((M 97 14).toInt) : Int) = (0) := ci_ne rfl rfl c8
            refine kp1 rfl (sp_X12_readPart hB hR0 (fun x11 y16 I12 J13 hB14 p15 kq17 => ?_))
            have f18 : Fr pR M I12 := p15.1
            have pz19 := p15.2
            unfold PMp MUf at pz19
            refine kp1 rfl (sp_X12_isSign hB14 hR0 (fun x20 y25 I21 J22 hB23 p24 kq26 => ?_))
            intro o27
            have f28 : Fr pT I12 I21 := p24.2.2.2.2.1
            have q29 : (59 : Int32).toInt = 59 := rfl
            have b30 := Bd.o hB14 io9_112_97_12 bd9_12_14
            have i31 := i32 x20
            refine kp1 rfl (sp_X12_must hB23 hR0 (fun x32 y37 I33 J34 hB35 p36 kq38 => ?_))
            have f39 : Fr pT I21 I33 := p36.2.1
            have b40 := Bd.o hB14 io9_112_97_12 bd9_12_12
            have e41 : ((I21 97 12) : Int32).toInt = (I12 97 12).toInt := Eq.trans (congrArg Int32.toInt p24.1) rfl
            have e42 : ((I21 97 14) : Int32).toInt = (I12 97 14).toInt := Eq.trans (congrArg Int32.toInt p24.2.2.1) rfl
            have b43 := Bd.o hB14 io9_112_97_12 bd9_12_16
            have e44 : ((I21 97 16) : Int32).toInt = (I12 97 16).toInt := Eq.trans (congrArg Int32.toInt p24.2.2.2.1) rfl
            have b45 := Bd.o hB35 io9_112_97_12 bd9_12_12
            have b46 := Bd.o hB35 io9_112_97_12 bd9_12_14
            have b47 := Bd.o hB35 io9_112_97_12 bd9_12_16
            have e48 : ((I33 97 8) : Int32).toInt = (M 97 8).toInt := Eq.trans (congrArg Int32.toInt (Eq.trans (Eq.trans kq38 kq26) kq17)) rfl
            have e49 : ((I33 102 1348) : Int32).toInt = (M 102 1348).toInt := Eq.trans (congrArg Int32.toInt (Eq.trans (Eq.trans (f39.1 1348 trivial) (f28.1 1348 trivial)) (f18.1 1348 (by unfold pR; omega)))) rfl
            exact ih.1 _ _ hB35 (by have q0 : ((I33 97 8) : Int32).toInt = (M 97 8).toInt := e48; have q1 : ((I33 102 1348) : Int32).toInt = (M 102 1348).toInt := e49; have q2 : ((I33 97 16) : Int32).toInt = (I33 97 16).toInt := rfl; have q3 : ((I33 97 16) : Int32).toInt = (I33 97 16).toInt := rfl; have q4 : ((I33 97 14) : Int32).toInt = (I33 97 14).toInt := rfl; omega) (by have q0 : ((I33 97 16) : Int32).toInt = (I33 97 16).toInt := rfl; have q1 : ((I33 97 14) : Int32).toInt = (I33 97 14).toInt := rfl; have q2 : ((I33 97 12) : Int32).toInt = (I33 97 12).toInt := rfl; omega)
      · skip
        intro  M JM hB hi hm
        refine sg_X12_bakery_74 hc _ _ _ ?_
        have b50 := Bd.o hB io9_112_97_12 bd9_12_8
        refine kp1 rfl (sp_X12_isWell hB hR0 (fun x51 y56 I52 J53 hB54 p55 kq57 => ?_))
        intro o58
        have f59 : Fr pT M I52 := p55.2.1
        have b60 := Bd.o hB io9_112_97_12 bd9_12_12
        have i61 := i32 x51
        refine ⟨fun c62 => ?_, fun c62 => ?_⟩
        · skip
          have d63 : ¬ ((x51.toInt) : Int) = (0) := ci_ne rfl rfl c62
          have e64 : ((I52 102 1348) : Int32).toInt = (M 102 1348).toInt := Eq.trans (congrArg Int32.toInt (f59.1 1348 trivial)) rfl
          refine kp1 rfl (sp_X12_copy hB54 hR0 (by have z1 : (4 : Int32).toInt = 4 := rfl; have z2 : (0 : Int32).toInt = 0 := rfl; omega) (fun _ => by have z : ((I52 102 1348) : Int32).toInt = (M 102 1348).toInt := e64; omega) (fun x65 y70 I66 J67 hB68 p69 kq71 => ?_))
          refine ⟨vp_of (a := 0) rfl (by first | (clear b50 p55 b60 i61 d63 e64 p69; omega) | omega) (by first | (clear b50 p55 b60 i61 d63 e64 p69; omega) | omega), ?_⟩
          have b72 := Bd.o hB0 io9_112_97_12 bd9_12_8
          have e73 : ((I66 97 8) : Int32).toInt = (M 97 8).toInt := Eq.trans (congrArg Int32.toInt (Eq.trans kq71 kq57)) rfl
          have b74 := (Bd.c hB68 (j := 0) (z := 0) rfl).1 (by decide)
          have e75 : ((I66 102 (Int32.toNatClampNeg 0)) : Int32).toInt = (I66 102 0).toInt := Eq.trans (congrArg Int32.toInt rfl) rfl
          exact hQ _ _ _ _ hB68 (by have q2 : ((I66 97 8) : Int32).toInt = (M 97 8).toInt := e73; have q0 : ((I66 102 (Int32.toNatClampNeg 0)) : Int32).toInt = (I66 102 0).toInt := e75; omega)
        · skip
          have d76 : ((x51.toInt) : Int) = (0) := ci_eq rfl rfl c62
          have b77 := Bd.o hB0 io9_112_97_12 bd9_12_8
          have e78 : ((I52 97 8) : Int32).toInt = (M 97 8).toInt := Eq.trans (congrArg Int32.toInt kq57) rfl
          exact hQ _ _ _ _ hB54 (by have q2 : ((I52 97 8) : Int32).toInt = (M 97 8).toInt := e78; have q0 : ((-1) : Int32).toInt = (-1) := rfl; omega)
  refine sg_X12_bakery_0 hc _ _ _ _ ?_
  have hB79 : Bd (uI I 97 1 0) := Bd.o0 hB0 io9_112_97_12 (by decide) bd9_12_1
  have hB80 : Bd (uI (uI I 97 1 0) 97 0 0) := Bd.o0 hB79 io9_112_97_12 (by decide) bd9_12_0
  refine sp_X12_starts hB80 hR0 (fun x81 y86 I82 J83 hB84 p85 => ?_)
  intro o87
  have f88 : Fr pT (uI (uI I 97 1 0) 97 0 0) I82 := p85.1
  have q89 : (900 : Int32).toInt = 900 := rfl
  have b90 := Bd.o hB0 io9_112_97_12 bd9_12_8
  have e91 : (((uI (uI I 97 1 0) 97 0 0) 97 8) : Int32).toInt = (I 97 8).toInt := Eq.trans (congrArg Int32.toInt (Eq.trans (rd_k (by decide)) (rd_k (by decide)))) rfl
  have b92 := Bd.o hB84 io9_112_97_12 bd9_12_12
  have b93 := Bd.o hB84 io9_112_97_12 bd9_12_8
  have i94 := i32 x81
  refine ⟨fun c95 => ?_, fun c95 => ?_⟩
  · skip
    have d96 : ¬ ((x81.toInt) : Int) = (0) := ci_ne rfl rfl c95
    refine kp1 rfl (sp_X12_empties hB84 hR0 (by have z1 : (4 : Int32).toInt = 4 := rfl; omega) (fun x97 y102 I98 J99 hB100 p101 kq103 => ?_))
    have q104 : (4 : Int32).toInt = 4 := rfl
    refine ⟨Or.inl rfl, ?_⟩
    have hB105 : Bd (uI I98 97 24 0) := Bd.o1 hB100 io9_112_97_12 (by decide) bd9_12_24 rfl (bl_ti (Or.inl rfl))
    refine ⟨Or.inl rfl, ?_⟩
    have hB106 : Bd (uI (uI I98 97 24 0) 97 25 0) := Bd.o1 hB105 io9_112_97_12 (by decide) bd9_12_25 rfl (bl_ti (Or.inl rfl))
    have hB107 : Bd (uI (uI (uI I98 97 24 0) 97 25 0) 97 26 0) := Bd.o0 hB106 io9_112_97_12 (by decide) bd9_12_26
    have e108 : (((uI (uI (uI I98 97 24 0) 97 25 0) 97 26 0) 97 8) : Int32).toInt = (I82 97 8).toInt := Eq.trans (congrArg Int32.toInt (Eq.trans (Eq.trans (Eq.trans (rd_k (by decide)) (rd_k (by decide))) (rd_k (by decide))) kq103)) rfl
    have e109 : (((uI (uI (uI I98 97 24 0) 97 25 0) 97 26 0) 102 1348) : Int32).toInt = (I98 102 1348).toInt := Eq.trans (congrArg Int32.toInt (Eq.trans (Eq.trans (rd_ne (by first | decide | omega)) (rd_ne (by first | decide | omega))) (rd_ne (by first | decide | omega)))) rfl
    have b110 := Bd.o hB100 io9_112_97_12 bd9_12_16
    have e111 : (((uI (uI (uI I98 97 24 0) 97 25 0) 97 26 0) 97 16) : Int32).toInt = (I98 97 16).toInt := Eq.trans (congrArg Int32.toInt (Eq.trans (Eq.trans (rd_k (by decide)) (rd_k (by decide))) (rd_k (by decide)))) rfl
    have b112 := Bd.o hB100 io9_112_97_12 bd9_12_14
    have e113 : (((uI (uI (uI I98 97 24 0) 97 25 0) 97 26 0) 97 14) : Int32).toInt = (I98 97 14).toInt := Eq.trans (congrArg Int32.toInt (Eq.trans (Eq.trans (rd_k (by decide)) (rd_k (by decide))) (rd_k (by decide)))) rfl
    have b114 := Bd.o hB100 io9_112_97_12 bd9_12_12
    have e115 : (((uI (uI (uI I98 97 24 0) 97 25 0) 97 26 0) 97 12) : Int32).toInt = (I98 97 12).toInt := Eq.trans (congrArg Int32.toInt (Eq.trans (Eq.trans (rd_k (by decide)) (rd_k (by decide))) (rd_k (by decide)))) rfl
    exact (L 1000000).1 _ _ hB107 (by have q0 : (((uI (uI (uI I98 97 24 0) 97 25 0) 97 26 0) 97 8) : Int32).toInt = (I82 97 8).toInt := e108; have q1 : (((uI (uI (uI I98 97 24 0) 97 25 0) 97 26 0) 102 1348) : Int32).toInt = (I98 102 1348).toInt := e109; have q2 : (((uI (uI (uI I98 97 24 0) 97 25 0) 97 26 0) 97 16) : Int32).toInt = (I98 97 16).toInt := e111; have q3 : (((uI (uI (uI I98 97 24 0) 97 25 0) 97 26 0) 97 16) : Int32).toInt = (I98 97 16).toInt := e111; have q4 : (((uI (uI (uI I98 97 24 0) 97 25 0) 97 26 0) 97 14) : Int32).toInt = (I98 97 14).toInt := e113; omega) (by have q0 : (((uI (uI (uI I98 97 24 0) 97 25 0) 97 26 0) 97 16) : Int32).toInt = (I98 97 16).toInt := e111; have q1 : (((uI (uI (uI I98 97 24 0) 97 25 0) 97 26 0) 97 14) : Int32).toInt = (I98 97 14).toInt := e113; have q2 : (((uI (uI (uI I98 97 24 0) 97 25 0) 97 26 0) 97 12) : Int32).toInt = (I98 97 12).toInt := e115; omega)
  · skip
    have d116 : ((x81.toInt) : Int) = (0) := ci_eq rfl rfl c95
    exact hQ _ _ _ _ hB84 (by have q2 : ((I82 97 8) : Int32).toInt = (I82 97 8).toInt := rfl; have q0 : ((-1) : Int32).toInt = (-1) := rfl; omega)
set_option maxHeartbeats 2000000 in
theorem sp_X12_mark {d : Nat} {Q : Qt} {I : Im} {J : Jm} {R : Rm} (hB0 : Bd I) (hR0 : RI R) (hQ : ∀ (x : Int32) (y : Int64) (I2 : Im) (J2 : Jm), Bd I2 → ((((I 97 23).toInt < 3 ∧ x.toInt = (I 97 23).toInt + 1 ∧ (I2 97 23).toInt = (I 97 23).toInt + 1) ∨ ((I 97 23).toInt = 3 ∧ x.toInt = -1 ∧ (I2 97 23).toInt = 3))) → Q x y I2 J2 R) : AM (d + 2) 317 112 [.ref 97] I J R Q := by
  refine w_X12_mark ?_
  have hB1 : Bd (uI I 97 1 0) := Bd.o0 hB0 io9_112_97_12 (by decide) bd9_12_1
  have hB2 : Bd (uI (uI I 97 1 0) 97 0 0) := Bd.o0 hB1 io9_112_97_12 (by decide) bd9_12_0
  refine ⟨fun c3 => ?_, fun c3 => ?_⟩
  · skip
    have b4 := Bd.o hB0 io9_112_97_12 bd9_12_23
    have e5 : (((uI (uI I 97 1 0) 97 0 0) 97 23) : Int32).toInt = (I 97 23).toInt := Eq.trans (congrArg Int32.toInt (Eq.trans (rd_k (by decide)) (rd_k (by decide)))) rfl
    have d6 : ¬ (((I 97 23).toInt) : Int) = (3) := ci_ne e5 rfl c3
    have e8 : ((((uI (uI I 97 1 0) 97 0 0) 97 23) + 1) : Int32).toInt = ((I 97 23).toInt) + (1) := ti_add e5 rfl (by omega)
    have hB7 : Bd (uI (uI (uI I 97 1 0) 97 0 0) 97 23 (((uI (uI I 97 1 0) 97 0 0) 97 23) + 1)) := Bd.o1 hB2 io9_112_97_12 (by decide) bd9_12_23 (show ((((uI (uI I 97 1 0) 97 0 0) 97 23) + 1) : Int32).toInt = ((I 97 23).toInt + 1) from e8) (by omega)
    have e9 : (((uI (uI (uI I 97 1 0) 97 0 0) 97 23 (((uI (uI I 97 1 0) 97 0 0) 97 23) + 1)) 97 23) : Int32).toInt = ((I 97 23).toInt + 1) := Eq.trans (congrArg Int32.toInt rd_eq) e8
    refine sp_X12_copy hB7 hR0 (by have z1 : (0 : Int32).toInt = 0 := rfl; have z2 : (((uI (uI (uI I 97 1 0) 97 0 0) 97 23 (((uI (uI I 97 1 0) 97 0 0) 97 23) + 1)) 97 23) : Int32).toInt = ((I 97 23).toInt + 1) := e9; omega) (fun z => by have z1 : (0 : Int32).toInt = 0 := rfl; omega) (fun x10 y15 I11 J12 hB13 p14 => ?_)
    have e16 : ((I11 97 23) : Int32).toInt = ((I 97 23).toInt + 1) := Eq.trans (congrArg Int32.toInt (Eq.trans p14 rd_eq)) e8
    exact hQ _ _ _ _ hB13 (by have q2 : ((I11 97 23) : Int32).toInt = ((I 97 23).toInt + 1) := e16; have q0 : ((I11 97 23) : Int32).toInt = ((I 97 23).toInt + 1) := e16; omega)
  · skip
    have b17 := Bd.o hB0 io9_112_97_12 bd9_12_23
    have e18 : (((uI (uI I 97 1 0) 97 0 0) 97 23) : Int32).toInt = (I 97 23).toInt := Eq.trans (congrArg Int32.toInt (Eq.trans (rd_k (by decide)) (rd_k (by decide)))) rfl
    have d19 : (((I 97 23).toInt) : Int) = (3) := ci_eq e18 rfl c3
    refine w_X12_refuse ?_
    have hB20 : Bd (uI (uI (uI I 97 1 0) 97 0 0) 97 0 7) := Bd.o0 hB2 io9_112_97_12 (by decide) bd9_12_0
    have e21 : (((uI (uI (uI I 97 1 0) 97 0 0) 97 0 7) 97 23) : Int32).toInt = (I 97 23).toInt := Eq.trans (congrArg Int32.toInt (Eq.trans (Eq.trans (rd_k (by decide)) (rd_k (by decide))) (rd_k (by decide)))) rfl
    exact hQ _ _ _ _ hB20 (by have q2 : (((uI (uI (uI I 97 1 0) 97 0 0) 97 0 7) 97 23) : Int32).toInt = (I 97 23).toInt := e21; have q0 : ((-1) : Int32).toInt = (-1) := rfl; omega)
set_option maxHeartbeats 2000000 in
theorem sp_X12_back {d : Nat} {Q : Qt} {I : Im} {J : Jm} {R : Rm} (hB0 : Bd I) (hR0 : RI R) (hQ : ∀ (x : Int32) (y : Int64) (I2 : Im) (J2 : Jm), Bd I2 → (((1 ≤ (I 97 23).toInt ∧ x.toInt = (I 97 23).toInt - 1 ∧ (I2 97 23).toInt = (I 97 23).toInt - 1) ∨ ((I 97 23).toInt = 0 ∧ x.toInt = -1 ∧ (I2 97 23).toInt = 0))) → Q x y I2 J2 R) : AM (d + 2) 318 112 [.ref 97] I J R Q := by
  refine w_X12_back ?_
  have hB1 : Bd (uI I 97 1 0) := Bd.o0 hB0 io9_112_97_12 (by decide) bd9_12_1
  have hB2 : Bd (uI (uI I 97 1 0) 97 0 0) := Bd.o0 hB1 io9_112_97_12 (by decide) bd9_12_0
  refine ⟨fun c3 => ?_, fun c3 => ?_⟩
  · skip
    have b4 := Bd.o hB0 io9_112_97_12 bd9_12_23
    have e5 : (((uI (uI I 97 1 0) 97 0 0) 97 23) : Int32).toInt = (I 97 23).toInt := Eq.trans (congrArg Int32.toInt (Eq.trans (rd_k (by decide)) (rd_k (by decide)))) rfl
    have d6 : ¬ (((I 97 23).toInt) : Int) = (0) := ci_ne e5 rfl c3
    refine sp_X12_copy hB2 hR0 (by have z1 : (((uI (uI I 97 1 0) 97 0 0) 97 23) : Int32).toInt = (I 97 23).toInt := e5; have z2 : (0 : Int32).toInt = 0 := rfl; omega) (fun z => by have z1 : (((uI (uI I 97 1 0) 97 0 0) 97 23) : Int32).toInt = (I 97 23).toInt := e5; omega) (fun x7 y12 I8 J9 hB10 p11 => ?_)
    have e14 : ((I8 97 23) : Int32).toInt = (I 97 23).toInt := Eq.trans (congrArg Int32.toInt (Eq.trans (Eq.trans p11 (rd_k (by decide))) (rd_k (by decide)))) rfl
    have e15 : (((I8 97 23) - 1) : Int32).toInt = ((I 97 23).toInt) - (1) := ti_sub e14 rfl (by omega)
    have hB13 : Bd (uI I8 97 23 ((I8 97 23) - 1)) := Bd.o1 hB10 io9_112_97_12 (by decide) bd9_12_23 (show (((I8 97 23) - 1) : Int32).toInt = ((I 97 23).toInt - 1) from e15) (by omega)
    have e16 : (((uI I8 97 23 ((I8 97 23) - 1)) 97 23) : Int32).toInt = ((I 97 23).toInt - 1) := Eq.trans (congrArg Int32.toInt rd_eq) e15
    exact hQ _ _ _ _ hB13 (by have q2 : (((uI I8 97 23 ((I8 97 23) - 1)) 97 23) : Int32).toInt = ((I 97 23).toInt - 1) := e16; have q0 : (((uI I8 97 23 ((I8 97 23) - 1)) 97 23) : Int32).toInt = ((I 97 23).toInt - 1) := e16; omega)
  · skip
    have b17 := Bd.o hB0 io9_112_97_12 bd9_12_23
    have e18 : (((uI (uI I 97 1 0) 97 0 0) 97 23) : Int32).toInt = (I 97 23).toInt := Eq.trans (congrArg Int32.toInt (Eq.trans (rd_k (by decide)) (rd_k (by decide)))) rfl
    have d19 : (((I 97 23).toInt) : Int) = (0) := ci_eq e18 rfl c3
    refine w_X12_refuse ?_
    have hB20 : Bd (uI (uI (uI I 97 1 0) 97 0 0) 97 0 8) := Bd.o0 hB2 io9_112_97_12 (by decide) bd9_12_0
    have e21 : (((uI (uI (uI I 97 1 0) 97 0 0) 97 0 8) 97 23) : Int32).toInt = (I 97 23).toInt := Eq.trans (congrArg Int32.toInt (Eq.trans (Eq.trans (rd_k (by decide)) (rd_k (by decide))) (rd_k (by decide)))) rfl
    exact hQ _ _ _ _ hB20 (by have q2 : (((uI (uI (uI I 97 1 0) 97 0 0) 97 0 8) 97 23) : Int32).toInt = (I 97 23).toInt := e21; have q0 : ((-1) : Int32).toInt = (-1) := rfl; omega)
