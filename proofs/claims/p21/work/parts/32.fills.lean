/-! ===== Arrays.fill ===== -/
theorem bif_tF {b : Bool} {X Y : Prop} (h : b = true) (x : X) : bif b then X else Y := by rw [h]; exact x
theorem ofNat_ti {n : Nat} (h : n ≤ 4096) : (Int32.ofNat n).toInt = n := nI_toInt (by omega)
theorem sp_J7_fill_d0a16 {d : Nat} {Q : Qt} {v0 : Nat} {v1 : Int64} {I : Im} {J : Jm} {R : Rm} (hB0 : Bd I) (hR0 : RI R) (ha : isA 112 v0 1 = true) (hQ : ∀ (x : Int32) (y : Int64) (I2 : Im) (J2 : Jm), Bd I2 → I2 = I → Q x y I2 J2 R) : AM (d + 1) 320 112 [.ref v0, .long v1] I J R Q := by
  have hn : isA 112 v0 0 = false := by
    cases h : isA 112 v0 0 with
    | false => rfl
    | true => have h1 := (isA_spec h).2.2; have h2 := (isA_spec ha).2.2; omega
  refine am_J7_fill_d0a16 (fun P hc => ?_)
  have hle := aL_le v0
  have L : ∀ n : Nat, ∀ (v3 : Int32) (J : Jm), 0 ≤ v3.toInt ∧ v3.toInt ≤ aL v0 → (aL v0 : Int) - v3.toInt < (n : Int) → P 6 112 [(0, .ref v0), (1, .long v1), (3, .int v3), (4, .int (Int32.ofNat (aL v0)))] [] I J R := by
    intro n
    induction n with
    | zero => exact fun v3 J hi hm => absurd hm (by omega)
    | succ n ih =>
      intro v3 J hi hm
      refine sg_J7_fill_d0a16_6 hc _ _ _ _ _ _ _ ?_
      refine ⟨fun c1 => ?_, fun c1 => ?_⟩
      · exact hQ _ _ _ _ hB0 rfl
      · have d1 := ci_nle (ofNat_ti hle) rfl c1
        refine bif_t ha ?_
        refine ⟨vp_of rfl hi.1 d1, ?_⟩
        have e1 : (v3 + 1 : Int32).toInt = v3.toInt + 1 := ti_add rfl rfl (by omega)
        exact ih _ _ (by omega) (by omega)
  refine sg_J7_fill_d0a16_0 hc _ _ _ _ _ ?_
  rw [hn]
  refine bif_t ha ?_
  exact L 5000 _ _ (by have h0 : (0 : Int32).toInt = 0 := rfl; omega) (by have h0 : (0 : Int32).toInt = 0 := rfl; omega)
theorem sp_J7_fill_53178 {d : Nat} {Q : Qt} {v0 : Nat} {v1 : Int32} {I : Im} {J : Jm} {R : Rm} (hB0 : Bd I) (hR0 : RI R) (ha : isA 112 v0 0 = true) (hna : bna v0 = none) (hQ : ∀ (x : Int32) (y : Int64) (I2 : Im) (J2 : Jm), Bd I2 → (∀ i, i ≠ v0 → I2 i = I i) → Q x y I2 J2 R) : AM (d + 1) 321 112 [.ref v0, .int v1] I J R Q := by
  refine am_J7_fill_53178 (fun P hc => ?_)
  have hle := aL_le v0
  have L : ∀ n : Nat, ∀ (v3 : Int32) (I1 : Im), Bd I1 → (∀ i, i ≠ v0 → I1 i = I i) → 0 ≤ v3.toInt ∧ v3.toInt ≤ aL v0 → (aL v0 : Int) - v3.toInt < (n : Int) → P 5 112 [(0, .ref v0), (1, .int v1), (2, .int v3), (3, .int (Int32.ofNat (aL v0)))] [] I1 J R := by
    intro n
    induction n with
    | zero => exact fun v3 I1 hB hI hi hm => absurd hm (by omega)
    | succ n ih =>
      intro v3 I1 hB hI hi hm
      refine sg_J7_fill_53178_5 hc _ _ _ _ _ _ _ ?_
      refine ⟨fun c1 => ?_, fun c1 => ?_⟩
      · exact hQ _ _ _ _ hB hI
      · have d1 := ci_nle (ofNat_ti hle) rfl c1
        refine bif_t ha ?_
        refine ⟨vp_of rfl hi.1 d1, ?_⟩
        have e1 : (v3 + 1 : Int32).toInt = v3.toInt + 1 := ti_add rfl rfl (by omega)
        exact ih _ _ (Bd.a0 hB ha hna) (fun i hi2 => by rw [uI_ne hi2]; exact hI i hi2) (by omega) (by omega)
  refine sg_J7_fill_53178_0 hc _ _ _ _ _ ?_
  refine bif_tF ha ?_
  exact L 5000 _ _ hB0 (fun _ _ => rfl) (by have h0 : (0 : Int32).toInt = 0 := rfl; omega) (by have h0 : (0 : Int32).toInt = 0 := rfl; omega)
