set_option maxHeartbeats 2000000 in
theorem sp_X12_isOver {d : Nat} {Q : Qt} {v1 : Int32} {v2 : Int32} {v3 : Int32} {I : Im} {J : Jm} {R : Rm} (hB0 : Bd I) (hR0 : RI R) (hv1 : 1 ≤ v1.toInt ∧ v1.toInt ≤ 30) (hv2 : 1 ≤ v2.toInt ∧ v2.toInt ≤ 30) (hv3 : 1 ≤ v3.toInt ∧ v3.toInt ≤ 30) (hQ : ∀ (x : Int32) (y : Int64) (I2 : Im) (J2 : Jm), Bd I2 → (I = I2) → Q x y I2 J2 R) : AM (d + 1) 256 112 [.ref 97, .int v1, .int v2, .int v3] I J R Q := by
  have i_v1 := i32 v1
  have i_v2 := i32 v2
  have i_v3 := i32 v3
  refine w_X12_isOver ?_
  have e1 : ((4 + v2) : Int32).toInt = (4) + (v2.toInt) := ti_add rfl rfl (by omega)
  have e2 : (((4 + v2) - 1) : Int32).toInt = ((4 + v2.toInt)) - (1) := ti_sub e1 rfl (by omega)
  refine ⟨vp_of (a := ((4 + v2.toInt) - 1)) e2 (by omega) (by omega), ?_⟩
  refine ⟨fun c3 => ?_, fun c3 => ?_⟩
  · skip
    have d4 : ¬ ((v2.toInt) : Int) = (v3.toInt) := ci_ne rfl rfl c3
    refine ⟨fun c5 => ?_, fun c5 => ?_⟩
    · skip
      have d6 : ¬ ((v2.toInt) : Int) = (v1.toInt) := ci_ne rfl rfl c5
      have e7 : ((4 + v3) : Int32).toInt = (4) + (v3.toInt) := ti_add rfl rfl (by omega)
      have e8 : (((4 + v3) - 1) : Int32).toInt = ((4 + v3.toInt)) - (1) := ti_sub e7 rfl (by omega)
      refine ⟨vp_of (a := ((4 + v3.toInt) - 1)) e8 (by omega) (by omega), ?_⟩
      refine ⟨fun c9 => ?_, fun c9 => ?_⟩
      · skip
        have d10 : ¬ ((v2.toInt) : Int) = (v3.toInt) := ci_ne rfl rfl c9
        refine ⟨fun c11 => ?_, fun c11 => ?_⟩
        · skip
          have d12 : ¬ ((v3.toInt) : Int) = (v1.toInt) := ci_ne rfl rfl c11
          refine ⟨fun c13 => ?_, fun c13 => ?_⟩
          · skip
            have d14 : ((99) : Int) < ((((((I 102 (Int32.toNatClampNeg ((4 + v2) - 1))) + 1) + 0) - 0) : Int32).toInt) := ci_lt rfl rfl c13
            refine ⟨Or.inr rfl, ?_⟩
            exact hQ _ _ _ _ hB0 rfl
          · skip
            have d15 : (((((((I 102 (Int32.toNatClampNeg ((4 + v2) - 1))) + 1) + 0) - 0) : Int32).toInt) : Int) ≤ (99) := ci_nlt rfl rfl c13
            refine ⟨fun c16 => ?_, fun c16 => ?_⟩
            · skip
              have d17 : (((((((I 102 (Int32.toNatClampNeg ((4 + v3) - 1))) + 1) + 0) - 0) : Int32).toInt) : Int) ≤ (99) := ci_le rfl rfl c16
              refine ⟨Or.inl rfl, ?_⟩
              exact hQ _ _ _ _ hB0 rfl
            · skip
              have d18 : ((99) : Int) < ((((((I 102 (Int32.toNatClampNeg ((4 + v3) - 1))) + 1) + 0) - 0) : Int32).toInt) := ci_nle rfl rfl c16
              refine ⟨Or.inr rfl, ?_⟩
              exact hQ _ _ _ _ hB0 rfl
        · skip
          have d19 : ((v3.toInt) : Int) = (v1.toInt) := ci_eq rfl rfl c11
          refine ⟨fun c20 => ?_, fun c20 => ?_⟩
          · skip
            have d21 : ((99) : Int) < ((((((I 102 (Int32.toNatClampNeg ((4 + v2) - 1))) + 1) + 0) - 0) : Int32).toInt) := ci_lt rfl rfl c20
            refine ⟨Or.inr rfl, ?_⟩
            exact hQ _ _ _ _ hB0 rfl
          · skip
            have d22 : (((((((I 102 (Int32.toNatClampNeg ((4 + v2) - 1))) + 1) + 0) - 0) : Int32).toInt) : Int) ≤ (99) := ci_nlt rfl rfl c20
            refine ⟨fun c23 => ?_, fun c23 => ?_⟩
            · skip
              have d24 : (((((((I 102 (Int32.toNatClampNeg ((4 + v3) - 1))) + 1) + 0) - 1) : Int32).toInt) : Int) ≤ (99) := ci_le rfl rfl c23
              refine ⟨Or.inl rfl, ?_⟩
              exact hQ _ _ _ _ hB0 rfl
            · skip
              have d25 : ((99) : Int) < ((((((I 102 (Int32.toNatClampNeg ((4 + v3) - 1))) + 1) + 0) - 1) : Int32).toInt) := ci_nle rfl rfl c23
              refine ⟨Or.inr rfl, ?_⟩
              exact hQ _ _ _ _ hB0 rfl
      · skip
        have d26 : ((v2.toInt) : Int) = (v3.toInt) := ci_eq rfl rfl c9
        refine ⟨fun c27 => ?_, fun c27 => ?_⟩
        · skip
          have d28 : ¬ ((v3.toInt) : Int) = (v1.toInt) := ci_ne rfl rfl c27
          refine ⟨fun c29 => ?_, fun c29 => ?_⟩
          · skip
            have d30 : ((99) : Int) < ((((((I 102 (Int32.toNatClampNeg ((4 + v2) - 1))) + 1) + 0) - 0) : Int32).toInt) := ci_lt rfl rfl c29
            refine ⟨Or.inr rfl, ?_⟩
            exact hQ _ _ _ _ hB0 rfl
          · skip
            have d31 : (((((((I 102 (Int32.toNatClampNeg ((4 + v2) - 1))) + 1) + 0) - 0) : Int32).toInt) : Int) ≤ (99) := ci_nlt rfl rfl c29
            refine ⟨fun c32 => ?_, fun c32 => ?_⟩
            · skip
              have d33 : (((((((I 102 (Int32.toNatClampNeg ((4 + v3) - 1))) + 1) + 1) - 0) : Int32).toInt) : Int) ≤ (99) := ci_le rfl rfl c32
              refine ⟨Or.inl rfl, ?_⟩
              exact hQ _ _ _ _ hB0 rfl
            · skip
              have d34 : ((99) : Int) < ((((((I 102 (Int32.toNatClampNeg ((4 + v3) - 1))) + 1) + 1) - 0) : Int32).toInt) := ci_nle rfl rfl c32
              refine ⟨Or.inr rfl, ?_⟩
              exact hQ _ _ _ _ hB0 rfl
        · skip
          have d35 : ((v3.toInt) : Int) = (v1.toInt) := ci_eq rfl rfl c27
          refine ⟨fun c36 => ?_, fun c36 => ?_⟩
          · skip
            have d37 : ((99) : Int) < ((((((I 102 (Int32.toNatClampNeg ((4 + v2) - 1))) + 1) + 0) - 0) : Int32).toInt) := ci_lt rfl rfl c36
            refine ⟨Or.inr rfl, ?_⟩
            exact hQ _ _ _ _ hB0 rfl
          · skip
            have d38 : (((((((I 102 (Int32.toNatClampNeg ((4 + v2) - 1))) + 1) + 0) - 0) : Int32).toInt) : Int) ≤ (99) := ci_nlt rfl rfl c36
            refine ⟨fun c39 => ?_, fun c39 => ?_⟩
            · skip
              have d40 : (((((((I 102 (Int32.toNatClampNeg ((4 + v3) - 1))) + 1) + 1) - 1) : Int32).toInt) : Int) ≤ (99) := ci_le rfl rfl c39
              refine ⟨Or.inl rfl, ?_⟩
              exact hQ _ _ _ _ hB0 rfl
            · skip
              have d41 : ((99) : Int) < ((((((I 102 (Int32.toNatClampNeg ((4 + v3) - 1))) + 1) + 1) - 1) : Int32).toInt) := ci_nle rfl rfl c39
              refine ⟨Or.inr rfl, ?_⟩
              exact hQ _ _ _ _ hB0 rfl
    · skip
      have d42 : ((v2.toInt) : Int) = (v1.toInt) := ci_eq rfl rfl c5
      have e43 : ((4 + v3) : Int32).toInt = (4) + (v3.toInt) := ti_add rfl rfl (by omega)
      have e44 : (((4 + v3) - 1) : Int32).toInt = ((4 + v3.toInt)) - (1) := ti_sub e43 rfl (by omega)
      refine ⟨vp_of (a := ((4 + v3.toInt) - 1)) e44 (by omega) (by omega), ?_⟩
      refine ⟨fun c45 => ?_, fun c45 => ?_⟩
      · skip
        have d46 : ¬ ((v2.toInt) : Int) = (v3.toInt) := ci_ne rfl rfl c45
        refine ⟨fun c47 => ?_, fun c47 => ?_⟩
        · skip
          have d48 : ¬ ((v3.toInt) : Int) = (v1.toInt) := ci_ne rfl rfl c47
          refine ⟨fun c49 => ?_, fun c49 => ?_⟩
          · skip
            have d50 : ((99) : Int) < ((((((I 102 (Int32.toNatClampNeg ((4 + v2) - 1))) + 1) + 0) - 1) : Int32).toInt) := ci_lt rfl rfl c49
            refine ⟨Or.inr rfl, ?_⟩
            exact hQ _ _ _ _ hB0 rfl
          · skip
            have d51 : (((((((I 102 (Int32.toNatClampNeg ((4 + v2) - 1))) + 1) + 0) - 1) : Int32).toInt) : Int) ≤ (99) := ci_nlt rfl rfl c49
            refine ⟨fun c52 => ?_, fun c52 => ?_⟩
            · skip
              have d53 : (((((((I 102 (Int32.toNatClampNeg ((4 + v3) - 1))) + 1) + 0) - 0) : Int32).toInt) : Int) ≤ (99) := ci_le rfl rfl c52
              refine ⟨Or.inl rfl, ?_⟩
              exact hQ _ _ _ _ hB0 rfl
            · skip
              have d54 : ((99) : Int) < ((((((I 102 (Int32.toNatClampNeg ((4 + v3) - 1))) + 1) + 0) - 0) : Int32).toInt) := ci_nle rfl rfl c52
              refine ⟨Or.inr rfl, ?_⟩
              exact hQ _ _ _ _ hB0 rfl
        · skip
          have d55 : ((v3.toInt) : Int) = (v1.toInt) := ci_eq rfl rfl c47
          refine ⟨fun c56 => ?_, fun c56 => ?_⟩
          · skip
            have d57 : ((99) : Int) < ((((((I 102 (Int32.toNatClampNeg ((4 + v2) - 1))) + 1) + 0) - 1) : Int32).toInt) := ci_lt rfl rfl c56
            refine ⟨Or.inr rfl, ?_⟩
            exact hQ _ _ _ _ hB0 rfl
          · skip
            have d58 : (((((((I 102 (Int32.toNatClampNeg ((4 + v2) - 1))) + 1) + 0) - 1) : Int32).toInt) : Int) ≤ (99) := ci_nlt rfl rfl c56
            refine ⟨fun c59 => ?_, fun c59 => ?_⟩
            · skip
              have d60 : (((((((I 102 (Int32.toNatClampNeg ((4 + v3) - 1))) + 1) + 0) - 1) : Int32).toInt) : Int) ≤ (99) := ci_le rfl rfl c59
              refine ⟨Or.inl rfl, ?_⟩
              exact hQ _ _ _ _ hB0 rfl
            · skip
              have d61 : ((99) : Int) < ((((((I 102 (Int32.toNatClampNeg ((4 + v3) - 1))) + 1) + 0) - 1) : Int32).toInt) := ci_nle rfl rfl c59
              refine ⟨Or.inr rfl, ?_⟩
              exact hQ _ _ _ _ hB0 rfl
      · skip
        have d62 : ((v2.toInt) : Int) = (v3.toInt) := ci_eq rfl rfl c45
        refine ⟨fun c63 => ?_, fun c63 => ?_⟩
        · skip
          have d64 : ¬ ((v3.toInt) : Int) = (v1.toInt) := ci_ne rfl rfl c63
          refine ⟨fun c65 => ?_, fun c65 => ?_⟩
          · skip
            have d66 : ((99) : Int) < ((((((I 102 (Int32.toNatClampNeg ((4 + v2) - 1))) + 1) + 0) - 1) : Int32).toInt) := ci_lt rfl rfl c65
            refine ⟨Or.inr rfl, ?_⟩
            exact hQ _ _ _ _ hB0 rfl
          · skip
            have d67 : (((((((I 102 (Int32.toNatClampNeg ((4 + v2) - 1))) + 1) + 0) - 1) : Int32).toInt) : Int) ≤ (99) := ci_nlt rfl rfl c65
            refine ⟨fun c68 => ?_, fun c68 => ?_⟩
            · skip
              have d69 : (((((((I 102 (Int32.toNatClampNeg ((4 + v3) - 1))) + 1) + 1) - 0) : Int32).toInt) : Int) ≤ (99) := ci_le rfl rfl c68
              refine ⟨Or.inl rfl, ?_⟩
              exact hQ _ _ _ _ hB0 rfl
            · skip
              have d70 : ((99) : Int) < ((((((I 102 (Int32.toNatClampNeg ((4 + v3) - 1))) + 1) + 1) - 0) : Int32).toInt) := ci_nle rfl rfl c68
              refine ⟨Or.inr rfl, ?_⟩
              exact hQ _ _ _ _ hB0 rfl
        · skip
          have d71 : ((v3.toInt) : Int) = (v1.toInt) := ci_eq rfl rfl c63
          refine ⟨fun c72 => ?_, fun c72 => ?_⟩
          · skip
            have d73 : ((99) : Int) < ((((((I 102 (Int32.toNatClampNeg ((4 + v2) - 1))) + 1) + 0) - 1) : Int32).toInt) := ci_lt rfl rfl c72
            refine ⟨Or.inr rfl, ?_⟩
            exact hQ _ _ _ _ hB0 rfl
          · skip
            have d74 : (((((((I 102 (Int32.toNatClampNeg ((4 + v2) - 1))) + 1) + 0) - 1) : Int32).toInt) : Int) ≤ (99) := ci_nlt rfl rfl c72
            refine ⟨fun c75 => ?_, fun c75 => ?_⟩
            · skip
              have d76 : (((((((I 102 (Int32.toNatClampNeg ((4 + v3) - 1))) + 1) + 1) - 1) : Int32).toInt) : Int) ≤ (99) := ci_le rfl rfl c75
              refine ⟨Or.inl rfl, ?_⟩
              exact hQ _ _ _ _ hB0 rfl
            · skip
              have d77 : ((99) : Int) < ((((((I 102 (Int32.toNatClampNeg ((4 + v3) - 1))) + 1) + 1) - 1) : Int32).toInt) := ci_nle rfl rfl c75
              refine ⟨Or.inr rfl, ?_⟩
              exact hQ _ _ _ _ hB0 rfl
  · skip
    have d78 : ((v2.toInt) : Int) = (v3.toInt) := ci_eq rfl rfl c3
    refine ⟨fun c79 => ?_, fun c79 => ?_⟩
    · skip
      have d80 : ¬ ((v2.toInt) : Int) = (v1.toInt) := ci_ne rfl rfl c79
      have e81 : ((4 + v3) : Int32).toInt = (4) + (v3.toInt) := ti_add rfl rfl (by omega)
      have e82 : (((4 + v3) - 1) : Int32).toInt = ((4 + v3.toInt)) - (1) := ti_sub e81 rfl (by omega)
      refine ⟨vp_of (a := ((4 + v3.toInt) - 1)) e82 (by omega) (by omega), ?_⟩
      refine ⟨fun c83 => ?_, fun c83 => ?_⟩
      · skip
        have d84 : ¬ ((v2.toInt) : Int) = (v3.toInt) := ci_ne rfl rfl c83
        refine ⟨fun c85 => ?_, fun c85 => ?_⟩
        · skip
          have d86 : ¬ ((v3.toInt) : Int) = (v1.toInt) := ci_ne rfl rfl c85
          refine ⟨fun c87 => ?_, fun c87 => ?_⟩
          · skip
            have d88 : ((99) : Int) < ((((((I 102 (Int32.toNatClampNeg ((4 + v2) - 1))) + 1) + 1) - 0) : Int32).toInt) := ci_lt rfl rfl c87
            refine ⟨Or.inr rfl, ?_⟩
            exact hQ _ _ _ _ hB0 rfl
          · skip
            have d89 : (((((((I 102 (Int32.toNatClampNeg ((4 + v2) - 1))) + 1) + 1) - 0) : Int32).toInt) : Int) ≤ (99) := ci_nlt rfl rfl c87
            refine ⟨fun c90 => ?_, fun c90 => ?_⟩
            · skip
              have d91 : (((((((I 102 (Int32.toNatClampNeg ((4 + v3) - 1))) + 1) + 0) - 0) : Int32).toInt) : Int) ≤ (99) := ci_le rfl rfl c90
              refine ⟨Or.inl rfl, ?_⟩
              exact hQ _ _ _ _ hB0 rfl
            · skip
              have d92 : ((99) : Int) < ((((((I 102 (Int32.toNatClampNeg ((4 + v3) - 1))) + 1) + 0) - 0) : Int32).toInt) := ci_nle rfl rfl c90
              refine ⟨Or.inr rfl, ?_⟩
              exact hQ _ _ _ _ hB0 rfl
        · skip
          have d93 : ((v3.toInt) : Int) = (v1.toInt) := ci_eq rfl rfl c85
          refine ⟨fun c94 => ?_, fun c94 => ?_⟩
          · skip
            have d95 : ((99) : Int) < ((((((I 102 (Int32.toNatClampNeg ((4 + v2) - 1))) + 1) + 1) - 0) : Int32).toInt) := ci_lt rfl rfl c94
            refine ⟨Or.inr rfl, ?_⟩
            exact hQ _ _ _ _ hB0 rfl
          · skip
            have d96 : (((((((I 102 (Int32.toNatClampNeg ((4 + v2) - 1))) + 1) + 1) - 0) : Int32).toInt) : Int) ≤ (99) := ci_nlt rfl rfl c94
            refine ⟨fun c97 => ?_, fun c97 => ?_⟩
            · skip
              have d98 : (((((((I 102 (Int32.toNatClampNeg ((4 + v3) - 1))) + 1) + 0) - 1) : Int32).toInt) : Int) ≤ (99) := ci_le rfl rfl c97
              refine ⟨Or.inl rfl, ?_⟩
              exact hQ _ _ _ _ hB0 rfl
            · skip
              have d99 : ((99) : Int) < ((((((I 102 (Int32.toNatClampNeg ((4 + v3) - 1))) + 1) + 0) - 1) : Int32).toInt) := ci_nle rfl rfl c97
              refine ⟨Or.inr rfl, ?_⟩
              exact hQ _ _ _ _ hB0 rfl
      · skip
        have d100 : ((v2.toInt) : Int) = (v3.toInt) := ci_eq rfl rfl c83
        refine ⟨fun c101 => ?_, fun c101 => ?_⟩
        · skip
          have d102 : ¬ ((v3.toInt) : Int) = (v1.toInt) := ci_ne rfl rfl c101
          refine ⟨fun c103 => ?_, fun c103 => ?_⟩
          · skip
            have d104 : ((99) : Int) < ((((((I 102 (Int32.toNatClampNeg ((4 + v2) - 1))) + 1) + 1) - 0) : Int32).toInt) := ci_lt rfl rfl c103
            refine ⟨Or.inr rfl, ?_⟩
            exact hQ _ _ _ _ hB0 rfl
          · skip
            have d105 : (((((((I 102 (Int32.toNatClampNeg ((4 + v2) - 1))) + 1) + 1) - 0) : Int32).toInt) : Int) ≤ (99) := ci_nlt rfl rfl c103
            refine ⟨fun c106 => ?_, fun c106 => ?_⟩
            · skip
              have d107 : (((((((I 102 (Int32.toNatClampNeg ((4 + v3) - 1))) + 1) + 1) - 0) : Int32).toInt) : Int) ≤ (99) := ci_le rfl rfl c106
              refine ⟨Or.inl rfl, ?_⟩
              exact hQ _ _ _ _ hB0 rfl
            · skip
              have d108 : ((99) : Int) < ((((((I 102 (Int32.toNatClampNeg ((4 + v3) - 1))) + 1) + 1) - 0) : Int32).toInt) := ci_nle rfl rfl c106
              refine ⟨Or.inr rfl, ?_⟩
              exact hQ _ _ _ _ hB0 rfl
        · skip
          have d109 : ((v3.toInt) : Int) = (v1.toInt) := ci_eq rfl rfl c101
          refine ⟨fun c110 => ?_, fun c110 => ?_⟩
          · skip
            have d111 : ((99) : Int) < ((((((I 102 (Int32.toNatClampNeg ((4 + v2) - 1))) + 1) + 1) - 0) : Int32).toInt) := ci_lt rfl rfl c110
            refine ⟨Or.inr rfl, ?_⟩
            exact hQ _ _ _ _ hB0 rfl
          · skip
            have d112 : (((((((I 102 (Int32.toNatClampNeg ((4 + v2) - 1))) + 1) + 1) - 0) : Int32).toInt) : Int) ≤ (99) := ci_nlt rfl rfl c110
            refine ⟨fun c113 => ?_, fun c113 => ?_⟩
            · skip
              have d114 : (((((((I 102 (Int32.toNatClampNeg ((4 + v3) - 1))) + 1) + 1) - 1) : Int32).toInt) : Int) ≤ (99) := ci_le rfl rfl c113
              refine ⟨Or.inl rfl, ?_⟩
              exact hQ _ _ _ _ hB0 rfl
            · skip
              have d115 : ((99) : Int) < ((((((I 102 (Int32.toNatClampNeg ((4 + v3) - 1))) + 1) + 1) - 1) : Int32).toInt) := ci_nle rfl rfl c113
              refine ⟨Or.inr rfl, ?_⟩
              exact hQ _ _ _ _ hB0 rfl
    · skip
      have d116 : ((v2.toInt) : Int) = (v1.toInt) := ci_eq rfl rfl c79
      have e117 : ((4 + v3) : Int32).toInt = (4) + (v3.toInt) := ti_add rfl rfl (by omega)
      have e118 : (((4 + v3) - 1) : Int32).toInt = ((4 + v3.toInt)) - (1) := ti_sub e117 rfl (by omega)
      refine ⟨vp_of (a := ((4 + v3.toInt) - 1)) e118 (by omega) (by omega), ?_⟩
      refine ⟨fun c119 => ?_, fun c119 => ?_⟩
      · skip
        have d120 : ¬ ((v2.toInt) : Int) = (v3.toInt) := ci_ne rfl rfl c119
        refine ⟨fun c121 => ?_, fun c121 => ?_⟩
        · skip
          have d122 : ¬ ((v3.toInt) : Int) = (v1.toInt) := ci_ne rfl rfl c121
          refine ⟨fun c123 => ?_, fun c123 => ?_⟩
          · skip
            have d124 : ((99) : Int) < ((((((I 102 (Int32.toNatClampNeg ((4 + v2) - 1))) + 1) + 1) - 1) : Int32).toInt) := ci_lt rfl rfl c123
            refine ⟨Or.inr rfl, ?_⟩
            exact hQ _ _ _ _ hB0 rfl
          · skip
            have d125 : (((((((I 102 (Int32.toNatClampNeg ((4 + v2) - 1))) + 1) + 1) - 1) : Int32).toInt) : Int) ≤ (99) := ci_nlt rfl rfl c123
            refine ⟨fun c126 => ?_, fun c126 => ?_⟩
            · skip
              have d127 : (((((((I 102 (Int32.toNatClampNeg ((4 + v3) - 1))) + 1) + 0) - 0) : Int32).toInt) : Int) ≤ (99) := ci_le rfl rfl c126
              refine ⟨Or.inl rfl, ?_⟩
              exact hQ _ _ _ _ hB0 rfl
            · skip
              have d128 : ((99) : Int) < ((((((I 102 (Int32.toNatClampNeg ((4 + v3) - 1))) + 1) + 0) - 0) : Int32).toInt) := ci_nle rfl rfl c126
              refine ⟨Or.inr rfl, ?_⟩
              exact hQ _ _ _ _ hB0 rfl
        · skip
          have d129 : ((v3.toInt) : Int) = (v1.toInt) := ci_eq rfl rfl c121
          refine ⟨fun c130 => ?_, fun c130 => ?_⟩
          · skip
            have d131 : ((99) : Int) < ((((((I 102 (Int32.toNatClampNeg ((4 + v2) - 1))) + 1) + 1) - 1) : Int32).toInt) := ci_lt rfl rfl c130
            refine ⟨Or.inr rfl, ?_⟩
            exact hQ _ _ _ _ hB0 rfl
          · skip
            have d132 : (((((((I 102 (Int32.toNatClampNeg ((4 + v2) - 1))) + 1) + 1) - 1) : Int32).toInt) : Int) ≤ (99) := ci_nlt rfl rfl c130
            refine ⟨fun c133 => ?_, fun c133 => ?_⟩
            · skip
              have d134 : (((((((I 102 (Int32.toNatClampNeg ((4 + v3) - 1))) + 1) + 0) - 1) : Int32).toInt) : Int) ≤ (99) := ci_le rfl rfl c133
              refine ⟨Or.inl rfl, ?_⟩
              exact hQ _ _ _ _ hB0 rfl
            · skip
              have d135 : ((99) : Int) < ((((((I 102 (Int32.toNatClampNeg ((4 + v3) - 1))) + 1) + 0) - 1) : Int32).toInt) := ci_nle rfl rfl c133
              refine ⟨Or.inr rfl, ?_⟩
              exact hQ _ _ _ _ hB0 rfl
      · skip
        have d136 : ((v2.toInt) : Int) = (v3.toInt) := ci_eq rfl rfl c119
        refine ⟨fun c137 => ?_, fun c137 => ?_⟩
        · skip
          have d138 : ¬ ((v3.toInt) : Int) = (v1.toInt) := ci_ne rfl rfl c137
          refine ⟨fun c139 => ?_, fun c139 => ?_⟩
          · skip
            have d140 : ((99) : Int) < ((((((I 102 (Int32.toNatClampNeg ((4 + v2) - 1))) + 1) + 1) - 1) : Int32).toInt) := ci_lt rfl rfl c139
            refine ⟨Or.inr rfl, ?_⟩
            exact hQ _ _ _ _ hB0 rfl
          · skip
            have d141 : (((((((I 102 (Int32.toNatClampNeg ((4 + v2) - 1))) + 1) + 1) - 1) : Int32).toInt) : Int) ≤ (99) := ci_nlt rfl rfl c139
            refine ⟨fun c142 => ?_, fun c142 => ?_⟩
            · skip
              have d143 : (((((((I 102 (Int32.toNatClampNeg ((4 + v3) - 1))) + 1) + 1) - 0) : Int32).toInt) : Int) ≤ (99) := ci_le rfl rfl c142
              refine ⟨Or.inl rfl, ?_⟩
              exact hQ _ _ _ _ hB0 rfl
            · skip
              have d144 : ((99) : Int) < ((((((I 102 (Int32.toNatClampNeg ((4 + v3) - 1))) + 1) + 1) - 0) : Int32).toInt) := ci_nle rfl rfl c142
              refine ⟨Or.inr rfl, ?_⟩
              exact hQ _ _ _ _ hB0 rfl
        · skip
          have d145 : ((v3.toInt) : Int) = (v1.toInt) := ci_eq rfl rfl c137
          refine ⟨fun c146 => ?_, fun c146 => ?_⟩
          · skip
            have d147 : ((99) : Int) < ((((((I 102 (Int32.toNatClampNeg ((4 + v2) - 1))) + 1) + 1) - 1) : Int32).toInt) := ci_lt rfl rfl c146
            refine ⟨Or.inr rfl, ?_⟩
            exact hQ _ _ _ _ hB0 rfl
          · skip
            have d148 : (((((((I 102 (Int32.toNatClampNeg ((4 + v2) - 1))) + 1) + 1) - 1) : Int32).toInt) : Int) ≤ (99) := ci_nlt rfl rfl c146
            refine ⟨fun c149 => ?_, fun c149 => ?_⟩
            · skip
              have d150 : (((((((I 102 (Int32.toNatClampNeg ((4 + v3) - 1))) + 1) + 1) - 1) : Int32).toInt) : Int) ≤ (99) := ci_le rfl rfl c149
              refine ⟨Or.inl rfl, ?_⟩
              exact hQ _ _ _ _ hB0 rfl
            · skip
              have d151 : ((99) : Int) < ((((((I 102 (Int32.toNatClampNeg ((4 + v3) - 1))) + 1) + 1) - 1) : Int32).toInt) := ci_nle rfl rfl c149
              refine ⟨Or.inr rfl, ?_⟩
              exact hQ _ _ _ _ hB0 rfl
set_option maxHeartbeats 2000000 in
theorem sp_X12_cuts {d : Nat} {Q : Qt} {v1 : Int32} {v2 : Int32} {v3 : Int32} {I : Im} {J : Jm} {R : Rm} (hB0 : Bd I) (hR0 : RI R) (hv1 : 1 ≤ v1.toInt ∧ v1.toInt ≤ 30) (hv2 : 1 ≤ v2.toInt ∧ v2.toInt ≤ 30) (hv3 : 1 ≤ v3.toInt ∧ v3.toInt ≤ 30) (hQ : ∀ (x : Int32) (y : Int64) (I2 : Im) (J2 : Jm), Bd I2 → (I2 97 43 = I 97 43 ∧ Fr pD I I2) → Q x y I2 J2 R) : AM (d + 2) 257 112 [.ref 97, .int v1, .int v2, .int v3] I J R Q := by
  have i_v1 := i32 v1
  have i_v2 := i32 v2
  have i_v3 := i32 v3
  refine w_X12_cuts ?_
  have e1 : ((4 + v1) : Int32).toInt = (4) + (v1.toInt) := ti_add rfl rfl (by omega)
  have e2 : (((4 + v1) - 1) : Int32).toInt = ((4 + v1.toInt)) - (1) := ti_sub e1 rfl (by omega)
  refine ⟨vp_of (a := ((4 + v1.toInt) - 1)) e2 (by omega) (by omega), ?_⟩
  refine ⟨fun c3 => ?_, fun c3 => ?_⟩
  · skip
    have d4 : (((I 102 (Int32.toNatClampNeg ((4 + v1) - 1))).toInt) : Int) = (0) := ci_eq rfl rfl c3
    refine ⟨Or.inl rfl, ?_⟩
    exact hQ _ _ _ _ hB0 ⟨rfl, (Fr.refl _ _)⟩
  · skip
    have d5 : ¬ (((I 102 (Int32.toNatClampNeg ((4 + v1) - 1))).toInt) : Int) = (0) := ci_ne rfl rfl c3
    refine w_X12_partsOf ?_
    refine ⟨(fun z => by have z2 : (v2.toInt : Int) = 0 := cl_eq (tl_i2l rfl) rfl z; omega), ?_⟩
    refine w_X12_partsOf ?_
    refine ⟨(fun z => by have z2 : (v3.toInt : Int) = 0 := cl_eq (tl_i2l rfl) rfl z; omega), ?_⟩
    refine w_X12_partsOf ?_
    refine ⟨(fun z => by have z2 : (v1.toInt : Int) = 0 := cl_eq (tl_i2l rfl) rfl z; omega), ?_⟩
    refine ⟨fun c6 => ?_, fun c6 => ?_⟩
    · skip
      rw [lg_cmp_eq] at c6
      have d7 : ¬ (((((2329089562800 / (Int32.toInt64 v2)) + (2329089562800 / (Int32.toInt64 v3))) : Int64).toInt) : Int) = (((2329089562800 / (Int32.toInt64 v1)) : Int64).toInt) := cl_ne rfl rfl c6
      refine ⟨Or.inl rfl, ?_⟩
      exact hQ _ _ _ _ hB0 ⟨rfl, (Fr.refl _ _)⟩
    · skip
      rw [lg_cmp_eq] at c6
      have d8 : (((((2329089562800 / (Int32.toInt64 v2)) + (2329089562800 / (Int32.toInt64 v3))) : Int64).toInt) : Int) = (((2329089562800 / (Int32.toInt64 v1)) : Int64).toInt) := cl_eq rfl rfl c6
      refine sp_X12_isOver hB0 hR0 (by have z1 : (v1 : Int32).toInt = v1.toInt := rfl; omega) (by have z2 : (v2 : Int32).toInt = v2.toInt := rfl; omega) (by have z3 : (v3 : Int32).toInt = v3.toInt := rfl; omega) (fun x9 y14 I10 J11 hB12 p13 => ?_)
      intro o15
      subst p13
      have i16 := i32 x9
      refine ⟨fun c17 => ?_, fun c17 => ?_⟩
      · skip
        have d18 : ((x9.toInt) : Int) = (0) := ci_eq rfl rfl c17
        refine ⟨vp_of (a := ((4 + v1.toInt) - 1)) e2 (by omega) (by omega), ?_⟩
        refine ⟨vp_of (a := ((4 + v1.toInt) - 1)) e2 (by omega) (by omega), ?_⟩
        have hB19 : Bd (uI I 102 (Int32.toNatClampNeg ((4 + v1) - 1)) ((I 102 (Int32.toNatClampNeg ((4 + v1) - 1))) - 1)) := Bd.cfree hB0 (show (((4 + v1) - 1) : Int32).toInt = ((4 + v1.toInt) - 1) from e2) (by omega) (by omega) (by omega) (by omega)
        have f20 : Fr pD I (uI I 102 (Int32.toNatClampNeg ((4 + v1) - 1)) ((I 102 (Int32.toNatClampNeg ((4 + v1) - 1))) - 1)) := Fr.w (Fr.refl _ _) (show (((4 + v1) - 1) : Int32).toInt = ((4 + v1.toInt) - 1) from e2) (by omega) (fun j hj hp => by unfold pD at hp; omega)
        have e21 : ((4 + v2) : Int32).toInt = (4) + (v2.toInt) := ti_add rfl rfl (by omega)
        have e22 : (((4 + v2) - 1) : Int32).toInt = ((4 + v2.toInt)) - (1) := ti_sub e21 rfl (by omega)
        refine ⟨vp_of (a := ((4 + v2.toInt) - 1)) e22 (by omega) (by omega), ?_⟩
        refine ⟨vp_of (a := ((4 + v2.toInt) - 1)) e22 (by omega) (by omega), ?_⟩
        have hB23 : Bd (uI (uI I 102 (Int32.toNatClampNeg ((4 + v1) - 1)) ((I 102 (Int32.toNatClampNeg ((4 + v1) - 1))) - 1)) 102 (Int32.toNatClampNeg ((4 + v2) - 1)) (((uI I 102 (Int32.toNatClampNeg ((4 + v1) - 1)) ((I 102 (Int32.toNatClampNeg ((4 + v1) - 1))) - 1)) 102 (Int32.toNatClampNeg ((4 + v2) - 1))) + 1)) := Bd.cfree hB19 (show (((4 + v2) - 1) : Int32).toInt = ((4 + v2.toInt) - 1) from e22) (by omega) (by omega) (by omega) (by omega)
        have f24 : Fr pD I (uI (uI I 102 (Int32.toNatClampNeg ((4 + v1) - 1)) ((I 102 (Int32.toNatClampNeg ((4 + v1) - 1))) - 1)) 102 (Int32.toNatClampNeg ((4 + v2) - 1)) (((uI I 102 (Int32.toNatClampNeg ((4 + v1) - 1)) ((I 102 (Int32.toNatClampNeg ((4 + v1) - 1))) - 1)) 102 (Int32.toNatClampNeg ((4 + v2) - 1))) + 1)) := Fr.w f20 (show (((4 + v2) - 1) : Int32).toInt = ((4 + v2.toInt) - 1) from e22) (by omega) (fun j hj hp => by unfold pD at hp; omega)
        have e25 : ((4 + v3) : Int32).toInt = (4) + (v3.toInt) := ti_add rfl rfl (by omega)
        have e26 : (((4 + v3) - 1) : Int32).toInt = ((4 + v3.toInt)) - (1) := ti_sub e25 rfl (by omega)
        refine ⟨vp_of (a := ((4 + v3.toInt) - 1)) e26 (by omega) (by omega), ?_⟩
        refine ⟨vp_of (a := ((4 + v3.toInt) - 1)) e26 (by omega) (by omega), ?_⟩
        have hB27 : Bd (uI (uI (uI I 102 (Int32.toNatClampNeg ((4 + v1) - 1)) ((I 102 (Int32.toNatClampNeg ((4 + v1) - 1))) - 1)) 102 (Int32.toNatClampNeg ((4 + v2) - 1)) (((uI I 102 (Int32.toNatClampNeg ((4 + v1) - 1)) ((I 102 (Int32.toNatClampNeg ((4 + v1) - 1))) - 1)) 102 (Int32.toNatClampNeg ((4 + v2) - 1))) + 1)) 102 (Int32.toNatClampNeg ((4 + v3) - 1)) (((uI (uI I 102 (Int32.toNatClampNeg ((4 + v1) - 1)) ((I 102 (Int32.toNatClampNeg ((4 + v1) - 1))) - 1)) 102 (Int32.toNatClampNeg ((4 + v2) - 1)) (((uI I 102 (Int32.toNatClampNeg ((4 + v1) - 1)) ((I 102 (Int32.toNatClampNeg ((4 + v1) - 1))) - 1)) 102 (Int32.toNatClampNeg ((4 + v2) - 1))) + 1)) 102 (Int32.toNatClampNeg ((4 + v3) - 1))) + 1)) := Bd.cfree hB23 (show (((4 + v3) - 1) : Int32).toInt = ((4 + v3.toInt) - 1) from e26) (by omega) (by omega) (by omega) (by omega)
        have f28 : Fr pD I (uI (uI (uI I 102 (Int32.toNatClampNeg ((4 + v1) - 1)) ((I 102 (Int32.toNatClampNeg ((4 + v1) - 1))) - 1)) 102 (Int32.toNatClampNeg ((4 + v2) - 1)) (((uI I 102 (Int32.toNatClampNeg ((4 + v1) - 1)) ((I 102 (Int32.toNatClampNeg ((4 + v1) - 1))) - 1)) 102 (Int32.toNatClampNeg ((4 + v2) - 1))) + 1)) 102 (Int32.toNatClampNeg ((4 + v3) - 1)) (((uI (uI I 102 (Int32.toNatClampNeg ((4 + v1) - 1)) ((I 102 (Int32.toNatClampNeg ((4 + v1) - 1))) - 1)) 102 (Int32.toNatClampNeg ((4 + v2) - 1)) (((uI I 102 (Int32.toNatClampNeg ((4 + v1) - 1)) ((I 102 (Int32.toNatClampNeg ((4 + v1) - 1))) - 1)) 102 (Int32.toNatClampNeg ((4 + v2) - 1))) + 1)) 102 (Int32.toNatClampNeg ((4 + v3) - 1))) + 1)) := Fr.w f24 (show (((4 + v3) - 1) : Int32).toInt = ((4 + v3.toInt) - 1) from e26) (by omega) (fun j hj hp => by unfold pD at hp; omega)
        refine ⟨vp_of (a := 2) rfl (by omega) (by omega), ?_⟩
        refine ⟨vp_of (a := 2) rfl (by omega) (by omega), ?_⟩
        have hB29 : Bd (uI (uI (uI (uI I 102 (Int32.toNatClampNeg ((4 + v1) - 1)) ((I 102 (Int32.toNatClampNeg ((4 + v1) - 1))) - 1)) 102 (Int32.toNatClampNeg ((4 + v2) - 1)) (((uI I 102 (Int32.toNatClampNeg ((4 + v1) - 1)) ((I 102 (Int32.toNatClampNeg ((4 + v1) - 1))) - 1)) 102 (Int32.toNatClampNeg ((4 + v2) - 1))) + 1)) 102 (Int32.toNatClampNeg ((4 + v3) - 1)) (((uI (uI I 102 (Int32.toNatClampNeg ((4 + v1) - 1)) ((I 102 (Int32.toNatClampNeg ((4 + v1) - 1))) - 1)) 102 (Int32.toNatClampNeg ((4 + v2) - 1)) (((uI I 102 (Int32.toNatClampNeg ((4 + v1) - 1)) ((I 102 (Int32.toNatClampNeg ((4 + v1) - 1))) - 1)) 102 (Int32.toNatClampNeg ((4 + v2) - 1))) + 1)) 102 (Int32.toNatClampNeg ((4 + v3) - 1))) + 1)) 102 (Int32.toNatClampNeg 2) (((uI (uI (uI I 102 (Int32.toNatClampNeg ((4 + v1) - 1)) ((I 102 (Int32.toNatClampNeg ((4 + v1) - 1))) - 1)) 102 (Int32.toNatClampNeg ((4 + v2) - 1)) (((uI I 102 (Int32.toNatClampNeg ((4 + v1) - 1)) ((I 102 (Int32.toNatClampNeg ((4 + v1) - 1))) - 1)) 102 (Int32.toNatClampNeg ((4 + v2) - 1))) + 1)) 102 (Int32.toNatClampNeg ((4 + v3) - 1)) (((uI (uI I 102 (Int32.toNatClampNeg ((4 + v1) - 1)) ((I 102 (Int32.toNatClampNeg ((4 + v1) - 1))) - 1)) 102 (Int32.toNatClampNeg ((4 + v2) - 1)) (((uI I 102 (Int32.toNatClampNeg ((4 + v1) - 1)) ((I 102 (Int32.toNatClampNeg ((4 + v1) - 1))) - 1)) 102 (Int32.toNatClampNeg ((4 + v2) - 1))) + 1)) 102 (Int32.toNatClampNeg ((4 + v3) - 1))) + 1)) 102 (Int32.toNatClampNeg 2)) + 1)) := Bd.cfree hB27 (show (2 : Int32).toInt = 2 from rfl) (by omega) (by omega) (by omega) (by omega)
        have f30 : Fr pD I (uI (uI (uI (uI I 102 (Int32.toNatClampNeg ((4 + v1) - 1)) ((I 102 (Int32.toNatClampNeg ((4 + v1) - 1))) - 1)) 102 (Int32.toNatClampNeg ((4 + v2) - 1)) (((uI I 102 (Int32.toNatClampNeg ((4 + v1) - 1)) ((I 102 (Int32.toNatClampNeg ((4 + v1) - 1))) - 1)) 102 (Int32.toNatClampNeg ((4 + v2) - 1))) + 1)) 102 (Int32.toNatClampNeg ((4 + v3) - 1)) (((uI (uI I 102 (Int32.toNatClampNeg ((4 + v1) - 1)) ((I 102 (Int32.toNatClampNeg ((4 + v1) - 1))) - 1)) 102 (Int32.toNatClampNeg ((4 + v2) - 1)) (((uI I 102 (Int32.toNatClampNeg ((4 + v1) - 1)) ((I 102 (Int32.toNatClampNeg ((4 + v1) - 1))) - 1)) 102 (Int32.toNatClampNeg ((4 + v2) - 1))) + 1)) 102 (Int32.toNatClampNeg ((4 + v3) - 1))) + 1)) 102 (Int32.toNatClampNeg 2) (((uI (uI (uI I 102 (Int32.toNatClampNeg ((4 + v1) - 1)) ((I 102 (Int32.toNatClampNeg ((4 + v1) - 1))) - 1)) 102 (Int32.toNatClampNeg ((4 + v2) - 1)) (((uI I 102 (Int32.toNatClampNeg ((4 + v1) - 1)) ((I 102 (Int32.toNatClampNeg ((4 + v1) - 1))) - 1)) 102 (Int32.toNatClampNeg ((4 + v2) - 1))) + 1)) 102 (Int32.toNatClampNeg ((4 + v3) - 1)) (((uI (uI I 102 (Int32.toNatClampNeg ((4 + v1) - 1)) ((I 102 (Int32.toNatClampNeg ((4 + v1) - 1))) - 1)) 102 (Int32.toNatClampNeg ((4 + v2) - 1)) (((uI I 102 (Int32.toNatClampNeg ((4 + v1) - 1)) ((I 102 (Int32.toNatClampNeg ((4 + v1) - 1))) - 1)) 102 (Int32.toNatClampNeg ((4 + v2) - 1))) + 1)) 102 (Int32.toNatClampNeg ((4 + v3) - 1))) + 1)) 102 (Int32.toNatClampNeg 2)) + 1)) := Fr.w f28 (show (2 : Int32).toInt = 2 from rfl) (by omega) (fun j hj hp => by unfold pD at hp; omega)
        refine ⟨Or.inr rfl, ?_⟩
        exact hQ _ _ _ _ hB29 ⟨(Eq.trans (Eq.trans (Eq.trans (rd_ne (by omega)) (rd_ne (by omega))) (rd_ne (by omega))) (rd_ne (by omega))), f30⟩
      · skip
        have d31 : ¬ ((x9.toInt) : Int) = (0) := ci_ne rfl rfl c17
        refine ⟨Or.inl rfl, ?_⟩
        exact hQ _ _ _ _ hB0 ⟨rfl, (Fr.refl _ _)⟩
set_option maxHeartbeats 2000000 in
theorem sp_X12_cut {d : Nat} {Q : Qt} {v1 : Int32} {v2 : Int32} {v3 : Int32} {I : Im} {J : Jm} {R : Rm} (hB0 : Bd I) (hR0 : RI R) (hQ : ∀ (x : Int32) (y : Int64) (I2 : Im) (J2 : Jm), Bd I2 → (Fr pK I I2) → Q x y I2 J2 R) : AM (d + 3) 258 112 [.ref 97, .int v1, .int v2, .int v3] I J R Q := by
  have i_v1 := i32 v1
  have i_v2 := i32 v2
  have i_v3 := i32 v3
  refine w_X12_cut ?_
  have hB1 : Bd (uI I 97 1 0) := Bd.o0 hB0 (show isO 112 97 12 = true from rfl) (by omega) (show bnd 12 1 = none from rfl)
  have f2 : Fr pK I (uI I 97 1 0) := Fr.o (Fr.refl _ _) (by decide) (by decide)
  have hB3 : Bd (uI (uI I 97 1 0) 97 0 0) := Bd.o0 hB1 (show isO 112 97 12 = true from rfl) (by omega) (show bnd 12 0 = none from rfl)
  have f4 : Fr pK I (uI (uI I 97 1 0) 97 0 0) := Fr.o f2 (by decide) (by decide)
  refine w_X12_isSlice ?_
  refine w_X12_isIn ?_
  refine ⟨fun c5 => ?_, fun c5 => ?_⟩
  · skip
    rw [lg_cmp_lt] at c5
    have d6 : ((v1.toInt) : Int) < (1) := cl_lt (tl_i2l rfl) rfl c5
    refine ⟨Or.inl rfl, ?_⟩
    intro o7
    refine ⟨Or.inl rfl, ?_⟩
    intro o8
    refine ⟨fun c9 => ?_, fun c9 => ?_⟩
    · skip
      refine w_X12_refuse ?_
      have hB10 : Bd (uI (uI (uI I 97 1 0) 97 0 0) 97 0 2) := Bd.o0 hB3 (show isO 112 97 12 = true from rfl) (by omega) (show bnd 12 0 = none from rfl)
      have f11 : Fr pK I (uI (uI (uI I 97 1 0) 97 0 0) 97 0 2) := Fr.o f4 (by decide) (by decide)
      exact hQ _ _ _ _ hB10 f11
    · exact absurd c9 (by decide)
  · skip
    rw [lg_cmp_lt] at c5
    have d12 : ((1) : Int) ≤ (v1.toInt) := cl_nlt (tl_i2l rfl) rfl c5
    refine ⟨fun c13 => ?_, fun c13 => ?_⟩
    · skip
      rw [lg_cmp_gt] at c13
      have d14 : ((30) : Int) < (v1.toInt) := cl_lt rfl (tl_i2l rfl) c13
      refine ⟨Or.inl rfl, ?_⟩
      intro o15
      refine ⟨Or.inl rfl, ?_⟩
      intro o16
      refine ⟨fun c17 => ?_, fun c17 => ?_⟩
      · skip
        refine w_X12_refuse ?_
        have hB18 : Bd (uI (uI (uI I 97 1 0) 97 0 0) 97 0 2) := Bd.o0 hB3 (show isO 112 97 12 = true from rfl) (by omega) (show bnd 12 0 = none from rfl)
        have f19 : Fr pK I (uI (uI (uI I 97 1 0) 97 0 0) 97 0 2) := Fr.o f4 (by decide) (by decide)
        exact hQ _ _ _ _ hB18 f19
      · exact absurd c17 (by decide)
    · skip
      rw [lg_cmp_gt] at c13
      have d20 : ((v1.toInt) : Int) ≤ (30) := cl_nlt rfl (tl_i2l rfl) c13
      refine ⟨Or.inr rfl, ?_⟩
      intro o21
      refine ⟨Or.inr rfl, ?_⟩
      intro o22
      refine ⟨fun c23 => ?_, fun c23 => ?_⟩
      · exact absurd c23 (by decide)
      · skip
        refine w_X12_isSlice ?_
        refine w_X12_isIn ?_
        refine ⟨fun c24 => ?_, fun c24 => ?_⟩
        · skip
          rw [lg_cmp_lt] at c24
          have d25 : ((v2.toInt) : Int) < (1) := cl_lt (tl_i2l rfl) rfl c24
          refine ⟨Or.inl rfl, ?_⟩
          intro o26
          refine ⟨Or.inl rfl, ?_⟩
          intro o27
          refine ⟨fun c28 => ?_, fun c28 => ?_⟩
          · skip
            refine w_X12_refuse ?_
            have hB29 : Bd (uI (uI (uI I 97 1 0) 97 0 0) 97 0 2) := Bd.o0 hB3 (show isO 112 97 12 = true from rfl) (by omega) (show bnd 12 0 = none from rfl)
            have f30 : Fr pK I (uI (uI (uI I 97 1 0) 97 0 0) 97 0 2) := Fr.o f4 (by decide) (by decide)
            exact hQ _ _ _ _ hB29 f30
          · exact absurd c28 (by decide)
        · skip
          rw [lg_cmp_lt] at c24
          have d31 : ((1) : Int) ≤ (v2.toInt) := cl_nlt (tl_i2l rfl) rfl c24
          refine ⟨fun c32 => ?_, fun c32 => ?_⟩
          · skip
            rw [lg_cmp_gt] at c32
            have d33 : ((30) : Int) < (v2.toInt) := cl_lt rfl (tl_i2l rfl) c32
            refine ⟨Or.inl rfl, ?_⟩
            intro o34
            refine ⟨Or.inl rfl, ?_⟩
            intro o35
            refine ⟨fun c36 => ?_, fun c36 => ?_⟩
            · skip
              refine w_X12_refuse ?_
              have hB37 : Bd (uI (uI (uI I 97 1 0) 97 0 0) 97 0 2) := Bd.o0 hB3 (show isO 112 97 12 = true from rfl) (by omega) (show bnd 12 0 = none from rfl)
              have f38 : Fr pK I (uI (uI (uI I 97 1 0) 97 0 0) 97 0 2) := Fr.o f4 (by decide) (by decide)
              exact hQ _ _ _ _ hB37 f38
            · exact absurd c36 (by decide)
          · skip
            rw [lg_cmp_gt] at c32
            have d39 : ((v2.toInt) : Int) ≤ (30) := cl_nlt rfl (tl_i2l rfl) c32
            refine ⟨Or.inr rfl, ?_⟩
            intro o40
            refine ⟨Or.inr rfl, ?_⟩
            intro o41
            refine ⟨fun c42 => ?_, fun c42 => ?_⟩
            · exact absurd c42 (by decide)
            · skip
              refine w_X12_isSlice ?_
              refine w_X12_isIn ?_
              refine ⟨fun c43 => ?_, fun c43 => ?_⟩
              · skip
                rw [lg_cmp_lt] at c43
                have d44 : ((v3.toInt) : Int) < (1) := cl_lt (tl_i2l rfl) rfl c43
                refine ⟨Or.inl rfl, ?_⟩
                intro o45
                refine ⟨Or.inl rfl, ?_⟩
                intro o46
                refine ⟨fun c47 => ?_, fun c47 => ?_⟩
                · exact absurd c47 (by decide)
                · skip
                  refine w_X12_refuse ?_
                  have hB48 : Bd (uI (uI (uI I 97 1 0) 97 0 0) 97 0 2) := Bd.o0 hB3 (show isO 112 97 12 = true from rfl) (by omega) (show bnd 12 0 = none from rfl)
                  have f49 : Fr pK I (uI (uI (uI I 97 1 0) 97 0 0) 97 0 2) := Fr.o f4 (by decide) (by decide)
                  exact hQ _ _ _ _ hB48 f49
              · skip
                rw [lg_cmp_lt] at c43
                have d50 : ((1) : Int) ≤ (v3.toInt) := cl_nlt (tl_i2l rfl) rfl c43
                refine ⟨fun c51 => ?_, fun c51 => ?_⟩
                · skip
                  rw [lg_cmp_gt] at c51
                  have d52 : ((30) : Int) < (v3.toInt) := cl_lt rfl (tl_i2l rfl) c51
                  refine ⟨Or.inl rfl, ?_⟩
                  intro o53
                  refine ⟨Or.inl rfl, ?_⟩
                  intro o54
                  refine ⟨fun c55 => ?_, fun c55 => ?_⟩
                  · exact absurd c55 (by decide)
                  · skip
                    refine w_X12_refuse ?_
                    have hB56 : Bd (uI (uI (uI I 97 1 0) 97 0 0) 97 0 2) := Bd.o0 hB3 (show isO 112 97 12 = true from rfl) (by omega) (show bnd 12 0 = none from rfl)
                    have f57 : Fr pK I (uI (uI (uI I 97 1 0) 97 0 0) 97 0 2) := Fr.o f4 (by decide) (by decide)
                    exact hQ _ _ _ _ hB56 f57
                · skip
                  rw [lg_cmp_gt] at c51
                  have d58 : ((v3.toInt) : Int) ≤ (30) := cl_nlt rfl (tl_i2l rfl) c51
                  refine ⟨Or.inr rfl, ?_⟩
                  intro o59
                  refine ⟨Or.inr rfl, ?_⟩
                  intro o60
                  refine ⟨fun c61 => ?_, fun c61 => ?_⟩
                  · skip
                    refine sp_X12_isOver hB3 hR0 (by have z1 : (v1 : Int32).toInt = v1.toInt := rfl; omega) (by have z2 : (v2 : Int32).toInt = v2.toInt := rfl; omega) (by have z3 : (v3 : Int32).toInt = v3.toInt := rfl; omega) (fun x62 y67 I63 J64 hB65 p66 => ?_)
                    intro o68
                    subst p66
                    have i69 := i32 x62
                    refine ⟨fun c70 => ?_, fun c70 => ?_⟩
                    · skip
                      have d71 : ((x62.toInt) : Int) = (0) := ci_eq rfl rfl c70
                      refine sp_X12_cuts hB3 hR0 (by have z1 : (v1 : Int32).toInt = v1.toInt := rfl; omega) (by have z2 : (v2 : Int32).toInt = v2.toInt := rfl; omega) (by have z3 : (v3 : Int32).toInt = v3.toInt := rfl; omega) (fun x72 y77 I73 J74 hB75 p76 => ?_)
                      intro o78
                      have f79 : Fr pD (uI (uI I 97 1 0) 97 0 0) I73 := p76.2
                      have f80 : Fr pK I I73 := Fr.tr f4 f79 (pK_D)
                      have i81 := i32 x72
                      refine ⟨fun c82 => ?_, fun c82 => ?_⟩
                      · skip
                        have d83 : ((x72.toInt) : Int) = (0) := ci_eq rfl rfl c82
                        refine w_X12_refuse ?_
                        have hB84 : Bd (uI I73 97 0 9) := Bd.o0 hB75 (show isO 112 97 12 = true from rfl) (by omega) (show bnd 12 0 = none from rfl)
                        have f85 : Fr pK I (uI I73 97 0 9) := Fr.o f80 (by decide) (by decide)
                        exact hQ _ _ _ _ hB84 f85
                      · skip
                        have d86 : ¬ ((x72.toInt) : Int) = (0) := ci_ne rfl rfl c82
                        refine sp_X12_held hB75 hR0 (fun x87 y92 I88 J89 hB90 p91 => ?_)
                        subst p91
                        have i93 := i32 x87
                        exact hQ _ _ _ _ hB75 f80
                    · skip
                      have d94 : ¬ ((x62.toInt) : Int) = (0) := ci_ne rfl rfl c70
                      refine w_X12_refuse ?_
                      have hB95 : Bd (uI (uI (uI I 97 1 0) 97 0 0) 97 0 7) := Bd.o0 hB3 (show isO 112 97 12 = true from rfl) (by omega) (show bnd 12 0 = none from rfl)
                      have f96 : Fr pK I (uI (uI (uI I 97 1 0) 97 0 0) 97 0 7) := Fr.o f4 (by decide) (by decide)
                      exact hQ _ _ _ _ hB95 f96
                  · exact absurd c61 (by decide)
