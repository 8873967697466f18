set_option maxHeartbeats 2000000 in
theorem sp_X12_readTest {d : Nat} {Q : Qt} {v1 : Int32} {I : Im} {J : Jm} {R : Rm} (hB0 : Bd I) (hR0 : RI R) (hv1 : 1350 ≤ v1.toInt ∧ v1.toInt ≤ 1611 ∧ (v1.toInt - 1350) % 9 = 0) (hQ : ∀ (x : Int32) (y : Int64) (I2 : Im) (J2 : Jm), Bd I2 → (Fr (pW v1.toInt) I I2 ∧ PMp I I2 ∧ ((I2 97 12).toInt = 0 → ((I2 102 (v1 + 5).toNatClampNeg).toInt = 1 → 1 ≤ (I2 102 (v1 + 1).toNatClampNeg).toInt ∧ (I2 102 (v1 + 1).toNatClampNeg).toInt ≤ 30) ∧ (¬ (I2 102 (v1 + 5).toNatClampNeg).toInt = 1 → 0 ≤ (I2 102 (v1 + 1).toNatClampNeg).toInt ∧ (I2 102 (v1 + 1).toNatClampNeg).toInt < (I 102 0).toInt))) → Q x y I2 J2 R) : AM (d + 6) 234 112 [.ref 97, .int v1] I J R Q := by
  have i_v1 := i32 v1
  refine am_X12_readTest (fun P hc => ?_)
  refine sg_X12_readTest_0 hc _ _ _ _ ?_
  refine sp_X12_testWord hB0 hR0 (fun x1 y6 I2 J3 hB4 p5 => ?_)
  have hh7 := Hid.i p5
  clear p5
  have f8 : Fr pT I I2 := (Hid.o hh7).2.2.2.2.1
  have f9 : Fr (pW v1.toInt) I I2 := Fr.tr (Fr.refl _ _) f8 (fun _ _ => trivial)
  have m10 : PMp I I2 := (PMp.keep (Hid.o hh7).1 (Hid.o hh7).2.2.1 (Hid.o hh7).2.2.2.1)
  have i11 := i32 x1
  refine ⟨fun c12 => ?_, fun c12 => ?_⟩
  · skip
    have d13 : ((x1.toInt) : Int) < (0) := ci_lt rfl rfl c12
    refine sp_X12_must hB4 hR0 (fun x14 y19 I15 J16 hB17 p18 => ?_)
    have hh20 := Hid.i p18
    clear p18
    have f21 : Fr pT I2 I15 := (Hid.o hh20).2.1
    have f22 : Fr (pW v1.toInt) I I15 := Fr.tr f9 f21 (fun _ _ => trivial)
    have m23 : PMp I2 I15 := (PMp.mk (Hid.o hh20).2.2.1 (Hid.o hh20).2.2.2.1)
    have q24 : (0 : Int32).toInt = 0 := rfl
    have b25 := Bd.o hB0 (show isO 112 97 12 = true from rfl) (show bnd 12 12 = some _ from rfl)
    have e26 : ((I2 97 12) : Int32).toInt = (I 97 12).toInt := Eq.trans (congrArg Int32.toInt (Hid.o hh7).1) rfl
    have b27 := Bd.o hB0 (show isO 112 97 12 = true from rfl) (show bnd 12 14 = some _ from rfl)
    have e28 : ((I2 97 14) : Int32).toInt = (I 97 14).toInt := Eq.trans (congrArg Int32.toInt (Hid.o hh7).2.2.1) rfl
    have b29 := Bd.o hB0 (show isO 112 97 12 = true from rfl) (show bnd 12 16 = some _ from rfl)
    have e30 : ((I2 97 16) : Int32).toInt = (I 97 16).toInt := Eq.trans (congrArg Int32.toInt (Hid.o hh7).2.2.2.1) rfl
    have b31 := Bd.o hB17 (show isO 112 97 12 = true from rfl) (show bnd 12 12 = some _ from rfl)
    have b32 := Bd.o hB17 (show isO 112 97 12 = true from rfl) (show bnd 12 14 = some _ from rfl)
    have b33 := Bd.o hB17 (show isO 112 97 12 = true from rfl) (show bnd 12 16 = some _ from rfl)
    have e34 : ((v1 + 5) : Int32).toInt = (v1.toInt) + (5) := ti_add rfl rfl (by omega)
    refine ⟨vp_of (a := (v1.toInt + 5)) e34 (by omega) (by omega), ?_⟩
    have hB35 : Bd (uI I15 102 (Int32.toNatClampNeg (v1 + 5)) x1) := Bd.cnew hB17 (show ((v1 + 5) : Int32).toInt = (v1.toInt + 5) from e34) (show (x1 : Int32).toInt = x1.toInt from rfl) (by omega) (by omega) (by omega) 
    have f36 : Fr (pW v1.toInt) I (uI I15 102 (Int32.toNatClampNeg (v1 + 5)) x1) := Fr.w f22 (show ((v1 + 5) : Int32).toInt = (v1.toInt + 5) from e34) (by omega) (fun j hj hp => by unfold pW at hp; omega)
    refine ⟨fun c37 => ?_, fun c37 => ?_⟩
    · skip
      have d38 : ¬ ((x1.toInt) : Int) = (1) := ci_ne rfl rfl c37
      refine sp_X12_readTold hB35 hR0 (by have z : (0 : Int32).toInt = 0 := rfl; omega) (fun x39 y44 I40 J41 hB42 p43 => ?_)
      have hh45 := Hid.i p43
      clear p43
      have f46 : Fr pT (uI I15 102 (Int32.toNatClampNeg (v1 + 5)) x1) I40 := (Hid.o hh45).2.1
      have f47 : Fr (pW v1.toInt) I I40 := Fr.tr f36 f46 (fun _ _ => trivial)
      have m48 : PMp (uI I15 102 (Int32.toNatClampNeg (v1 + 5)) x1) I40 := (PMp.mk (Hid.o hh45).2.2.1.1 (Hid.o hh45).2.2.1.2.1)
      have wr49 := (Hid.o hh45).2.2.1.2.2
      have q50 : (0 : Int32).toInt = 0 := rfl
      have b51 := (Bd.c hB0 (j := 0) (z := 0) rfl).1 (by decide)
      have e52 : (((uI I15 102 (Int32.toNatClampNeg (v1 + 5)) x1) 102 0) : Int32).toInt = (I 102 0).toInt := Eq.trans (congrArg Int32.toInt (Eq.trans (Eq.trans (rd_k (fun z => by have z1 := tn_of (show (0 : Int32).toInt = 0 from rfl) (by omega); have z2 := tn_of (show ((v1 + 5) : Int32).toInt = (v1.toInt + 5) from e34) (by omega); have z0 : (0 : Nat) = (Int32.toNatClampNeg (v1 + 5)) := z; have z4 : Int32.toNatClampNeg 0 = 0 := rfl; omega)) (f21.1 0 trivial)) (f8.1 0 trivial))) rfl
      have e53 : (((uI I15 102 (Int32.toNatClampNeg (v1 + 5)) x1) 97 12) : Int32).toInt = (I15 97 12).toInt := Eq.trans (congrArg Int32.toInt (rd_ne (by omega))) rfl
      have e54 : (((uI I15 102 (Int32.toNatClampNeg (v1 + 5)) x1) 97 14) : Int32).toInt = (I15 97 14).toInt := Eq.trans (congrArg Int32.toInt (rd_ne (by omega))) rfl
      have e55 : (((uI I15 102 (Int32.toNatClampNeg (v1 + 5)) x1) 97 16) : Int32).toInt = (I15 97 16).toInt := Eq.trans (congrArg Int32.toInt (rd_ne (by omega))) rfl
      have b56 := Bd.o hB42 (show isO 112 97 12 = true from rfl) (show bnd 12 12 = some _ from rfl)
      have b57 := Bd.o hB42 (show isO 112 97 12 = true from rfl) (show bnd 12 14 = some _ from rfl)
      have b58 := Bd.o hB42 (show isO 112 97 12 = true from rfl) (show bnd 12 16 = some _ from rfl)
      have i59 := i32 x39
      have e60 : ((v1 + 1) : Int32).toInt = (v1.toInt) + (1) := ti_add rfl rfl (by omega)
      refine ⟨vp_of (a := (v1.toInt + 1)) e60 (by omega) (by omega), ?_⟩
      have hB61 : Bd (uI I40 102 (Int32.toNatClampNeg (v1 + 1)) x39) := Bd.cnew hB42 (show ((v1 + 1) : Int32).toInt = (v1.toInt + 1) from e60) (show (x39 : Int32).toInt = x39.toInt from rfl) (by omega) (by omega) (by omega) 
      have f62 : Fr (pW v1.toInt) I (uI I40 102 (Int32.toNatClampNeg (v1 + 1)) x39) := Fr.w f47 (show ((v1 + 1) : Int32).toInt = (v1.toInt + 1) from e60) (by omega) (fun j hj hp => by unfold pW at hp; omega)
      refine ⟨fun c63 => ?_, fun c63 => ?_⟩
      · skip
        have e64 : (((uI I40 102 (Int32.toNatClampNeg (v1 + 1)) x39) 97 12) : Int32).toInt = (I40 97 12).toInt := Eq.trans (congrArg Int32.toInt (rd_ne (by omega))) rfl
        have d65 : ((0) : Int) < ((I40 97 12).toInt) := ci_lt rfl e64 c63
        have td66 : ((I40 97 12) : Int32).toInt = (I40 97 12).toInt := rfl
        have td67 : ((I40 97 12)).toInt = 0 → x39.toInt < ((I 102 0)).toInt := fun hz => by have z := (Hid.o hh45).2.2.2 hz rfl; rw [show (((uI I15 102 (Int32.toNatClampNeg (v1 + 5)) x1) 102 0)) = (I 102 0) from (Eq.trans (Eq.trans (rd_k (fun z => by have z1 := tn_of (show (0 : Int32).toInt = 0 from rfl) (by omega); have z2 := tn_of (show ((v1 + 5) : Int32).toInt = (v1.toInt + 5) from e34) (by omega); have z0 : (0 : Nat) = (Int32.toNatClampNeg (v1 + 5)) := z; have z4 : Int32.toNatClampNeg 0 = 0 := rfl; omega)) (f21.1 0 trivial)) (f8.1 0 trivial))] at z; exact z
        have e68 : (((uI I40 102 (Int32.toNatClampNeg (v1 + 1)) x39) 102 (Int32.toNatClampNeg (v1 + 1))) : Int32).toInt = x39.toInt := Eq.trans (congrArg Int32.toInt rd_eq) rfl
        have fl69 : (((uI I40 102 (Int32.toNatClampNeg (v1 + 1)) x39) 102 (Int32.toNatClampNeg (v1 + 1))) : Int32).toInt = x39.toInt := e68
        have e70 : (((uI I40 102 (Int32.toNatClampNeg (v1 + 1)) x39) 102 (Int32.toNatClampNeg (v1 + 5))) : Int32).toInt = x1.toInt := Eq.trans (congrArg Int32.toInt (Eq.trans (Eq.trans (rd_k (fun z => by have z1 := tn_of (show ((v1 + 5) : Int32).toInt = (v1.toInt + 5) from e34) (by omega); have z2 := tn_of (show ((v1 + 1) : Int32).toInt = (v1.toInt + 1) from e60) (by omega); omega)) (f46.1 (Int32.toNatClampNeg (v1 + 5)) trivial)) rd_eq)) rfl
        have fl71 : (((uI I40 102 (Int32.toNatClampNeg (v1 + 1)) x39) 102 (Int32.toNatClampNeg (v1 + 5))) : Int32).toInt = x1.toInt := e70
        have fl72 : (((uI I40 102 (Int32.toNatClampNeg (v1 + 1)) x39) 97 12) : Int32).toInt = (I40 97 12).toInt := e64
        exact hQ _ _ _ _ hB61 ⟨f62, (PMp.o (PMp.tr (PMp.o (PMp.tr (PMp.tr (PMp.refl I) m10) m23) (by decide)) m48) (by decide)), (fun hz => by have op0 := Or.resolve_left (Or.inr True.intro : (1 : Int) ≤ 0 ∨ True) (fun z => by have b := PMp.bad (PMp.o (PMp.refl I40) (by decide)) hz; omega); omega)⟩
      · skip
        have e73 : (((uI I40 102 (Int32.toNatClampNeg (v1 + 1)) x39) 97 12) : Int32).toInt = (I40 97 12).toInt := Eq.trans (congrArg Int32.toInt (rd_ne (by omega))) rfl
        have d74 : (((I40 97 12).toInt) : Int) ≤ (0) := ci_nlt rfl e73 c63
        refine ⟨fun c75 => ?_, fun c75 => ?_⟩
        · skip
          have d76 : ¬ ((x1.toInt) : Int) = (0) := ci_ne rfl rfl c75
          refine ⟨fun c77 => ?_, fun c77 => ?_⟩
          · skip
            have e78 : (((uI I40 102 (Int32.toNatClampNeg (v1 + 1)) x39) 97 14) : Int32).toInt = (I40 97 14).toInt := Eq.trans (congrArg Int32.toInt (rd_ne (by omega))) rfl
            have d79 : ¬ (((I40 97 14).toInt) : Int) = (3) := ci_ne e78 rfl c77
            have e80 : ((v1 + 7) : Int32).toInt = (v1.toInt) + (7) := ti_add rfl rfl (by omega)
            refine ⟨vp_of (a := (v1.toInt + 7)) e80 (by omega) (by omega), ?_⟩
            have hB81 : Bd (uI (uI I40 102 (Int32.toNatClampNeg (v1 + 1)) x39) 102 (Int32.toNatClampNeg (v1 + 7)) 0) := Bd.cnew hB61 (show ((v1 + 7) : Int32).toInt = (v1.toInt + 7) from e80) (show (0 : Int32).toInt = 0 from rfl) (by omega) (by omega) (by omega) 
            have f82 : Fr (pW v1.toInt) I (uI (uI I40 102 (Int32.toNatClampNeg (v1 + 1)) x39) 102 (Int32.toNatClampNeg (v1 + 7)) 0) := Fr.w f62 (show ((v1 + 7) : Int32).toInt = (v1.toInt + 7) from e80) (by omega) (fun j hj hp => by unfold pW at hp; omega)
            refine sp_X12_isSign hB81 hR0 (fun x83 y88 I84 J85 hB86 p87 => ?_)
            intro o89
            have hh90 := Hid.i p87
            clear p87
            have f91 : Fr pT (uI (uI I40 102 (Int32.toNatClampNeg (v1 + 1)) x39) 102 (Int32.toNatClampNeg (v1 + 7)) 0) I84 := (Hid.o hh90).2.2.2.2.1
            have f92 : Fr (pW v1.toInt) I I84 := Fr.tr f82 f91 (fun _ _ => trivial)
            have m93 : PMp (uI (uI I40 102 (Int32.toNatClampNeg (v1 + 1)) x39) 102 (Int32.toNatClampNeg (v1 + 7)) 0) I84 := (PMp.keep (Hid.o hh90).1 (Hid.o hh90).2.2.1 (Hid.o hh90).2.2.2.1)
            have q94 : (60 : Int32).toInt = 60 := rfl
            have e95 : (((uI (uI I40 102 (Int32.toNatClampNeg (v1 + 1)) x39) 102 (Int32.toNatClampNeg (v1 + 7)) 0) 97 14) : Int32).toInt = (I40 97 14).toInt := Eq.trans (congrArg Int32.toInt (Eq.trans (rd_ne (by omega)) (rd_ne (by omega)))) rfl
            have i96 := i32 x83
            refine ⟨fun c97 => ?_, fun c97 => ?_⟩
            · skip
              have d98 : ¬ ((x83.toInt) : Int) = (0) := ci_ne rfl rfl c97
              refine sp_X12_must hB86 hR0 (fun x99 y104 I100 J101 hB102 p103 => ?_)
              have hh105 := Hid.i p103
              clear p103
              have f106 : Fr pT I84 I100 := (Hid.o hh105).2.1
              have f107 : Fr (pW v1.toInt) I I100 := Fr.tr f92 f106 (fun _ _ => trivial)
              have m108 : PMp I84 I100 := (PMp.mk (Hid.o hh105).2.2.1 (Hid.o hh105).2.2.2.1)
              have q109 : (1 : Int32).toInt = 1 := rfl
              have e110 : ((I84 97 12) : Int32).toInt = (I40 97 12).toInt := Eq.trans (congrArg Int32.toInt (Eq.trans (Eq.trans (Hid.o hh90).1 (rd_ne (by omega))) (rd_ne (by omega)))) rfl
              have e111 : ((I84 97 14) : Int32).toInt = (I40 97 14).toInt := Eq.trans (congrArg Int32.toInt (Eq.trans (Eq.trans (Hid.o hh90).2.2.1 (rd_ne (by omega))) (rd_ne (by omega)))) rfl
              have e112 : ((I84 97 16) : Int32).toInt = (I40 97 16).toInt := Eq.trans (congrArg Int32.toInt (Eq.trans (Eq.trans (Hid.o hh90).2.2.2.1 (rd_ne (by omega))) (rd_ne (by omega)))) rfl
              have b113 := Bd.o hB102 (show isO 112 97 12 = true from rfl) (show bnd 12 12 = some _ from rfl)
              have b114 := Bd.o hB102 (show isO 112 97 12 = true from rfl) (show bnd 12 14 = some _ from rfl)
              have b115 := Bd.o hB102 (show isO 112 97 12 = true from rfl) (show bnd 12 16 = some _ from rfl)
              refine sp_X12_count hB102 hR0 (fun x116 y121 I117 J118 hB119 p120 => ?_)
              have hh122 := Hid.i p120
              clear p120
              have f123 : Fr pT I100 I117 := (Hid.o hh122).2.1
              have f124 : Fr (pW v1.toInt) I I117 := Fr.tr f107 f123 (fun _ _ => trivial)
              have m125 : PMp I100 I117 := (PMp.mk (Hid.o hh122).2.2.1 (Hid.o hh122).2.2.2.1)
              have wr126 := Or.imp (fun z => z.2) (fun z => And.intro z.1 z.2.1) (Hid.o hh122).2.2.2.2
              have q127 : (0 : Int32).toInt = 0 := rfl
              have q128 : (99 : Int32).toInt = 99 := rfl
              have b129 := Bd.o hB119 (show isO 112 97 12 = true from rfl) (show bnd 12 12 = some _ from rfl)
              have b130 := Bd.o hB119 (show isO 112 97 12 = true from rfl) (show bnd 12 14 = some _ from rfl)
              have b131 := Bd.o hB119 (show isO 112 97 12 = true from rfl) (show bnd 12 16 = some _ from rfl)
              have i132 := i32 x116
              have e133 : ((v1 + 6) : Int32).toInt = (v1.toInt) + (6) := ti_add rfl rfl (by omega)
              refine ⟨vp_of (a := (v1.toInt + 6)) e133 (by omega) (by omega), ?_⟩
              have hB134 : Bd (uI I117 102 (Int32.toNatClampNeg (v1 + 6)) x116) := Bd.cnew hB119 (show ((v1 + 6) : Int32).toInt = (v1.toInt + 6) from e133) (show (x116 : Int32).toInt = x116.toInt from rfl) (by omega) (by omega) (by omega) 
              have f135 : Fr (pW v1.toInt) I (uI I117 102 (Int32.toNatClampNeg (v1 + 6)) x116) := Fr.w f124 (show ((v1 + 6) : Int32).toInt = (v1.toInt + 6) from e133) (by omega) (fun j hj hp => by unfold pW at hp; omega)
              have td136 : ((I40 97 12) : Int32).toInt = (I40 97 12).toInt := rfl
              have td137 : ((I40 97 12)).toInt = 0 → x39.toInt < ((I 102 0)).toInt := fun hz => by have z := (Hid.o hh45).2.2.2 hz rfl; rw [show (((uI I15 102 (Int32.toNatClampNeg (v1 + 5)) x1) 102 0)) = (I 102 0) from (Eq.trans (Eq.trans (rd_k (fun z => by have z1 := tn_of (show (0 : Int32).toInt = 0 from rfl) (by omega); have z2 := tn_of (show ((v1 + 5) : Int32).toInt = (v1.toInt + 5) from e34) (by omega); have z0 : (0 : Nat) = (Int32.toNatClampNeg (v1 + 5)) := z; have z4 : Int32.toNatClampNeg 0 = 0 := rfl; omega)) (f21.1 0 trivial)) (f8.1 0 trivial))] at z; exact z
              have e138 : (((uI I117 102 (Int32.toNatClampNeg (v1 + 6)) x116) 102 (Int32.toNatClampNeg (v1 + 1))) : Int32).toInt = x39.toInt := Eq.trans (congrArg Int32.toInt (Eq.trans (Eq.trans (Eq.trans (Eq.trans (Eq.trans (rd_k (fun z => by have z1 := tn_of (show ((v1 + 1) : Int32).toInt = (v1.toInt + 1) from e60) (by omega); have z2 := tn_of (show ((v1 + 6) : Int32).toInt = (v1.toInt + 6) from e133) (by omega); omega)) (f123.1 (Int32.toNatClampNeg (v1 + 1)) trivial)) (f106.1 (Int32.toNatClampNeg (v1 + 1)) trivial)) (f91.1 (Int32.toNatClampNeg (v1 + 1)) trivial)) (rd_k (fun z => by have z1 := tn_of (show ((v1 + 1) : Int32).toInt = (v1.toInt + 1) from e60) (by omega); have z2 := tn_of (show ((v1 + 7) : Int32).toInt = (v1.toInt + 7) from e80) (by omega); omega))) rd_eq)) rfl
              have fl139 : (((uI I117 102 (Int32.toNatClampNeg (v1 + 6)) x116) 102 (Int32.toNatClampNeg (v1 + 1))) : Int32).toInt = x39.toInt := e138
              have e140 : (((uI I117 102 (Int32.toNatClampNeg (v1 + 6)) x116) 102 (Int32.toNatClampNeg (v1 + 5))) : Int32).toInt = x1.toInt := Eq.trans (congrArg Int32.toInt (Eq.trans (Eq.trans (Eq.trans (Eq.trans (Eq.trans (Eq.trans (Eq.trans (rd_k (fun z => by have z1 := tn_of (show ((v1 + 5) : Int32).toInt = (v1.toInt + 5) from e34) (by omega); have z2 := tn_of (show ((v1 + 6) : Int32).toInt = (v1.toInt + 6) from e133) (by omega); omega)) (f123.1 (Int32.toNatClampNeg (v1 + 5)) trivial)) (f106.1 (Int32.toNatClampNeg (v1 + 5)) trivial)) (f91.1 (Int32.toNatClampNeg (v1 + 5)) trivial)) (rd_k (fun z => by have z1 := tn_of (show ((v1 + 5) : Int32).toInt = (v1.toInt + 5) from e34) (by omega); have z2 := tn_of (show ((v1 + 7) : Int32).toInt = (v1.toInt + 7) from e80) (by omega); omega))) (rd_k (fun z => by have z1 := tn_of (show ((v1 + 5) : Int32).toInt = (v1.toInt + 5) from e34) (by omega); have z2 := tn_of (show ((v1 + 1) : Int32).toInt = (v1.toInt + 1) from e60) (by omega); omega))) (f46.1 (Int32.toNatClampNeg (v1 + 5)) trivial)) rd_eq)) rfl
              have fl141 : (((uI I117 102 (Int32.toNatClampNeg (v1 + 6)) x116) 102 (Int32.toNatClampNeg (v1 + 5))) : Int32).toInt = x1.toInt := e140
              have e142 : (((uI I117 102 (Int32.toNatClampNeg (v1 + 6)) x116) 97 12) : Int32).toInt = (I117 97 12).toInt := Eq.trans (congrArg Int32.toInt (rd_ne (by omega))) rfl
              have fl143 : (((uI I117 102 (Int32.toNatClampNeg (v1 + 6)) x116) 97 12) : Int32).toInt = (I117 97 12).toInt := e142
              exact hQ _ _ _ _ hB134 ⟨f135, (PMp.o (PMp.tr (PMp.tr (PMp.tr (PMp.o (PMp.o (PMp.tr (PMp.o (PMp.tr (PMp.tr (PMp.refl I) m10) m23) (by decide)) m48) (by decide)) (by decide)) m93) m108) m125) (by decide)), (fun hz => by have op0 := Or.resolve_left (Or.inr True.intro : (1 : Int) ≤ 0 ∨ True) (fun z => by have b := PMp.bad (PMp.o (PMp.tr (PMp.tr (PMp.tr (PMp.o (PMp.o (PMp.refl I40) (by decide)) (by decide)) m93) m108) m125) (by decide)) hz; omega); have op1 := Or.resolve_left (Hid.o hh122).2.2.2.2 (fun z => by have b := PMp.bad (PMp.o (PMp.refl I117) (by decide)) hz; omega); omega)⟩
            · skip
              have d144 : ((x83.toInt) : Int) = (0) := ci_eq rfl rfl c97
              refine sp_X12_isSign hB86 hR0 (fun x145 y150 I146 J147 hB148 p149 => ?_)
              intro o151
              have hh152 := Hid.i p149
              clear p149
              have f153 : Fr pT I84 I146 := (Hid.o hh152).2.2.2.2.1
              have f154 : Fr (pW v1.toInt) I I146 := Fr.tr f92 f153 (fun _ _ => trivial)
              have m155 : PMp I84 I146 := (PMp.keep (Hid.o hh152).1 (Hid.o hh152).2.2.1 (Hid.o hh152).2.2.2.1)
              have q156 : (62 : Int32).toInt = 62 := rfl
              have e157 : ((I84 97 14) : Int32).toInt = (I40 97 14).toInt := Eq.trans (congrArg Int32.toInt (Eq.trans (Eq.trans (Hid.o hh90).2.2.1 (rd_ne (by omega))) (rd_ne (by omega)))) rfl
              have i158 := i32 x145
              refine ⟨fun c159 => ?_, fun c159 => ?_⟩
              · skip
                have d160 : ¬ ((x145.toInt) : Int) = (0) := ci_ne rfl rfl c159
                refine sp_X12_must hB148 hR0 (fun x161 y166 I162 J163 hB164 p165 => ?_)
                have hh167 := Hid.i p165
                clear p165
                have f168 : Fr pT I146 I162 := (Hid.o hh167).2.1
                have f169 : Fr (pW v1.toInt) I I162 := Fr.tr f154 f168 (fun _ _ => trivial)
                have m170 : PMp I146 I162 := (PMp.mk (Hid.o hh167).2.2.1 (Hid.o hh167).2.2.2.1)
                have q171 : (1 : Int32).toInt = 1 := rfl
                have e172 : ((I146 97 12) : Int32).toInt = (I40 97 12).toInt := Eq.trans (congrArg Int32.toInt (Eq.trans (Eq.trans (Eq.trans (Hid.o hh152).1 (Hid.o hh90).1) (rd_ne (by omega))) (rd_ne (by omega)))) rfl
                have e173 : ((I146 97 14) : Int32).toInt = (I40 97 14).toInt := Eq.trans (congrArg Int32.toInt (Eq.trans (Eq.trans (Eq.trans (Hid.o hh152).2.2.1 (Hid.o hh90).2.2.1) (rd_ne (by omega))) (rd_ne (by omega)))) rfl
                have e174 : ((I146 97 16) : Int32).toInt = (I40 97 16).toInt := Eq.trans (congrArg Int32.toInt (Eq.trans (Eq.trans (Eq.trans (Hid.o hh152).2.2.2.1 (Hid.o hh90).2.2.2.1) (rd_ne (by omega))) (rd_ne (by omega)))) rfl
                have b175 := Bd.o hB164 (show isO 112 97 12 = true from rfl) (show bnd 12 12 = some _ from rfl)
                have b176 := Bd.o hB164 (show isO 112 97 12 = true from rfl) (show bnd 12 14 = some _ from rfl)
                have b177 := Bd.o hB164 (show isO 112 97 12 = true from rfl) (show bnd 12 16 = some _ from rfl)
                refine sp_X12_count hB164 hR0 (fun x178 y183 I179 J180 hB181 p182 => ?_)
                have hh184 := Hid.i p182
                clear p182
                have f185 : Fr pT I162 I179 := (Hid.o hh184).2.1
                have f186 : Fr (pW v1.toInt) I I179 := Fr.tr f169 f185 (fun _ _ => trivial)
                have m187 : PMp I162 I179 := (PMp.mk (Hid.o hh184).2.2.1 (Hid.o hh184).2.2.2.1)
                have wr188 := Or.imp (fun z => z.2) (fun z => And.intro z.1 z.2.1) (Hid.o hh184).2.2.2.2
                have q189 : (0 : Int32).toInt = 0 := rfl
                have q190 : (99 : Int32).toInt = 99 := rfl
                have b191 := Bd.o hB181 (show isO 112 97 12 = true from rfl) (show bnd 12 12 = some _ from rfl)
                have b192 := Bd.o hB181 (show isO 112 97 12 = true from rfl) (show bnd 12 14 = some _ from rfl)
                have b193 := Bd.o hB181 (show isO 112 97 12 = true from rfl) (show bnd 12 16 = some _ from rfl)
                have i194 := i32 x178
                have e195 : ((v1 + 6) : Int32).toInt = (v1.toInt) + (6) := ti_add rfl rfl (by omega)
                refine ⟨vp_of (a := (v1.toInt + 6)) e195 (by omega) (by omega), ?_⟩
                have hB196 : Bd (uI I179 102 (Int32.toNatClampNeg (v1 + 6)) x178) := Bd.cnew hB181 (show ((v1 + 6) : Int32).toInt = (v1.toInt + 6) from e195) (show (x178 : Int32).toInt = x178.toInt from rfl) (by omega) (by omega) (by omega) 
                have f197 : Fr (pW v1.toInt) I (uI I179 102 (Int32.toNatClampNeg (v1 + 6)) x178) := Fr.w f186 (show ((v1 + 6) : Int32).toInt = (v1.toInt + 6) from e195) (by omega) (fun j hj hp => by unfold pW at hp; omega)
                have td198 : ((I40 97 12) : Int32).toInt = (I40 97 12).toInt := rfl
                have td199 : ((I40 97 12)).toInt = 0 → x39.toInt < ((I 102 0)).toInt := fun hz => by have z := (Hid.o hh45).2.2.2 hz rfl; rw [show (((uI I15 102 (Int32.toNatClampNeg (v1 + 5)) x1) 102 0)) = (I 102 0) from (Eq.trans (Eq.trans (rd_k (fun z => by have z1 := tn_of (show (0 : Int32).toInt = 0 from rfl) (by omega); have z2 := tn_of (show ((v1 + 5) : Int32).toInt = (v1.toInt + 5) from e34) (by omega); have z0 : (0 : Nat) = (Int32.toNatClampNeg (v1 + 5)) := z; have z4 : Int32.toNatClampNeg 0 = 0 := rfl; omega)) (f21.1 0 trivial)) (f8.1 0 trivial))] at z; exact z
                have e200 : (((uI I179 102 (Int32.toNatClampNeg (v1 + 6)) x178) 102 (Int32.toNatClampNeg (v1 + 1))) : Int32).toInt = x39.toInt := Eq.trans (congrArg Int32.toInt (Eq.trans (Eq.trans (Eq.trans (Eq.trans (Eq.trans (Eq.trans (rd_k (fun z => by have z1 := tn_of (show ((v1 + 1) : Int32).toInt = (v1.toInt + 1) from e60) (by omega); have z2 := tn_of (show ((v1 + 6) : Int32).toInt = (v1.toInt + 6) from e195) (by omega); omega)) (f185.1 (Int32.toNatClampNeg (v1 + 1)) trivial)) (f168.1 (Int32.toNatClampNeg (v1 + 1)) trivial)) (f153.1 (Int32.toNatClampNeg (v1 + 1)) trivial)) (f91.1 (Int32.toNatClampNeg (v1 + 1)) trivial)) (rd_k (fun z => by have z1 := tn_of (show ((v1 + 1) : Int32).toInt = (v1.toInt + 1) from e60) (by omega); have z2 := tn_of (show ((v1 + 7) : Int32).toInt = (v1.toInt + 7) from e80) (by omega); omega))) rd_eq)) rfl
                have fl201 : (((uI I179 102 (Int32.toNatClampNeg (v1 + 6)) x178) 102 (Int32.toNatClampNeg (v1 + 1))) : Int32).toInt = x39.toInt := e200
                have e202 : (((uI I179 102 (Int32.toNatClampNeg (v1 + 6)) x178) 102 (Int32.toNatClampNeg (v1 + 5))) : Int32).toInt = x1.toInt := Eq.trans (congrArg Int32.toInt (Eq.trans (Eq.trans (Eq.trans (Eq.trans (Eq.trans (Eq.trans (Eq.trans (Eq.trans (rd_k (fun z => by have z1 := tn_of (show ((v1 + 5) : Int32).toInt = (v1.toInt + 5) from e34) (by omega); have z2 := tn_of (show ((v1 + 6) : Int32).toInt = (v1.toInt + 6) from e195) (by omega); omega)) (f185.1 (Int32.toNatClampNeg (v1 + 5)) trivial)) (f168.1 (Int32.toNatClampNeg (v1 + 5)) trivial)) (f153.1 (Int32.toNatClampNeg (v1 + 5)) trivial)) (f91.1 (Int32.toNatClampNeg (v1 + 5)) trivial)) (rd_k (fun z => by have z1 := tn_of (show ((v1 + 5) : Int32).toInt = (v1.toInt + 5) from e34) (by omega); have z2 := tn_of (show ((v1 + 7) : Int32).toInt = (v1.toInt + 7) from e80) (by omega); omega))) (rd_k (fun z => by have z1 := tn_of (show ((v1 + 5) : Int32).toInt = (v1.toInt + 5) from e34) (by omega); have z2 := tn_of (show ((v1 + 1) : Int32).toInt = (v1.toInt + 1) from e60) (by omega); omega))) (f46.1 (Int32.toNatClampNeg (v1 + 5)) trivial)) rd_eq)) rfl
                have fl203 : (((uI I179 102 (Int32.toNatClampNeg (v1 + 6)) x178) 102 (Int32.toNatClampNeg (v1 + 5))) : Int32).toInt = x1.toInt := e202
                have e204 : (((uI I179 102 (Int32.toNatClampNeg (v1 + 6)) x178) 97 12) : Int32).toInt = (I179 97 12).toInt := Eq.trans (congrArg Int32.toInt (rd_ne (by omega))) rfl
                have fl205 : (((uI I179 102 (Int32.toNatClampNeg (v1 + 6)) x178) 97 12) : Int32).toInt = (I179 97 12).toInt := e204
                exact hQ _ _ _ _ hB196 ⟨f197, (PMp.o (PMp.tr (PMp.tr (PMp.tr (PMp.tr (PMp.o (PMp.o (PMp.tr (PMp.o (PMp.tr (PMp.tr (PMp.refl I) m10) m23) (by decide)) m48) (by decide)) (by decide)) m93) m155) m170) m187) (by decide)), (fun hz => by have op0 := Or.resolve_left (Or.inr True.intro : (1 : Int) ≤ 0 ∨ True) (fun z => by have b := PMp.bad (PMp.o (PMp.tr (PMp.tr (PMp.tr (PMp.tr (PMp.o (PMp.o (PMp.refl I40) (by decide)) (by decide)) m93) m155) m170) m187) (by decide)) hz; omega); have op1 := Or.resolve_left (Hid.o hh184).2.2.2.2 (fun z => by have b := PMp.bad (PMp.o (PMp.refl I179) (by decide)) hz; omega); omega)⟩
              · skip
                have d206 : ((x145.toInt) : Int) = (0) := ci_eq rfl rfl c159
                refine sp_X12_isSign hB148 hR0 (fun x207 y212 I208 J209 hB210 p211 => ?_)
                intro o213
                have hh214 := Hid.i p211
                clear p211
                have f215 : Fr pT I146 I208 := (Hid.o hh214).2.2.2.2.1
                have f216 : Fr (pW v1.toInt) I I208 := Fr.tr f154 f215 (fun _ _ => trivial)
                have m217 : PMp I146 I208 := (PMp.keep (Hid.o hh214).1 (Hid.o hh214).2.2.1 (Hid.o hh214).2.2.2.1)
                have q218 : (61 : Int32).toInt = 61 := rfl
                have e219 : ((I146 97 14) : Int32).toInt = (I40 97 14).toInt := Eq.trans (congrArg Int32.toInt (Eq.trans (Eq.trans (Eq.trans (Hid.o hh152).2.2.1 (Hid.o hh90).2.2.1) (rd_ne (by omega))) (rd_ne (by omega)))) rfl
                have i220 := i32 x207
                refine ⟨fun c221 => ?_, fun c221 => ?_⟩
                · skip
                  have d222 : ((x207.toInt) : Int) = (0) := ci_eq rfl rfl c221
                  refine sp_X12_must hB210 hR0 (fun x223 y228 I224 J225 hB226 p227 => ?_)
                  have hh229 := Hid.i p227
                  clear p227
                  have f230 : Fr pT I208 I224 := (Hid.o hh229).2.1
                  have f231 : Fr (pW v1.toInt) I I224 := Fr.tr f216 f230 (fun _ _ => trivial)
                  have m232 : PMp I208 I224 := (PMp.mk (Hid.o hh229).2.2.1 (Hid.o hh229).2.2.2.1)
                  have q233 : (0 : Int32).toInt = 0 := rfl
                  have e234 : ((I208 97 12) : Int32).toInt = (I40 97 12).toInt := Eq.trans (congrArg Int32.toInt (Eq.trans (Eq.trans (Eq.trans (Eq.trans (Hid.o hh214).1 (Hid.o hh152).1) (Hid.o hh90).1) (rd_ne (by omega))) (rd_ne (by omega)))) rfl
                  have e235 : ((I208 97 14) : Int32).toInt = (I40 97 14).toInt := Eq.trans (congrArg Int32.toInt (Eq.trans (Eq.trans (Eq.trans (Eq.trans (Hid.o hh214).2.2.1 (Hid.o hh152).2.2.1) (Hid.o hh90).2.2.1) (rd_ne (by omega))) (rd_ne (by omega)))) rfl
                  have e236 : ((I208 97 16) : Int32).toInt = (I40 97 16).toInt := Eq.trans (congrArg Int32.toInt (Eq.trans (Eq.trans (Eq.trans (Eq.trans (Hid.o hh214).2.2.2.1 (Hid.o hh152).2.2.2.1) (Hid.o hh90).2.2.2.1) (rd_ne (by omega))) (rd_ne (by omega)))) rfl
                  have b237 := Bd.o hB226 (show isO 112 97 12 = true from rfl) (show bnd 12 12 = some _ from rfl)
                  have b238 := Bd.o hB226 (show isO 112 97 12 = true from rfl) (show bnd 12 14 = some _ from rfl)
                  have b239 := Bd.o hB226 (show isO 112 97 12 = true from rfl) (show bnd 12 16 = some _ from rfl)
                  refine sp_X12_count hB226 hR0 (fun x240 y245 I241 J242 hB243 p244 => ?_)
                  have hh246 := Hid.i p244
                  clear p244
                  have f247 : Fr pT I224 I241 := (Hid.o hh246).2.1
                  have f248 : Fr (pW v1.toInt) I I241 := Fr.tr f231 f247 (fun _ _ => trivial)
                  have m249 : PMp I224 I241 := (PMp.mk (Hid.o hh246).2.2.1 (Hid.o hh246).2.2.2.1)
                  have wr250 := Or.imp (fun z => z.2) (fun z => And.intro z.1 z.2.1) (Hid.o hh246).2.2.2.2
                  have q251 : (0 : Int32).toInt = 0 := rfl
                  have q252 : (99 : Int32).toInt = 99 := rfl
                  have b253 := Bd.o hB243 (show isO 112 97 12 = true from rfl) (show bnd 12 12 = some _ from rfl)
                  have b254 := Bd.o hB243 (show isO 112 97 12 = true from rfl) (show bnd 12 14 = some _ from rfl)
                  have b255 := Bd.o hB243 (show isO 112 97 12 = true from rfl) (show bnd 12 16 = some _ from rfl)
                  have i256 := i32 x240
                  have e257 : ((v1 + 6) : Int32).toInt = (v1.toInt) + (6) := ti_add rfl rfl (by omega)
                  refine ⟨vp_of (a := (v1.toInt + 6)) e257 (by omega) (by omega), ?_⟩
                  have hB258 : Bd (uI I241 102 (Int32.toNatClampNeg (v1 + 6)) x240) := Bd.cnew hB243 (show ((v1 + 6) : Int32).toInt = (v1.toInt + 6) from e257) (show (x240 : Int32).toInt = x240.toInt from rfl) (by omega) (by omega) (by omega) 
                  have f259 : Fr (pW v1.toInt) I (uI I241 102 (Int32.toNatClampNeg (v1 + 6)) x240) := Fr.w f248 (show ((v1 + 6) : Int32).toInt = (v1.toInt + 6) from e257) (by omega) (fun j hj hp => by unfold pW at hp; omega)
                  have td260 : ((I40 97 12) : Int32).toInt = (I40 97 12).toInt := rfl
                  have td261 : ((I40 97 12)).toInt = 0 → x39.toInt < ((I 102 0)).toInt := fun hz => by have z := (Hid.o hh45).2.2.2 hz rfl; rw [show (((uI I15 102 (Int32.toNatClampNeg (v1 + 5)) x1) 102 0)) = (I 102 0) from (Eq.trans (Eq.trans (rd_k (fun z => by have z1 := tn_of (show (0 : Int32).toInt = 0 from rfl) (by omega); have z2 := tn_of (show ((v1 + 5) : Int32).toInt = (v1.toInt + 5) from e34) (by omega); have z0 : (0 : Nat) = (Int32.toNatClampNeg (v1 + 5)) := z; have z4 : Int32.toNatClampNeg 0 = 0 := rfl; omega)) (f21.1 0 trivial)) (f8.1 0 trivial))] at z; exact z
                  have e262 : (((uI I241 102 (Int32.toNatClampNeg (v1 + 6)) x240) 102 (Int32.toNatClampNeg (v1 + 1))) : Int32).toInt = x39.toInt := Eq.trans (congrArg Int32.toInt (Eq.trans (Eq.trans (Eq.trans (Eq.trans (Eq.trans (Eq.trans (Eq.trans (rd_k (fun z => by have z1 := tn_of (show ((v1 + 1) : Int32).toInt = (v1.toInt + 1) from e60) (by omega); have z2 := tn_of (show ((v1 + 6) : Int32).toInt = (v1.toInt + 6) from e257) (by omega); omega)) (f247.1 (Int32.toNatClampNeg (v1 + 1)) trivial)) (f230.1 (Int32.toNatClampNeg (v1 + 1)) trivial)) (f215.1 (Int32.toNatClampNeg (v1 + 1)) trivial)) (f153.1 (Int32.toNatClampNeg (v1 + 1)) trivial)) (f91.1 (Int32.toNatClampNeg (v1 + 1)) trivial)) (rd_k (fun z => by have z1 := tn_of (show ((v1 + 1) : Int32).toInt = (v1.toInt + 1) from e60) (by omega); have z2 := tn_of (show ((v1 + 7) : Int32).toInt = (v1.toInt + 7) from e80) (by omega); omega))) rd_eq)) rfl
                  have fl263 : (((uI I241 102 (Int32.toNatClampNeg (v1 + 6)) x240) 102 (Int32.toNatClampNeg (v1 + 1))) : Int32).toInt = x39.toInt := e262
                  have e264 : (((uI I241 102 (Int32.toNatClampNeg (v1 + 6)) x240) 102 (Int32.toNatClampNeg (v1 + 5))) : Int32).toInt = x1.toInt := Eq.trans (congrArg Int32.toInt (Eq.trans (Eq.trans (Eq.trans (Eq.trans (Eq.trans (Eq.trans (Eq.trans (Eq.trans (Eq.trans (rd_k (fun z => by have z1 := tn_of (show ((v1 + 5) : Int32).toInt = (v1.toInt + 5) from e34) (by omega); have z2 := tn_of (show ((v1 + 6) : Int32).toInt = (v1.toInt + 6) from e257) (by omega); omega)) (f247.1 (Int32.toNatClampNeg (v1 + 5)) trivial)) (f230.1 (Int32.toNatClampNeg (v1 + 5)) trivial)) (f215.1 (Int32.toNatClampNeg (v1 + 5)) trivial)) (f153.1 (Int32.toNatClampNeg (v1 + 5)) trivial)) (f91.1 (Int32.toNatClampNeg (v1 + 5)) trivial)) (rd_k (fun z => by have z1 := tn_of (show ((v1 + 5) : Int32).toInt = (v1.toInt + 5) from e34) (by omega); have z2 := tn_of (show ((v1 + 7) : Int32).toInt = (v1.toInt + 7) from e80) (by omega); omega))) (rd_k (fun z => by have z1 := tn_of (show ((v1 + 5) : Int32).toInt = (v1.toInt + 5) from e34) (by omega); have z2 := tn_of (show ((v1 + 1) : Int32).toInt = (v1.toInt + 1) from e60) (by omega); omega))) (f46.1 (Int32.toNatClampNeg (v1 + 5)) trivial)) rd_eq)) rfl
                  have fl265 : (((uI I241 102 (Int32.toNatClampNeg (v1 + 6)) x240) 102 (Int32.toNatClampNeg (v1 + 5))) : Int32).toInt = x1.toInt := e264
                  have e266 : (((uI I241 102 (Int32.toNatClampNeg (v1 + 6)) x240) 97 12) : Int32).toInt = (I241 97 12).toInt := Eq.trans (congrArg Int32.toInt (rd_ne (by omega))) rfl
                  have fl267 : (((uI I241 102 (Int32.toNatClampNeg (v1 + 6)) x240) 97 12) : Int32).toInt = (I241 97 12).toInt := e266
                  exact hQ _ _ _ _ hB258 ⟨f259, (PMp.o (PMp.tr (PMp.tr (PMp.tr (PMp.tr (PMp.tr (PMp.o (PMp.o (PMp.tr (PMp.o (PMp.tr (PMp.tr (PMp.refl I) m10) m23) (by decide)) m48) (by decide)) (by decide)) m93) m155) m217) m232) m249) (by decide)), (fun hz => by have op0 := Or.resolve_left (Or.inr True.intro : (1 : Int) ≤ 0 ∨ True) (fun z => by have b := PMp.bad (PMp.o (PMp.tr (PMp.tr (PMp.tr (PMp.tr (PMp.tr (PMp.o (PMp.o (PMp.refl I40) (by decide)) (by decide)) m93) m155) m217) m232) m249) (by decide)) hz; omega); have op1 := Or.resolve_left (Hid.o hh246).2.2.2.2 (fun z => by have b := PMp.bad (PMp.o (PMp.refl I241) (by decide)) hz; omega); omega)⟩
                · skip
                  have d268 : ¬ ((x207.toInt) : Int) = (0) := ci_ne rfl rfl c221
                  refine sp_X12_must hB210 hR0 (fun x269 y274 I270 J271 hB272 p273 => ?_)
                  have hh275 := Hid.i p273
                  clear p273
                  have f276 : Fr pT I208 I270 := (Hid.o hh275).2.1
                  have f277 : Fr (pW v1.toInt) I I270 := Fr.tr f216 f276 (fun _ _ => trivial)
                  have m278 : PMp I208 I270 := (PMp.mk (Hid.o hh275).2.2.1 (Hid.o hh275).2.2.2.1)
                  have q279 : (1 : Int32).toInt = 1 := rfl
                  have e280 : ((I208 97 12) : Int32).toInt = (I40 97 12).toInt := Eq.trans (congrArg Int32.toInt (Eq.trans (Eq.trans (Eq.trans (Eq.trans (Hid.o hh214).1 (Hid.o hh152).1) (Hid.o hh90).1) (rd_ne (by omega))) (rd_ne (by omega)))) rfl
                  have e281 : ((I208 97 14) : Int32).toInt = (I40 97 14).toInt := Eq.trans (congrArg Int32.toInt (Eq.trans (Eq.trans (Eq.trans (Eq.trans (Hid.o hh214).2.2.1 (Hid.o hh152).2.2.1) (Hid.o hh90).2.2.1) (rd_ne (by omega))) (rd_ne (by omega)))) rfl
                  have e282 : ((I208 97 16) : Int32).toInt = (I40 97 16).toInt := Eq.trans (congrArg Int32.toInt (Eq.trans (Eq.trans (Eq.trans (Eq.trans (Hid.o hh214).2.2.2.1 (Hid.o hh152).2.2.2.1) (Hid.o hh90).2.2.2.1) (rd_ne (by omega))) (rd_ne (by omega)))) rfl
                  have b283 := Bd.o hB272 (show isO 112 97 12 = true from rfl) (show bnd 12 12 = some _ from rfl)
                  have b284 := Bd.o hB272 (show isO 112 97 12 = true from rfl) (show bnd 12 14 = some _ from rfl)
                  have b285 := Bd.o hB272 (show isO 112 97 12 = true from rfl) (show bnd 12 16 = some _ from rfl)
                  refine sp_X12_count hB272 hR0 (fun x286 y291 I287 J288 hB289 p290 => ?_)
                  have hh292 := Hid.i p290
                  clear p290
                  have f293 : Fr pT I270 I287 := (Hid.o hh292).2.1
                  have f294 : Fr (pW v1.toInt) I I287 := Fr.tr f277 f293 (fun _ _ => trivial)
                  have m295 : PMp I270 I287 := (PMp.mk (Hid.o hh292).2.2.1 (Hid.o hh292).2.2.2.1)
                  have wr296 := Or.imp (fun z => z.2) (fun z => And.intro z.1 z.2.1) (Hid.o hh292).2.2.2.2
                  have q297 : (0 : Int32).toInt = 0 := rfl
                  have q298 : (99 : Int32).toInt = 99 := rfl
                  have b299 := Bd.o hB289 (show isO 112 97 12 = true from rfl) (show bnd 12 12 = some _ from rfl)
                  have b300 := Bd.o hB289 (show isO 112 97 12 = true from rfl) (show bnd 12 14 = some _ from rfl)
                  have b301 := Bd.o hB289 (show isO 112 97 12 = true from rfl) (show bnd 12 16 = some _ from rfl)
                  have i302 := i32 x286
                  have e303 : ((v1 + 6) : Int32).toInt = (v1.toInt) + (6) := ti_add rfl rfl (by omega)
                  refine ⟨vp_of (a := (v1.toInt + 6)) e303 (by omega) (by omega), ?_⟩
                  have hB304 : Bd (uI I287 102 (Int32.toNatClampNeg (v1 + 6)) x286) := Bd.cnew hB289 (show ((v1 + 6) : Int32).toInt = (v1.toInt + 6) from e303) (show (x286 : Int32).toInt = x286.toInt from rfl) (by omega) (by omega) (by omega) 
                  have f305 : Fr (pW v1.toInt) I (uI I287 102 (Int32.toNatClampNeg (v1 + 6)) x286) := Fr.w f294 (show ((v1 + 6) : Int32).toInt = (v1.toInt + 6) from e303) (by omega) (fun j hj hp => by unfold pW at hp; omega)
                  have td306 : ((I40 97 12) : Int32).toInt = (I40 97 12).toInt := rfl
                  have td307 : ((I40 97 12)).toInt = 0 → x39.toInt < ((I 102 0)).toInt := fun hz => by have z := (Hid.o hh45).2.2.2 hz rfl; rw [show (((uI I15 102 (Int32.toNatClampNeg (v1 + 5)) x1) 102 0)) = (I 102 0) from (Eq.trans (Eq.trans (rd_k (fun z => by have z1 := tn_of (show (0 : Int32).toInt = 0 from rfl) (by omega); have z2 := tn_of (show ((v1 + 5) : Int32).toInt = (v1.toInt + 5) from e34) (by omega); have z0 : (0 : Nat) = (Int32.toNatClampNeg (v1 + 5)) := z; have z4 : Int32.toNatClampNeg 0 = 0 := rfl; omega)) (f21.1 0 trivial)) (f8.1 0 trivial))] at z; exact z
                  have e308 : (((uI I287 102 (Int32.toNatClampNeg (v1 + 6)) x286) 102 (Int32.toNatClampNeg (v1 + 1))) : Int32).toInt = x39.toInt := Eq.trans (congrArg Int32.toInt (Eq.trans (Eq.trans (Eq.trans (Eq.trans (Eq.trans (Eq.trans (Eq.trans (rd_k (fun z => by have z1 := tn_of (show ((v1 + 1) : Int32).toInt = (v1.toInt + 1) from e60) (by omega); have z2 := tn_of (show ((v1 + 6) : Int32).toInt = (v1.toInt + 6) from e303) (by omega); omega)) (f293.1 (Int32.toNatClampNeg (v1 + 1)) trivial)) (f276.1 (Int32.toNatClampNeg (v1 + 1)) trivial)) (f215.1 (Int32.toNatClampNeg (v1 + 1)) trivial)) (f153.1 (Int32.toNatClampNeg (v1 + 1)) trivial)) (f91.1 (Int32.toNatClampNeg (v1 + 1)) trivial)) (rd_k (fun z => by have z1 := tn_of (show ((v1 + 1) : Int32).toInt = (v1.toInt + 1) from e60) (by omega); have z2 := tn_of (show ((v1 + 7) : Int32).toInt = (v1.toInt + 7) from e80) (by omega); omega))) rd_eq)) rfl
                  have fl309 : (((uI I287 102 (Int32.toNatClampNeg (v1 + 6)) x286) 102 (Int32.toNatClampNeg (v1 + 1))) : Int32).toInt = x39.toInt := e308
                  have e310 : (((uI I287 102 (Int32.toNatClampNeg (v1 + 6)) x286) 102 (Int32.toNatClampNeg (v1 + 5))) : Int32).toInt = x1.toInt := Eq.trans (congrArg Int32.toInt (Eq.trans (Eq.trans (Eq.trans (Eq.trans (Eq.trans (Eq.trans (Eq.trans (Eq.trans (Eq.trans (rd_k (fun z => by have z1 := tn_of (show ((v1 + 5) : Int32).toInt = (v1.toInt + 5) from e34) (by omega); have z2 := tn_of (show ((v1 + 6) : Int32).toInt = (v1.toInt + 6) from e303) (by omega); omega)) (f293.1 (Int32.toNatClampNeg (v1 + 5)) trivial)) (f276.1 (Int32.toNatClampNeg (v1 + 5)) trivial)) (f215.1 (Int32.toNatClampNeg (v1 + 5)) trivial)) (f153.1 (Int32.toNatClampNeg (v1 + 5)) trivial)) (f91.1 (Int32.toNatClampNeg (v1 + 5)) trivial)) (rd_k (fun z => by have z1 := tn_of (show ((v1 + 5) : Int32).toInt = (v1.toInt + 5) from e34) (by omega); have z2 := tn_of (show ((v1 + 7) : Int32).toInt = (v1.toInt + 7) from e80) (by omega); omega))) (rd_k (fun z => by have z1 := tn_of (show ((v1 + 5) : Int32).toInt = (v1.toInt + 5) from e34) (by omega); have z2 := tn_of (show ((v1 + 1) : Int32).toInt = (v1.toInt + 1) from e60) (by omega); omega))) (f46.1 (Int32.toNatClampNeg (v1 + 5)) trivial)) rd_eq)) rfl
                  have fl311 : (((uI I287 102 (Int32.toNatClampNeg (v1 + 6)) x286) 102 (Int32.toNatClampNeg (v1 + 5))) : Int32).toInt = x1.toInt := e310
                  have e312 : (((uI I287 102 (Int32.toNatClampNeg (v1 + 6)) x286) 97 12) : Int32).toInt = (I287 97 12).toInt := Eq.trans (congrArg Int32.toInt (rd_ne (by omega))) rfl
                  have fl313 : (((uI I287 102 (Int32.toNatClampNeg (v1 + 6)) x286) 97 12) : Int32).toInt = (I287 97 12).toInt := e312
                  exact hQ _ _ _ _ hB304 ⟨f305, (PMp.o (PMp.tr (PMp.tr (PMp.tr (PMp.tr (PMp.tr (PMp.o (PMp.o (PMp.tr (PMp.o (PMp.tr (PMp.tr (PMp.refl I) m10) m23) (by decide)) m48) (by decide)) (by decide)) m93) m155) m217) m278) m295) (by decide)), (fun hz => by have op0 := Or.resolve_left (Or.inr True.intro : (1 : Int) ≤ 0 ∨ True) (fun z => by have b := PMp.bad (PMp.o (PMp.tr (PMp.tr (PMp.tr (PMp.tr (PMp.tr (PMp.o (PMp.o (PMp.refl I40) (by decide)) (by decide)) m93) m155) m217) m278) m295) (by decide)) hz; omega); have op1 := Or.resolve_left (Hid.o hh292).2.2.2.2 (fun z => by have b := PMp.bad (PMp.o (PMp.refl I287) (by decide)) hz; omega); omega)⟩
          · skip
            have e314 : (((uI I40 102 (Int32.toNatClampNeg (v1 + 1)) x39) 97 14) : Int32).toInt = (I40 97 14).toInt := Eq.trans (congrArg Int32.toInt (rd_ne (by omega))) rfl
            have d315 : (((I40 97 14).toInt) : Int) = (3) := ci_eq e314 rfl c77
            have e316 : ((v1 + 7) : Int32).toInt = (v1.toInt) + (7) := ti_add rfl rfl (by omega)
            refine ⟨vp_of (a := (v1.toInt + 7)) e316 (by omega) (by omega), ?_⟩
            have e318 : (((uI I40 102 (Int32.toNatClampNeg (v1 + 1)) x39) 97 17) : Int32).toInt = (I40 97 17).toInt := Eq.trans (congrArg Int32.toInt (rd_ne (by omega))) rfl
            have hB317 : Bd (uI (uI I40 102 (Int32.toNatClampNeg (v1 + 1)) x39) 102 (Int32.toNatClampNeg (v1 + 7)) ((uI I40 102 (Int32.toNatClampNeg (v1 + 1)) x39) 97 17)) := Bd.cnew hB61 (show ((v1 + 7) : Int32).toInt = (v1.toInt + 7) from e316) (show (((uI I40 102 (Int32.toNatClampNeg (v1 + 1)) x39) 97 17) : Int32).toInt = (I40 97 17).toInt from e318) (by omega) (by omega) (by omega) 
            have f319 : Fr (pW v1.toInt) I (uI (uI I40 102 (Int32.toNatClampNeg (v1 + 1)) x39) 102 (Int32.toNatClampNeg (v1 + 7)) ((uI I40 102 (Int32.toNatClampNeg (v1 + 1)) x39) 97 17)) := Fr.w f62 (show ((v1 + 7) : Int32).toInt = (v1.toInt + 7) from e316) (by omega) (fun j hj hp => by unfold pW at hp; omega)
            refine sp_X12_isSign hB317 hR0 (fun x320 y325 I321 J322 hB323 p324 => ?_)
            intro o326
            have hh327 := Hid.i p324
            clear p324
            have f328 : Fr pT (uI (uI I40 102 (Int32.toNatClampNeg (v1 + 1)) x39) 102 (Int32.toNatClampNeg (v1 + 7)) ((uI I40 102 (Int32.toNatClampNeg (v1 + 1)) x39) 97 17)) I321 := (Hid.o hh327).2.2.2.2.1
            have f329 : Fr (pW v1.toInt) I I321 := Fr.tr f319 f328 (fun _ _ => trivial)
            have m330 : PMp (uI (uI I40 102 (Int32.toNatClampNeg (v1 + 1)) x39) 102 (Int32.toNatClampNeg (v1 + 7)) ((uI I40 102 (Int32.toNatClampNeg (v1 + 1)) x39) 97 17)) I321 := (PMp.keep (Hid.o hh327).1 (Hid.o hh327).2.2.1 (Hid.o hh327).2.2.2.1)
            have q331 : (60 : Int32).toInt = 60 := rfl
            have e332 : (((uI (uI I40 102 (Int32.toNatClampNeg (v1 + 1)) x39) 102 (Int32.toNatClampNeg (v1 + 7)) ((uI I40 102 (Int32.toNatClampNeg (v1 + 1)) x39) 97 17)) 97 14) : Int32).toInt = (I40 97 14).toInt := Eq.trans (congrArg Int32.toInt (Eq.trans (rd_ne (by omega)) (rd_ne (by omega)))) rfl
            have i333 := i32 x320
            refine ⟨fun c334 => ?_, fun c334 => ?_⟩
            · skip
              have d335 : ¬ ((x320.toInt) : Int) = (0) := ci_ne rfl rfl c334
              refine sp_X12_must hB323 hR0 (fun x336 y341 I337 J338 hB339 p340 => ?_)
              have hh342 := Hid.i p340
              clear p340
              have f343 : Fr pT I321 I337 := (Hid.o hh342).2.1
              have f344 : Fr (pW v1.toInt) I I337 := Fr.tr f329 f343 (fun _ _ => trivial)
              have m345 : PMp I321 I337 := (PMp.mk (Hid.o hh342).2.2.1 (Hid.o hh342).2.2.2.1)
              have q346 : (1 : Int32).toInt = 1 := rfl
              have e347 : ((I321 97 12) : Int32).toInt = (I40 97 12).toInt := Eq.trans (congrArg Int32.toInt (Eq.trans (Eq.trans (Hid.o hh327).1 (rd_ne (by omega))) (rd_ne (by omega)))) rfl
              have e348 : ((I321 97 14) : Int32).toInt = (I40 97 14).toInt := Eq.trans (congrArg Int32.toInt (Eq.trans (Eq.trans (Hid.o hh327).2.2.1 (rd_ne (by omega))) (rd_ne (by omega)))) rfl
              have e349 : ((I321 97 16) : Int32).toInt = (I40 97 16).toInt := Eq.trans (congrArg Int32.toInt (Eq.trans (Eq.trans (Hid.o hh327).2.2.2.1 (rd_ne (by omega))) (rd_ne (by omega)))) rfl
              have b350 := Bd.o hB339 (show isO 112 97 12 = true from rfl) (show bnd 12 12 = some _ from rfl)
              have b351 := Bd.o hB339 (show isO 112 97 12 = true from rfl) (show bnd 12 14 = some _ from rfl)
              have b352 := Bd.o hB339 (show isO 112 97 12 = true from rfl) (show bnd 12 16 = some _ from rfl)
              refine sp_X12_count hB339 hR0 (fun x353 y358 I354 J355 hB356 p357 => ?_)
              have hh359 := Hid.i p357
              clear p357
              have f360 : Fr pT I337 I354 := (Hid.o hh359).2.1
              have f361 : Fr (pW v1.toInt) I I354 := Fr.tr f344 f360 (fun _ _ => trivial)
              have m362 : PMp I337 I354 := (PMp.mk (Hid.o hh359).2.2.1 (Hid.o hh359).2.2.2.1)
              have wr363 := Or.imp (fun z => z.2) (fun z => And.intro z.1 z.2.1) (Hid.o hh359).2.2.2.2
              have q364 : (0 : Int32).toInt = 0 := rfl
              have q365 : (99 : Int32).toInt = 99 := rfl
              have b366 := Bd.o hB356 (show isO 112 97 12 = true from rfl) (show bnd 12 12 = some _ from rfl)
              have b367 := Bd.o hB356 (show isO 112 97 12 = true from rfl) (show bnd 12 14 = some _ from rfl)
              have b368 := Bd.o hB356 (show isO 112 97 12 = true from rfl) (show bnd 12 16 = some _ from rfl)
              have i369 := i32 x353
              have e370 : ((v1 + 6) : Int32).toInt = (v1.toInt) + (6) := ti_add rfl rfl (by omega)
              refine ⟨vp_of (a := (v1.toInt + 6)) e370 (by omega) (by omega), ?_⟩
              have hB371 : Bd (uI I354 102 (Int32.toNatClampNeg (v1 + 6)) x353) := Bd.cnew hB356 (show ((v1 + 6) : Int32).toInt = (v1.toInt + 6) from e370) (show (x353 : Int32).toInt = x353.toInt from rfl) (by omega) (by omega) (by omega) 
              have f372 : Fr (pW v1.toInt) I (uI I354 102 (Int32.toNatClampNeg (v1 + 6)) x353) := Fr.w f361 (show ((v1 + 6) : Int32).toInt = (v1.toInt + 6) from e370) (by omega) (fun j hj hp => by unfold pW at hp; omega)
              have td373 : ((I40 97 12) : Int32).toInt = (I40 97 12).toInt := rfl
              have td374 : ((I40 97 12)).toInt = 0 → x39.toInt < ((I 102 0)).toInt := fun hz => by have z := (Hid.o hh45).2.2.2 hz rfl; rw [show (((uI I15 102 (Int32.toNatClampNeg (v1 + 5)) x1) 102 0)) = (I 102 0) from (Eq.trans (Eq.trans (rd_k (fun z => by have z1 := tn_of (show (0 : Int32).toInt = 0 from rfl) (by omega); have z2 := tn_of (show ((v1 + 5) : Int32).toInt = (v1.toInt + 5) from e34) (by omega); have z0 : (0 : Nat) = (Int32.toNatClampNeg (v1 + 5)) := z; have z4 : Int32.toNatClampNeg 0 = 0 := rfl; omega)) (f21.1 0 trivial)) (f8.1 0 trivial))] at z; exact z
              have e375 : (((uI I354 102 (Int32.toNatClampNeg (v1 + 6)) x353) 102 (Int32.toNatClampNeg (v1 + 1))) : Int32).toInt = x39.toInt := Eq.trans (congrArg Int32.toInt (Eq.trans (Eq.trans (Eq.trans (Eq.trans (Eq.trans (rd_k (fun z => by have z1 := tn_of (show ((v1 + 1) : Int32).toInt = (v1.toInt + 1) from e60) (by omega); have z2 := tn_of (show ((v1 + 6) : Int32).toInt = (v1.toInt + 6) from e370) (by omega); omega)) (f360.1 (Int32.toNatClampNeg (v1 + 1)) trivial)) (f343.1 (Int32.toNatClampNeg (v1 + 1)) trivial)) (f328.1 (Int32.toNatClampNeg (v1 + 1)) trivial)) (rd_k (fun z => by have z1 := tn_of (show ((v1 + 1) : Int32).toInt = (v1.toInt + 1) from e60) (by omega); have z2 := tn_of (show ((v1 + 7) : Int32).toInt = (v1.toInt + 7) from e316) (by omega); omega))) rd_eq)) rfl
              have fl376 : (((uI I354 102 (Int32.toNatClampNeg (v1 + 6)) x353) 102 (Int32.toNatClampNeg (v1 + 1))) : Int32).toInt = x39.toInt := e375
              have e377 : (((uI I354 102 (Int32.toNatClampNeg (v1 + 6)) x353) 102 (Int32.toNatClampNeg (v1 + 5))) : Int32).toInt = x1.toInt := Eq.trans (congrArg Int32.toInt (Eq.trans (Eq.trans (Eq.trans (Eq.trans (Eq.trans (Eq.trans (Eq.trans (rd_k (fun z => by have z1 := tn_of (show ((v1 + 5) : Int32).toInt = (v1.toInt + 5) from e34) (by omega); have z2 := tn_of (show ((v1 + 6) : Int32).toInt = (v1.toInt + 6) from e370) (by omega); omega)) (f360.1 (Int32.toNatClampNeg (v1 + 5)) trivial)) (f343.1 (Int32.toNatClampNeg (v1 + 5)) trivial)) (f328.1 (Int32.toNatClampNeg (v1 + 5)) trivial)) (rd_k (fun z => by have z1 := tn_of (show ((v1 + 5) : Int32).toInt = (v1.toInt + 5) from e34) (by omega); have z2 := tn_of (show ((v1 + 7) : Int32).toInt = (v1.toInt + 7) from e316) (by omega); omega))) (rd_k (fun z => by have z1 := tn_of (show ((v1 + 5) : Int32).toInt = (v1.toInt + 5) from e34) (by omega); have z2 := tn_of (show ((v1 + 1) : Int32).toInt = (v1.toInt + 1) from e60) (by omega); omega))) (f46.1 (Int32.toNatClampNeg (v1 + 5)) trivial)) rd_eq)) rfl
              have fl378 : (((uI I354 102 (Int32.toNatClampNeg (v1 + 6)) x353) 102 (Int32.toNatClampNeg (v1 + 5))) : Int32).toInt = x1.toInt := e377
              have e379 : (((uI I354 102 (Int32.toNatClampNeg (v1 + 6)) x353) 97 12) : Int32).toInt = (I354 97 12).toInt := Eq.trans (congrArg Int32.toInt (rd_ne (by omega))) rfl
              have fl380 : (((uI I354 102 (Int32.toNatClampNeg (v1 + 6)) x353) 97 12) : Int32).toInt = (I354 97 12).toInt := e379
              exact hQ _ _ _ _ hB371 ⟨f372, (PMp.o (PMp.tr (PMp.tr (PMp.tr (PMp.o (PMp.o (PMp.tr (PMp.o (PMp.tr (PMp.tr (PMp.refl I) m10) m23) (by decide)) m48) (by decide)) (by decide)) m330) m345) m362) (by decide)), (fun hz => by have op0 := Or.resolve_left (Or.inr True.intro : (1 : Int) ≤ 0 ∨ True) (fun z => by have b := PMp.bad (PMp.o (PMp.tr (PMp.tr (PMp.tr (PMp.o (PMp.o (PMp.refl I40) (by decide)) (by decide)) m330) m345) m362) (by decide)) hz; omega); have op1 := Or.resolve_left (Hid.o hh359).2.2.2.2 (fun z => by have b := PMp.bad (PMp.o (PMp.refl I354) (by decide)) hz; omega); omega)⟩
            · skip
              have d381 : ((x320.toInt) : Int) = (0) := ci_eq rfl rfl c334
              refine sp_X12_isSign hB323 hR0 (fun x382 y387 I383 J384 hB385 p386 => ?_)
              intro o388
              have hh389 := Hid.i p386
              clear p386
              have f390 : Fr pT I321 I383 := (Hid.o hh389).2.2.2.2.1
              have f391 : Fr (pW v1.toInt) I I383 := Fr.tr f329 f390 (fun _ _ => trivial)
              have m392 : PMp I321 I383 := (PMp.keep (Hid.o hh389).1 (Hid.o hh389).2.2.1 (Hid.o hh389).2.2.2.1)
              have q393 : (62 : Int32).toInt = 62 := rfl
              have e394 : ((I321 97 14) : Int32).toInt = (I40 97 14).toInt := Eq.trans (congrArg Int32.toInt (Eq.trans (Eq.trans (Hid.o hh327).2.2.1 (rd_ne (by omega))) (rd_ne (by omega)))) rfl
              have i395 := i32 x382
              refine ⟨fun c396 => ?_, fun c396 => ?_⟩
              · skip
                have d397 : ¬ ((x382.toInt) : Int) = (0) := ci_ne rfl rfl c396
                refine sp_X12_must hB385 hR0 (fun x398 y403 I399 J400 hB401 p402 => ?_)
                have hh404 := Hid.i p402
                clear p402
                have f405 : Fr pT I383 I399 := (Hid.o hh404).2.1
                have f406 : Fr (pW v1.toInt) I I399 := Fr.tr f391 f405 (fun _ _ => trivial)
                have m407 : PMp I383 I399 := (PMp.mk (Hid.o hh404).2.2.1 (Hid.o hh404).2.2.2.1)
                have q408 : (1 : Int32).toInt = 1 := rfl
                have e409 : ((I383 97 12) : Int32).toInt = (I40 97 12).toInt := Eq.trans (congrArg Int32.toInt (Eq.trans (Eq.trans (Eq.trans (Hid.o hh389).1 (Hid.o hh327).1) (rd_ne (by omega))) (rd_ne (by omega)))) rfl
                have e410 : ((I383 97 14) : Int32).toInt = (I40 97 14).toInt := Eq.trans (congrArg Int32.toInt (Eq.trans (Eq.trans (Eq.trans (Hid.o hh389).2.2.1 (Hid.o hh327).2.2.1) (rd_ne (by omega))) (rd_ne (by omega)))) rfl
                have e411 : ((I383 97 16) : Int32).toInt = (I40 97 16).toInt := Eq.trans (congrArg Int32.toInt (Eq.trans (Eq.trans (Eq.trans (Hid.o hh389).2.2.2.1 (Hid.o hh327).2.2.2.1) (rd_ne (by omega))) (rd_ne (by omega)))) rfl
                have b412 := Bd.o hB401 (show isO 112 97 12 = true from rfl) (show bnd 12 12 = some _ from rfl)
                have b413 := Bd.o hB401 (show isO 112 97 12 = true from rfl) (show bnd 12 14 = some _ from rfl)
                have b414 := Bd.o hB401 (show isO 112 97 12 = true from rfl) (show bnd 12 16 = some _ from rfl)
                refine sp_X12_count hB401 hR0 (fun x415 y420 I416 J417 hB418 p419 => ?_)
                have hh421 := Hid.i p419
                clear p419
                have f422 : Fr pT I399 I416 := (Hid.o hh421).2.1
                have f423 : Fr (pW v1.toInt) I I416 := Fr.tr f406 f422 (fun _ _ => trivial)
                have m424 : PMp I399 I416 := (PMp.mk (Hid.o hh421).2.2.1 (Hid.o hh421).2.2.2.1)
                have wr425 := Or.imp (fun z => z.2) (fun z => And.intro z.1 z.2.1) (Hid.o hh421).2.2.2.2
                have q426 : (0 : Int32).toInt = 0 := rfl
                have q427 : (99 : Int32).toInt = 99 := rfl
                have b428 := Bd.o hB418 (show isO 112 97 12 = true from rfl) (show bnd 12 12 = some _ from rfl)
                have b429 := Bd.o hB418 (show isO 112 97 12 = true from rfl) (show bnd 12 14 = some _ from rfl)
                have b430 := Bd.o hB418 (show isO 112 97 12 = true from rfl) (show bnd 12 16 = some _ from rfl)
                have i431 := i32 x415
                have e432 : ((v1 + 6) : Int32).toInt = (v1.toInt) + (6) := ti_add rfl rfl (by omega)
                refine ⟨vp_of (a := (v1.toInt + 6)) e432 (by omega) (by omega), ?_⟩
                have hB433 : Bd (uI I416 102 (Int32.toNatClampNeg (v1 + 6)) x415) := Bd.cnew hB418 (show ((v1 + 6) : Int32).toInt = (v1.toInt + 6) from e432) (show (x415 : Int32).toInt = x415.toInt from rfl) (by omega) (by omega) (by omega) 
                have f434 : Fr (pW v1.toInt) I (uI I416 102 (Int32.toNatClampNeg (v1 + 6)) x415) := Fr.w f423 (show ((v1 + 6) : Int32).toInt = (v1.toInt + 6) from e432) (by omega) (fun j hj hp => by unfold pW at hp; omega)
                have td435 : ((I40 97 12) : Int32).toInt = (I40 97 12).toInt := rfl
                have td436 : ((I40 97 12)).toInt = 0 → x39.toInt < ((I 102 0)).toInt := fun hz => by have z := (Hid.o hh45).2.2.2 hz rfl; rw [show (((uI I15 102 (Int32.toNatClampNeg (v1 + 5)) x1) 102 0)) = (I 102 0) from (Eq.trans (Eq.trans (rd_k (fun z => by have z1 := tn_of (show (0 : Int32).toInt = 0 from rfl) (by omega); have z2 := tn_of (show ((v1 + 5) : Int32).toInt = (v1.toInt + 5) from e34) (by omega); have z0 : (0 : Nat) = (Int32.toNatClampNeg (v1 + 5)) := z; have z4 : Int32.toNatClampNeg 0 = 0 := rfl; omega)) (f21.1 0 trivial)) (f8.1 0 trivial))] at z; exact z
                have e437 : (((uI I416 102 (Int32.toNatClampNeg (v1 + 6)) x415) 102 (Int32.toNatClampNeg (v1 + 1))) : Int32).toInt = x39.toInt := Eq.trans (congrArg Int32.toInt (Eq.trans (Eq.trans (Eq.trans (Eq.trans (Eq.trans (Eq.trans (rd_k (fun z => by have z1 := tn_of (show ((v1 + 1) : Int32).toInt = (v1.toInt + 1) from e60) (by omega); have z2 := tn_of (show ((v1 + 6) : Int32).toInt = (v1.toInt + 6) from e432) (by omega); omega)) (f422.1 (Int32.toNatClampNeg (v1 + 1)) trivial)) (f405.1 (Int32.toNatClampNeg (v1 + 1)) trivial)) (f390.1 (Int32.toNatClampNeg (v1 + 1)) trivial)) (f328.1 (Int32.toNatClampNeg (v1 + 1)) trivial)) (rd_k (fun z => by have z1 := tn_of (show ((v1 + 1) : Int32).toInt = (v1.toInt + 1) from e60) (by omega); have z2 := tn_of (show ((v1 + 7) : Int32).toInt = (v1.toInt + 7) from e316) (by omega); omega))) rd_eq)) rfl
                have fl438 : (((uI I416 102 (Int32.toNatClampNeg (v1 + 6)) x415) 102 (Int32.toNatClampNeg (v1 + 1))) : Int32).toInt = x39.toInt := e437
                have e439 : (((uI I416 102 (Int32.toNatClampNeg (v1 + 6)) x415) 102 (Int32.toNatClampNeg (v1 + 5))) : Int32).toInt = x1.toInt := Eq.trans (congrArg Int32.toInt (Eq.trans (Eq.trans (Eq.trans (Eq.trans (Eq.trans (Eq.trans (Eq.trans (Eq.trans (rd_k (fun z => by have z1 := tn_of (show ((v1 + 5) : Int32).toInt = (v1.toInt + 5) from e34) (by omega); have z2 := tn_of (show ((v1 + 6) : Int32).toInt = (v1.toInt + 6) from e432) (by omega); omega)) (f422.1 (Int32.toNatClampNeg (v1 + 5)) trivial)) (f405.1 (Int32.toNatClampNeg (v1 + 5)) trivial)) (f390.1 (Int32.toNatClampNeg (v1 + 5)) trivial)) (f328.1 (Int32.toNatClampNeg (v1 + 5)) trivial)) (rd_k (fun z => by have z1 := tn_of (show ((v1 + 5) : Int32).toInt = (v1.toInt + 5) from e34) (by omega); have z2 := tn_of (show ((v1 + 7) : Int32).toInt = (v1.toInt + 7) from e316) (by omega); omega))) (rd_k (fun z => by have z1 := tn_of (show ((v1 + 5) : Int32).toInt = (v1.toInt + 5) from e34) (by omega); have z2 := tn_of (show ((v1 + 1) : Int32).toInt = (v1.toInt + 1) from e60) (by omega); omega))) (f46.1 (Int32.toNatClampNeg (v1 + 5)) trivial)) rd_eq)) rfl
                have fl440 : (((uI I416 102 (Int32.toNatClampNeg (v1 + 6)) x415) 102 (Int32.toNatClampNeg (v1 + 5))) : Int32).toInt = x1.toInt := e439
                have e441 : (((uI I416 102 (Int32.toNatClampNeg (v1 + 6)) x415) 97 12) : Int32).toInt = (I416 97 12).toInt := Eq.trans (congrArg Int32.toInt (rd_ne (by omega))) rfl
                have fl442 : (((uI I416 102 (Int32.toNatClampNeg (v1 + 6)) x415) 97 12) : Int32).toInt = (I416 97 12).toInt := e441
                exact hQ _ _ _ _ hB433 ⟨f434, (PMp.o (PMp.tr (PMp.tr (PMp.tr (PMp.tr (PMp.o (PMp.o (PMp.tr (PMp.o (PMp.tr (PMp.tr (PMp.refl I) m10) m23) (by decide)) m48) (by decide)) (by decide)) m330) m392) m407) m424) (by decide)), (fun hz => by have op0 := Or.resolve_left (Or.inr True.intro : (1 : Int) ≤ 0 ∨ True) (fun z => by have b := PMp.bad (PMp.o (PMp.tr (PMp.tr (PMp.tr (PMp.tr (PMp.o (PMp.o (PMp.refl I40) (by decide)) (by decide)) m330) m392) m407) m424) (by decide)) hz; omega); have op1 := Or.resolve_left (Hid.o hh421).2.2.2.2 (fun z => by have b := PMp.bad (PMp.o (PMp.refl I416) (by decide)) hz; omega); omega)⟩
              · skip
                have d443 : ((x382.toInt) : Int) = (0) := ci_eq rfl rfl c396
                refine sp_X12_isSign hB385 hR0 (fun x444 y449 I445 J446 hB447 p448 => ?_)
                intro o450
                have hh451 := Hid.i p448
                clear p448
                have f452 : Fr pT I383 I445 := (Hid.o hh451).2.2.2.2.1
                have f453 : Fr (pW v1.toInt) I I445 := Fr.tr f391 f452 (fun _ _ => trivial)
                have m454 : PMp I383 I445 := (PMp.keep (Hid.o hh451).1 (Hid.o hh451).2.2.1 (Hid.o hh451).2.2.2.1)
                have q455 : (61 : Int32).toInt = 61 := rfl
                have e456 : ((I383 97 14) : Int32).toInt = (I40 97 14).toInt := Eq.trans (congrArg Int32.toInt (Eq.trans (Eq.trans (Eq.trans (Hid.o hh389).2.2.1 (Hid.o hh327).2.2.1) (rd_ne (by omega))) (rd_ne (by omega)))) rfl
                have i457 := i32 x444
                refine ⟨fun c458 => ?_, fun c458 => ?_⟩
                · skip
                  have d459 : ((x444.toInt) : Int) = (0) := ci_eq rfl rfl c458
                  refine sp_X12_must hB447 hR0 (fun x460 y465 I461 J462 hB463 p464 => ?_)
                  have hh466 := Hid.i p464
                  clear p464
                  have f467 : Fr pT I445 I461 := (Hid.o hh466).2.1
                  have f468 : Fr (pW v1.toInt) I I461 := Fr.tr f453 f467 (fun _ _ => trivial)
                  have m469 : PMp I445 I461 := (PMp.mk (Hid.o hh466).2.2.1 (Hid.o hh466).2.2.2.1)
                  have q470 : (0 : Int32).toInt = 0 := rfl
                  have e471 : ((I445 97 12) : Int32).toInt = (I40 97 12).toInt := Eq.trans (congrArg Int32.toInt (Eq.trans (Eq.trans (Eq.trans (Eq.trans (Hid.o hh451).1 (Hid.o hh389).1) (Hid.o hh327).1) (rd_ne (by omega))) (rd_ne (by omega)))) rfl
                  have e472 : ((I445 97 14) : Int32).toInt = (I40 97 14).toInt := Eq.trans (congrArg Int32.toInt (Eq.trans (Eq.trans (Eq.trans (Eq.trans (Hid.o hh451).2.2.1 (Hid.o hh389).2.2.1) (Hid.o hh327).2.2.1) (rd_ne (by omega))) (rd_ne (by omega)))) rfl
                  have e473 : ((I445 97 16) : Int32).toInt = (I40 97 16).toInt := Eq.trans (congrArg Int32.toInt (Eq.trans (Eq.trans (Eq.trans (Eq.trans (Hid.o hh451).2.2.2.1 (Hid.o hh389).2.2.2.1) (Hid.o hh327).2.2.2.1) (rd_ne (by omega))) (rd_ne (by omega)))) rfl
                  have b474 := Bd.o hB463 (show isO 112 97 12 = true from rfl) (show bnd 12 12 = some _ from rfl)
                  have b475 := Bd.o hB463 (show isO 112 97 12 = true from rfl) (show bnd 12 14 = some _ from rfl)
                  have b476 := Bd.o hB463 (show isO 112 97 12 = true from rfl) (show bnd 12 16 = some _ from rfl)
                  refine sp_X12_count hB463 hR0 (fun x477 y482 I478 J479 hB480 p481 => ?_)
                  have hh483 := Hid.i p481
                  clear p481
                  have f484 : Fr pT I461 I478 := (Hid.o hh483).2.1
                  have f485 : Fr (pW v1.toInt) I I478 := Fr.tr f468 f484 (fun _ _ => trivial)
                  have m486 : PMp I461 I478 := (PMp.mk (Hid.o hh483).2.2.1 (Hid.o hh483).2.2.2.1)
                  have wr487 := Or.imp (fun z => z.2) (fun z => And.intro z.1 z.2.1) (Hid.o hh483).2.2.2.2
                  have q488 : (0 : Int32).toInt = 0 := rfl
                  have q489 : (99 : Int32).toInt = 99 := rfl
                  have b490 := Bd.o hB480 (show isO 112 97 12 = true from rfl) (show bnd 12 12 = some _ from rfl)
                  have b491 := Bd.o hB480 (show isO 112 97 12 = true from rfl) (show bnd 12 14 = some _ from rfl)
                  have b492 := Bd.o hB480 (show isO 112 97 12 = true from rfl) (show bnd 12 16 = some _ from rfl)
                  have i493 := i32 x477
                  have e494 : ((v1 + 6) : Int32).toInt = (v1.toInt) + (6) := ti_add rfl rfl (by omega)
                  refine ⟨vp_of (a := (v1.toInt + 6)) e494 (by omega) (by omega), ?_⟩
                  have hB495 : Bd (uI I478 102 (Int32.toNatClampNeg (v1 + 6)) x477) := Bd.cnew hB480 (show ((v1 + 6) : Int32).toInt = (v1.toInt + 6) from e494) (show (x477 : Int32).toInt = x477.toInt from rfl) (by omega) (by omega) (by omega) 
                  have f496 : Fr (pW v1.toInt) I (uI I478 102 (Int32.toNatClampNeg (v1 + 6)) x477) := Fr.w f485 (show ((v1 + 6) : Int32).toInt = (v1.toInt + 6) from e494) (by omega) (fun j hj hp => by unfold pW at hp; omega)
                  have td497 : ((I40 97 12) : Int32).toInt = (I40 97 12).toInt := rfl
                  have td498 : ((I40 97 12)).toInt = 0 → x39.toInt < ((I 102 0)).toInt := fun hz => by have z := (Hid.o hh45).2.2.2 hz rfl; rw [show (((uI I15 102 (Int32.toNatClampNeg (v1 + 5)) x1) 102 0)) = (I 102 0) from (Eq.trans (Eq.trans (rd_k (fun z => by have z1 := tn_of (show (0 : Int32).toInt = 0 from rfl) (by omega); have z2 := tn_of (show ((v1 + 5) : Int32).toInt = (v1.toInt + 5) from e34) (by omega); have z0 : (0 : Nat) = (Int32.toNatClampNeg (v1 + 5)) := z; have z4 : Int32.toNatClampNeg 0 = 0 := rfl; omega)) (f21.1 0 trivial)) (f8.1 0 trivial))] at z; exact z
                  have e499 : (((uI I478 102 (Int32.toNatClampNeg (v1 + 6)) x477) 102 (Int32.toNatClampNeg (v1 + 1))) : Int32).toInt = x39.toInt := Eq.trans (congrArg Int32.toInt (Eq.trans (Eq.trans (Eq.trans (Eq.trans (Eq.trans (Eq.trans (Eq.trans (rd_k (fun z => by have z1 := tn_of (show ((v1 + 1) : Int32).toInt = (v1.toInt + 1) from e60) (by omega); have z2 := tn_of (show ((v1 + 6) : Int32).toInt = (v1.toInt + 6) from e494) (by omega); omega)) (f484.1 (Int32.toNatClampNeg (v1 + 1)) trivial)) (f467.1 (Int32.toNatClampNeg (v1 + 1)) trivial)) (f452.1 (Int32.toNatClampNeg (v1 + 1)) trivial)) (f390.1 (Int32.toNatClampNeg (v1 + 1)) trivial)) (f328.1 (Int32.toNatClampNeg (v1 + 1)) trivial)) (rd_k (fun z => by have z1 := tn_of (show ((v1 + 1) : Int32).toInt = (v1.toInt + 1) from e60) (by omega); have z2 := tn_of (show ((v1 + 7) : Int32).toInt = (v1.toInt + 7) from e316) (by omega); omega))) rd_eq)) rfl
                  have fl500 : (((uI I478 102 (Int32.toNatClampNeg (v1 + 6)) x477) 102 (Int32.toNatClampNeg (v1 + 1))) : Int32).toInt = x39.toInt := e499
                  have e501 : (((uI I478 102 (Int32.toNatClampNeg (v1 + 6)) x477) 102 (Int32.toNatClampNeg (v1 + 5))) : Int32).toInt = x1.toInt := Eq.trans (congrArg Int32.toInt (Eq.trans (Eq.trans (Eq.trans (Eq.trans (Eq.trans (Eq.trans (Eq.trans (Eq.trans (Eq.trans (rd_k (fun z => by have z1 := tn_of (show ((v1 + 5) : Int32).toInt = (v1.toInt + 5) from e34) (by omega); have z2 := tn_of (show ((v1 + 6) : Int32).toInt = (v1.toInt + 6) from e494) (by omega); omega)) (f484.1 (Int32.toNatClampNeg (v1 + 5)) trivial)) (f467.1 (Int32.toNatClampNeg (v1 + 5)) trivial)) (f452.1 (Int32.toNatClampNeg (v1 + 5)) trivial)) (f390.1 (Int32.toNatClampNeg (v1 + 5)) trivial)) (f328.1 (Int32.toNatClampNeg (v1 + 5)) trivial)) (rd_k (fun z => by have z1 := tn_of (show ((v1 + 5) : Int32).toInt = (v1.toInt + 5) from e34) (by omega); have z2 := tn_of (show ((v1 + 7) : Int32).toInt = (v1.toInt + 7) from e316) (by omega); omega))) (rd_k (fun z => by have z1 := tn_of (show ((v1 + 5) : Int32).toInt = (v1.toInt + 5) from e34) (by omega); have z2 := tn_of (show ((v1 + 1) : Int32).toInt = (v1.toInt + 1) from e60) (by omega); omega))) (f46.1 (Int32.toNatClampNeg (v1 + 5)) trivial)) rd_eq)) rfl
                  have fl502 : (((uI I478 102 (Int32.toNatClampNeg (v1 + 6)) x477) 102 (Int32.toNatClampNeg (v1 + 5))) : Int32).toInt = x1.toInt := e501
                  have e503 : (((uI I478 102 (Int32.toNatClampNeg (v1 + 6)) x477) 97 12) : Int32).toInt = (I478 97 12).toInt := Eq.trans (congrArg Int32.toInt (rd_ne (by omega))) rfl
                  have fl504 : (((uI I478 102 (Int32.toNatClampNeg (v1 + 6)) x477) 97 12) : Int32).toInt = (I478 97 12).toInt := e503
                  exact hQ _ _ _ _ hB495 ⟨f496, (PMp.o (PMp.tr (PMp.tr (PMp.tr (PMp.tr (PMp.tr (PMp.o (PMp.o (PMp.tr (PMp.o (PMp.tr (PMp.tr (PMp.refl I) m10) m23) (by decide)) m48) (by decide)) (by decide)) m330) m392) m454) m469) m486) (by decide)), (fun hz => by have op0 := Or.resolve_left (Or.inr True.intro : (1 : Int) ≤ 0 ∨ True) (fun z => by have b := PMp.bad (PMp.o (PMp.tr (PMp.tr (PMp.tr (PMp.tr (PMp.tr (PMp.o (PMp.o (PMp.refl I40) (by decide)) (by decide)) m330) m392) m454) m469) m486) (by decide)) hz; omega); have op1 := Or.resolve_left (Hid.o hh483).2.2.2.2 (fun z => by have b := PMp.bad (PMp.o (PMp.refl I478) (by decide)) hz; omega); omega)⟩
                · skip
                  have d505 : ¬ ((x444.toInt) : Int) = (0) := ci_ne rfl rfl c458
                  refine sp_X12_must hB447 hR0 (fun x506 y511 I507 J508 hB509 p510 => ?_)
                  have hh512 := Hid.i p510
                  clear p510
                  have f513 : Fr pT I445 I507 := (Hid.o hh512).2.1
                  have f514 : Fr (pW v1.toInt) I I507 := Fr.tr f453 f513 (fun _ _ => trivial)
                  have m515 : PMp I445 I507 := (PMp.mk (Hid.o hh512).2.2.1 (Hid.o hh512).2.2.2.1)
                  have q516 : (1 : Int32).toInt = 1 := rfl
                  have e517 : ((I445 97 12) : Int32).toInt = (I40 97 12).toInt := Eq.trans (congrArg Int32.toInt (Eq.trans (Eq.trans (Eq.trans (Eq.trans (Hid.o hh451).1 (Hid.o hh389).1) (Hid.o hh327).1) (rd_ne (by omega))) (rd_ne (by omega)))) rfl
                  have e518 : ((I445 97 14) : Int32).toInt = (I40 97 14).toInt := Eq.trans (congrArg Int32.toInt (Eq.trans (Eq.trans (Eq.trans (Eq.trans (Hid.o hh451).2.2.1 (Hid.o hh389).2.2.1) (Hid.o hh327).2.2.1) (rd_ne (by omega))) (rd_ne (by omega)))) rfl
                  have e519 : ((I445 97 16) : Int32).toInt = (I40 97 16).toInt := Eq.trans (congrArg Int32.toInt (Eq.trans (Eq.trans (Eq.trans (Eq.trans (Hid.o hh451).2.2.2.1 (Hid.o hh389).2.2.2.1) (Hid.o hh327).2.2.2.1) (rd_ne (by omega))) (rd_ne (by omega)))) rfl
                  have b520 := Bd.o hB509 (show isO 112 97 12 = true from rfl) (show bnd 12 12 = some _ from rfl)
                  have b521 := Bd.o hB509 (show isO 112 97 12 = true from rfl) (show bnd 12 14 = some _ from rfl)
                  have b522 := Bd.o hB509 (show isO 112 97 12 = true from rfl) (show bnd 12 16 = some _ from rfl)
                  refine sp_X12_count hB509 hR0 (fun x523 y528 I524 J525 hB526 p527 => ?_)
                  have hh529 := Hid.i p527
                  clear p527
                  have f530 : Fr pT I507 I524 := (Hid.o hh529).2.1
                  have f531 : Fr (pW v1.toInt) I I524 := Fr.tr f514 f530 (fun _ _ => trivial)
                  have m532 : PMp I507 I524 := (PMp.mk (Hid.o hh529).2.2.1 (Hid.o hh529).2.2.2.1)
                  have wr533 := Or.imp (fun z => z.2) (fun z => And.intro z.1 z.2.1) (Hid.o hh529).2.2.2.2
                  have q534 : (0 : Int32).toInt = 0 := rfl
                  have q535 : (99 : Int32).toInt = 99 := rfl
                  have b536 := Bd.o hB526 (show isO 112 97 12 = true from rfl) (show bnd 12 12 = some _ from rfl)
                  have b537 := Bd.o hB526 (show isO 112 97 12 = true from rfl) (show bnd 12 14 = some _ from rfl)
                  have b538 := Bd.o hB526 (show isO 112 97 12 = true from rfl) (show bnd 12 16 = some _ from rfl)
                  have i539 := i32 x523
                  have e540 : ((v1 + 6) : Int32).toInt = (v1.toInt) + (6) := ti_add rfl rfl (by omega)
                  refine ⟨vp_of (a := (v1.toInt + 6)) e540 (by omega) (by omega), ?_⟩
                  have hB541 : Bd (uI I524 102 (Int32.toNatClampNeg (v1 + 6)) x523) := Bd.cnew hB526 (show ((v1 + 6) : Int32).toInt = (v1.toInt + 6) from e540) (show (x523 : Int32).toInt = x523.toInt from rfl) (by omega) (by omega) (by omega) 
                  have f542 : Fr (pW v1.toInt) I (uI I524 102 (Int32.toNatClampNeg (v1 + 6)) x523) := Fr.w f531 (show ((v1 + 6) : Int32).toInt = (v1.toInt + 6) from e540) (by omega) (fun j hj hp => by unfold pW at hp; omega)
                  have td543 : ((I40 97 12) : Int32).toInt = (I40 97 12).toInt := rfl
                  have td544 : ((I40 97 12)).toInt = 0 → x39.toInt < ((I 102 0)).toInt := fun hz => by have z := (Hid.o hh45).2.2.2 hz rfl; rw [show (((uI I15 102 (Int32.toNatClampNeg (v1 + 5)) x1) 102 0)) = (I 102 0) from (Eq.trans (Eq.trans (rd_k (fun z => by have z1 := tn_of (show (0 : Int32).toInt = 0 from rfl) (by omega); have z2 := tn_of (show ((v1 + 5) : Int32).toInt = (v1.toInt + 5) from e34) (by omega); have z0 : (0 : Nat) = (Int32.toNatClampNeg (v1 + 5)) := z; have z4 : Int32.toNatClampNeg 0 = 0 := rfl; omega)) (f21.1 0 trivial)) (f8.1 0 trivial))] at z; exact z
                  have e545 : (((uI I524 102 (Int32.toNatClampNeg (v1 + 6)) x523) 102 (Int32.toNatClampNeg (v1 + 1))) : Int32).toInt = x39.toInt := Eq.trans (congrArg Int32.toInt (Eq.trans (Eq.trans (Eq.trans (Eq.trans (Eq.trans (Eq.trans (Eq.trans (rd_k (fun z => by have z1 := tn_of (show ((v1 + 1) : Int32).toInt = (v1.toInt + 1) from e60) (by omega); have z2 := tn_of (show ((v1 + 6) : Int32).toInt = (v1.toInt + 6) from e540) (by omega); omega)) (f530.1 (Int32.toNatClampNeg (v1 + 1)) trivial)) (f513.1 (Int32.toNatClampNeg (v1 + 1)) trivial)) (f452.1 (Int32.toNatClampNeg (v1 + 1)) trivial)) (f390.1 (Int32.toNatClampNeg (v1 + 1)) trivial)) (f328.1 (Int32.toNatClampNeg (v1 + 1)) trivial)) (rd_k (fun z => by have z1 := tn_of (show ((v1 + 1) : Int32).toInt = (v1.toInt + 1) from e60) (by omega); have z2 := tn_of (show ((v1 + 7) : Int32).toInt = (v1.toInt + 7) from e316) (by omega); omega))) rd_eq)) rfl
                  have fl546 : (((uI I524 102 (Int32.toNatClampNeg (v1 + 6)) x523) 102 (Int32.toNatClampNeg (v1 + 1))) : Int32).toInt = x39.toInt := e545
                  have e547 : (((uI I524 102 (Int32.toNatClampNeg (v1 + 6)) x523) 102 (Int32.toNatClampNeg (v1 + 5))) : Int32).toInt = x1.toInt := Eq.trans (congrArg Int32.toInt (Eq.trans (Eq.trans (Eq.trans (Eq.trans (Eq.trans (Eq.trans (Eq.trans (Eq.trans (Eq.trans (rd_k (fun z => by have z1 := tn_of (show ((v1 + 5) : Int32).toInt = (v1.toInt + 5) from e34) (by omega); have z2 := tn_of (show ((v1 + 6) : Int32).toInt = (v1.toInt + 6) from e540) (by omega); omega)) (f530.1 (Int32.toNatClampNeg (v1 + 5)) trivial)) (f513.1 (Int32.toNatClampNeg (v1 + 5)) trivial)) (f452.1 (Int32.toNatClampNeg (v1 + 5)) trivial)) (f390.1 (Int32.toNatClampNeg (v1 + 5)) trivial)) (f328.1 (Int32.toNatClampNeg (v1 + 5)) trivial)) (rd_k (fun z => by have z1 := tn_of (show ((v1 + 5) : Int32).toInt = (v1.toInt + 5) from e34) (by omega); have z2 := tn_of (show ((v1 + 7) : Int32).toInt = (v1.toInt + 7) from e316) (by omega); omega))) (rd_k (fun z => by have z1 := tn_of (show ((v1 + 5) : Int32).toInt = (v1.toInt + 5) from e34) (by omega); have z2 := tn_of (show ((v1 + 1) : Int32).toInt = (v1.toInt + 1) from e60) (by omega); omega))) (f46.1 (Int32.toNatClampNeg (v1 + 5)) trivial)) rd_eq)) rfl
                  have fl548 : (((uI I524 102 (Int32.toNatClampNeg (v1 + 6)) x523) 102 (Int32.toNatClampNeg (v1 + 5))) : Int32).toInt = x1.toInt := e547
                  have e549 : (((uI I524 102 (Int32.toNatClampNeg (v1 + 6)) x523) 97 12) : Int32).toInt = (I524 97 12).toInt := Eq.trans (congrArg Int32.toInt (rd_ne (by omega))) rfl
                  have fl550 : (((uI I524 102 (Int32.toNatClampNeg (v1 + 6)) x523) 97 12) : Int32).toInt = (I524 97 12).toInt := e549
                  exact hQ _ _ _ _ hB541 ⟨f542, (PMp.o (PMp.tr (PMp.tr (PMp.tr (PMp.tr (PMp.tr (PMp.o (PMp.o (PMp.tr (PMp.o (PMp.tr (PMp.tr (PMp.refl I) m10) m23) (by decide)) m48) (by decide)) (by decide)) m330) m392) m454) m515) m532) (by decide)), (fun hz => by have op0 := Or.resolve_left (Or.inr True.intro : (1 : Int) ≤ 0 ∨ True) (fun z => by have b := PMp.bad (PMp.o (PMp.tr (PMp.tr (PMp.tr (PMp.tr (PMp.tr (PMp.o (PMp.o (PMp.refl I40) (by decide)) (by decide)) m330) m392) m454) m515) m532) (by decide)) hz; omega); have op1 := Or.resolve_left (Hid.o hh529).2.2.2.2 (fun z => by have b := PMp.bad (PMp.o (PMp.refl I524) (by decide)) hz; omega); omega)⟩
        · skip
          have d551 : ((x1.toInt) : Int) = (0) := ci_eq rfl rfl c75
          have td552 : ((I40 97 12) : Int32).toInt = (I40 97 12).toInt := rfl
          have td553 : ((I40 97 12)).toInt = 0 → x39.toInt < ((I 102 0)).toInt := fun hz => by have z := (Hid.o hh45).2.2.2 hz rfl; rw [show (((uI I15 102 (Int32.toNatClampNeg (v1 + 5)) x1) 102 0)) = (I 102 0) from (Eq.trans (Eq.trans (rd_k (fun z => by have z1 := tn_of (show (0 : Int32).toInt = 0 from rfl) (by omega); have z2 := tn_of (show ((v1 + 5) : Int32).toInt = (v1.toInt + 5) from e34) (by omega); have z0 : (0 : Nat) = (Int32.toNatClampNeg (v1 + 5)) := z; have z4 : Int32.toNatClampNeg 0 = 0 := rfl; omega)) (f21.1 0 trivial)) (f8.1 0 trivial))] at z; exact z
          have e554 : (((uI I40 102 (Int32.toNatClampNeg (v1 + 1)) x39) 102 (Int32.toNatClampNeg (v1 + 1))) : Int32).toInt = x39.toInt := Eq.trans (congrArg Int32.toInt rd_eq) rfl
          have fl555 : (((uI I40 102 (Int32.toNatClampNeg (v1 + 1)) x39) 102 (Int32.toNatClampNeg (v1 + 1))) : Int32).toInt = x39.toInt := e554
          have e556 : (((uI I40 102 (Int32.toNatClampNeg (v1 + 1)) x39) 102 (Int32.toNatClampNeg (v1 + 5))) : Int32).toInt = x1.toInt := Eq.trans (congrArg Int32.toInt (Eq.trans (Eq.trans (rd_k (fun z => by have z1 := tn_of (show ((v1 + 5) : Int32).toInt = (v1.toInt + 5) from e34) (by omega); have z2 := tn_of (show ((v1 + 1) : Int32).toInt = (v1.toInt + 1) from e60) (by omega); omega)) (f46.1 (Int32.toNatClampNeg (v1 + 5)) trivial)) rd_eq)) rfl
          have fl557 : (((uI I40 102 (Int32.toNatClampNeg (v1 + 1)) x39) 102 (Int32.toNatClampNeg (v1 + 5))) : Int32).toInt = x1.toInt := e556
          have fl558 : (((uI I40 102 (Int32.toNatClampNeg (v1 + 1)) x39) 97 12) : Int32).toInt = (I40 97 12).toInt := e73
          exact hQ _ _ _ _ hB61 ⟨f62, (PMp.o (PMp.tr (PMp.o (PMp.tr (PMp.tr (PMp.refl I) m10) m23) (by decide)) m48) (by decide)), (fun hz => by have op0 := Or.resolve_left (Or.inr True.intro : (1 : Int) ≤ 0 ∨ True) (fun z => by have b := PMp.bad (PMp.o (PMp.refl I40) (by decide)) hz; omega); omega)⟩
    · skip
      have d559 : ((x1.toInt) : Int) = (1) := ci_eq rfl rfl c37
      refine sp_X12_count hB35 hR0 (fun x560 y565 I561 J562 hB563 p564 => ?_)
      have hh566 := Hid.i p564
      clear p564
      have f567 : Fr pT (uI I15 102 (Int32.toNatClampNeg (v1 + 5)) x1) I561 := (Hid.o hh566).2.1
      have f568 : Fr (pW v1.toInt) I I561 := Fr.tr f36 f567 (fun _ _ => trivial)
      have m569 : PMp (uI I15 102 (Int32.toNatClampNeg (v1 + 5)) x1) I561 := (PMp.mk (Hid.o hh566).2.2.1 (Hid.o hh566).2.2.2.1)
      have wr570 := Or.imp (fun z => z.2) (fun z => And.intro z.1 z.2.1) (Hid.o hh566).2.2.2.2
      have q571 : (1 : Int32).toInt = 1 := rfl
      have q572 : (30 : Int32).toInt = 30 := rfl
      have e573 : (((uI I15 102 (Int32.toNatClampNeg (v1 + 5)) x1) 97 12) : Int32).toInt = (I15 97 12).toInt := Eq.trans (congrArg Int32.toInt (rd_ne (by omega))) rfl
      have e574 : (((uI I15 102 (Int32.toNatClampNeg (v1 + 5)) x1) 97 14) : Int32).toInt = (I15 97 14).toInt := Eq.trans (congrArg Int32.toInt (rd_ne (by omega))) rfl
      have e575 : (((uI I15 102 (Int32.toNatClampNeg (v1 + 5)) x1) 97 16) : Int32).toInt = (I15 97 16).toInt := Eq.trans (congrArg Int32.toInt (rd_ne (by omega))) rfl
      have b576 := Bd.o hB563 (show isO 112 97 12 = true from rfl) (show bnd 12 12 = some _ from rfl)
      have b577 := Bd.o hB563 (show isO 112 97 12 = true from rfl) (show bnd 12 14 = some _ from rfl)
      have b578 := Bd.o hB563 (show isO 112 97 12 = true from rfl) (show bnd 12 16 = some _ from rfl)
      have i579 := i32 x560
      have e580 : ((v1 + 1) : Int32).toInt = (v1.toInt) + (1) := ti_add rfl rfl (by omega)
      refine ⟨vp_of (a := (v1.toInt + 1)) e580 (by omega) (by omega), ?_⟩
      have hB581 : Bd (uI I561 102 (Int32.toNatClampNeg (v1 + 1)) x560) := Bd.cnew hB563 (show ((v1 + 1) : Int32).toInt = (v1.toInt + 1) from e580) (show (x560 : Int32).toInt = x560.toInt from rfl) (by omega) (by omega) (by omega) 
      have f582 : Fr (pW v1.toInt) I (uI I561 102 (Int32.toNatClampNeg (v1 + 1)) x560) := Fr.w f568 (show ((v1 + 1) : Int32).toInt = (v1.toInt + 1) from e580) (by omega) (fun j hj hp => by unfold pW at hp; omega)
      refine ⟨fun c583 => ?_, fun c583 => ?_⟩
      · skip
        have e584 : (((uI I561 102 (Int32.toNatClampNeg (v1 + 1)) x560) 97 12) : Int32).toInt = (I561 97 12).toInt := Eq.trans (congrArg Int32.toInt (rd_ne (by omega))) rfl
        have d585 : ((0) : Int) < ((I561 97 12).toInt) := ci_lt rfl e584 c583
        have e586 : (((uI I561 102 (Int32.toNatClampNeg (v1 + 1)) x560) 102 (Int32.toNatClampNeg (v1 + 1))) : Int32).toInt = x560.toInt := Eq.trans (congrArg Int32.toInt rd_eq) rfl
        have fl587 : (((uI I561 102 (Int32.toNatClampNeg (v1 + 1)) x560) 102 (Int32.toNatClampNeg (v1 + 1))) : Int32).toInt = x560.toInt := e586
        have e588 : (((uI I561 102 (Int32.toNatClampNeg (v1 + 1)) x560) 102 (Int32.toNatClampNeg (v1 + 5))) : Int32).toInt = x1.toInt := Eq.trans (congrArg Int32.toInt (Eq.trans (Eq.trans (rd_k (fun z => by have z1 := tn_of (show ((v1 + 5) : Int32).toInt = (v1.toInt + 5) from e34) (by omega); have z2 := tn_of (show ((v1 + 1) : Int32).toInt = (v1.toInt + 1) from e580) (by omega); omega)) (f567.1 (Int32.toNatClampNeg (v1 + 5)) trivial)) rd_eq)) rfl
        have fl589 : (((uI I561 102 (Int32.toNatClampNeg (v1 + 1)) x560) 102 (Int32.toNatClampNeg (v1 + 5))) : Int32).toInt = x1.toInt := e588
        have fl590 : (((uI I561 102 (Int32.toNatClampNeg (v1 + 1)) x560) 97 12) : Int32).toInt = (I561 97 12).toInt := e584
        exact hQ _ _ _ _ hB581 ⟨f582, (PMp.o (PMp.tr (PMp.o (PMp.tr (PMp.tr (PMp.refl I) m10) m23) (by decide)) m569) (by decide)), (fun hz => by have op0 := Or.resolve_left (Hid.o hh566).2.2.2.2 (fun z => by have b := PMp.bad (PMp.o (PMp.refl I561) (by decide)) hz; omega); omega)⟩
      · skip
        have e591 : (((uI I561 102 (Int32.toNatClampNeg (v1 + 1)) x560) 97 12) : Int32).toInt = (I561 97 12).toInt := Eq.trans (congrArg Int32.toInt (rd_ne (by omega))) rfl
        have d592 : (((I561 97 12).toInt) : Int) ≤ (0) := ci_nlt rfl e591 c583
        refine ⟨fun c593 => ?_, fun c593 => ?_⟩
        · skip
          have d594 : ¬ ((x1.toInt) : Int) = (0) := ci_ne rfl rfl c593
          refine ⟨fun c595 => ?_, fun c595 => ?_⟩
          · skip
            have e596 : (((uI I561 102 (Int32.toNatClampNeg (v1 + 1)) x560) 97 14) : Int32).toInt = (I561 97 14).toInt := Eq.trans (congrArg Int32.toInt (rd_ne (by omega))) rfl
            have d597 : ¬ (((I561 97 14).toInt) : Int) = (3) := ci_ne e596 rfl c595
            have e598 : ((v1 + 7) : Int32).toInt = (v1.toInt) + (7) := ti_add rfl rfl (by omega)
            refine ⟨vp_of (a := (v1.toInt + 7)) e598 (by omega) (by omega), ?_⟩
            have hB599 : Bd (uI (uI I561 102 (Int32.toNatClampNeg (v1 + 1)) x560) 102 (Int32.toNatClampNeg (v1 + 7)) 0) := Bd.cnew hB581 (show ((v1 + 7) : Int32).toInt = (v1.toInt + 7) from e598) (show (0 : Int32).toInt = 0 from rfl) (by omega) (by omega) (by omega) 
            have f600 : Fr (pW v1.toInt) I (uI (uI I561 102 (Int32.toNatClampNeg (v1 + 1)) x560) 102 (Int32.toNatClampNeg (v1 + 7)) 0) := Fr.w f582 (show ((v1 + 7) : Int32).toInt = (v1.toInt + 7) from e598) (by omega) (fun j hj hp => by unfold pW at hp; omega)
            refine sp_X12_isSign hB599 hR0 (fun x601 y606 I602 J603 hB604 p605 => ?_)
            intro o607
            have hh608 := Hid.i p605
            clear p605
            have f609 : Fr pT (uI (uI I561 102 (Int32.toNatClampNeg (v1 + 1)) x560) 102 (Int32.toNatClampNeg (v1 + 7)) 0) I602 := (Hid.o hh608).2.2.2.2.1
            have f610 : Fr (pW v1.toInt) I I602 := Fr.tr f600 f609 (fun _ _ => trivial)
            have m611 : PMp (uI (uI I561 102 (Int32.toNatClampNeg (v1 + 1)) x560) 102 (Int32.toNatClampNeg (v1 + 7)) 0) I602 := (PMp.keep (Hid.o hh608).1 (Hid.o hh608).2.2.1 (Hid.o hh608).2.2.2.1)
            have q612 : (60 : Int32).toInt = 60 := rfl
            have e613 : (((uI (uI I561 102 (Int32.toNatClampNeg (v1 + 1)) x560) 102 (Int32.toNatClampNeg (v1 + 7)) 0) 97 14) : Int32).toInt = (I561 97 14).toInt := Eq.trans (congrArg Int32.toInt (Eq.trans (rd_ne (by omega)) (rd_ne (by omega)))) rfl
            have i614 := i32 x601
            refine ⟨fun c615 => ?_, fun c615 => ?_⟩
            · skip
              have d616 : ¬ ((x601.toInt) : Int) = (0) := ci_ne rfl rfl c615
              refine sp_X12_must hB604 hR0 (fun x617 y622 I618 J619 hB620 p621 => ?_)
              have hh623 := Hid.i p621
              clear p621
              have f624 : Fr pT I602 I618 := (Hid.o hh623).2.1
              have f625 : Fr (pW v1.toInt) I I618 := Fr.tr f610 f624 (fun _ _ => trivial)
              have m626 : PMp I602 I618 := (PMp.mk (Hid.o hh623).2.2.1 (Hid.o hh623).2.2.2.1)
              have q627 : (1 : Int32).toInt = 1 := rfl
              have e628 : ((I602 97 12) : Int32).toInt = (I561 97 12).toInt := Eq.trans (congrArg Int32.toInt (Eq.trans (Eq.trans (Hid.o hh608).1 (rd_ne (by omega))) (rd_ne (by omega)))) rfl
              have e629 : ((I602 97 14) : Int32).toInt = (I561 97 14).toInt := Eq.trans (congrArg Int32.toInt (Eq.trans (Eq.trans (Hid.o hh608).2.2.1 (rd_ne (by omega))) (rd_ne (by omega)))) rfl
              have e630 : ((I602 97 16) : Int32).toInt = (I561 97 16).toInt := Eq.trans (congrArg Int32.toInt (Eq.trans (Eq.trans (Hid.o hh608).2.2.2.1 (rd_ne (by omega))) (rd_ne (by omega)))) rfl
              have b631 := Bd.o hB620 (show isO 112 97 12 = true from rfl) (show bnd 12 12 = some _ from rfl)
              have b632 := Bd.o hB620 (show isO 112 97 12 = true from rfl) (show bnd 12 14 = some _ from rfl)
              have b633 := Bd.o hB620 (show isO 112 97 12 = true from rfl) (show bnd 12 16 = some _ from rfl)
              refine sp_X12_count hB620 hR0 (fun x634 y639 I635 J636 hB637 p638 => ?_)
              have hh640 := Hid.i p638
              clear p638
              have f641 : Fr pT I618 I635 := (Hid.o hh640).2.1
              have f642 : Fr (pW v1.toInt) I I635 := Fr.tr f625 f641 (fun _ _ => trivial)
              have m643 : PMp I618 I635 := (PMp.mk (Hid.o hh640).2.2.1 (Hid.o hh640).2.2.2.1)
              have wr644 := Or.imp (fun z => z.2) (fun z => And.intro z.1 z.2.1) (Hid.o hh640).2.2.2.2
              have q645 : (0 : Int32).toInt = 0 := rfl
              have q646 : (99 : Int32).toInt = 99 := rfl
              have b647 := Bd.o hB637 (show isO 112 97 12 = true from rfl) (show bnd 12 12 = some _ from rfl)
              have b648 := Bd.o hB637 (show isO 112 97 12 = true from rfl) (show bnd 12 14 = some _ from rfl)
              have b649 := Bd.o hB637 (show isO 112 97 12 = true from rfl) (show bnd 12 16 = some _ from rfl)
              have i650 := i32 x634
              have e651 : ((v1 + 6) : Int32).toInt = (v1.toInt) + (6) := ti_add rfl rfl (by omega)
              refine ⟨vp_of (a := (v1.toInt + 6)) e651 (by omega) (by omega), ?_⟩
              have hB652 : Bd (uI I635 102 (Int32.toNatClampNeg (v1 + 6)) x634) := Bd.cnew hB637 (show ((v1 + 6) : Int32).toInt = (v1.toInt + 6) from e651) (show (x634 : Int32).toInt = x634.toInt from rfl) (by omega) (by omega) (by omega) 
              have f653 : Fr (pW v1.toInt) I (uI I635 102 (Int32.toNatClampNeg (v1 + 6)) x634) := Fr.w f642 (show ((v1 + 6) : Int32).toInt = (v1.toInt + 6) from e651) (by omega) (fun j hj hp => by unfold pW at hp; omega)
              have e654 : (((uI I635 102 (Int32.toNatClampNeg (v1 + 6)) x634) 102 (Int32.toNatClampNeg (v1 + 1))) : Int32).toInt = x560.toInt := Eq.trans (congrArg Int32.toInt (Eq.trans (Eq.trans (Eq.trans (Eq.trans (Eq.trans (rd_k (fun z => by have z1 := tn_of (show ((v1 + 1) : Int32).toInt = (v1.toInt + 1) from e580) (by omega); have z2 := tn_of (show ((v1 + 6) : Int32).toInt = (v1.toInt + 6) from e651) (by omega); omega)) (f641.1 (Int32.toNatClampNeg (v1 + 1)) trivial)) (f624.1 (Int32.toNatClampNeg (v1 + 1)) trivial)) (f609.1 (Int32.toNatClampNeg (v1 + 1)) trivial)) (rd_k (fun z => by have z1 := tn_of (show ((v1 + 1) : Int32).toInt = (v1.toInt + 1) from e580) (by omega); have z2 := tn_of (show ((v1 + 7) : Int32).toInt = (v1.toInt + 7) from e598) (by omega); omega))) rd_eq)) rfl
              have fl655 : (((uI I635 102 (Int32.toNatClampNeg (v1 + 6)) x634) 102 (Int32.toNatClampNeg (v1 + 1))) : Int32).toInt = x560.toInt := e654
              have e656 : (((uI I635 102 (Int32.toNatClampNeg (v1 + 6)) x634) 102 (Int32.toNatClampNeg (v1 + 5))) : Int32).toInt = x1.toInt := Eq.trans (congrArg Int32.toInt (Eq.trans (Eq.trans (Eq.trans (Eq.trans (Eq.trans (Eq.trans (Eq.trans (rd_k (fun z => by have z1 := tn_of (show ((v1 + 5) : Int32).toInt = (v1.toInt + 5) from e34) (by omega); have z2 := tn_of (show ((v1 + 6) : Int32).toInt = (v1.toInt + 6) from e651) (by omega); omega)) (f641.1 (Int32.toNatClampNeg (v1 + 5)) trivial)) (f624.1 (Int32.toNatClampNeg (v1 + 5)) trivial)) (f609.1 (Int32.toNatClampNeg (v1 + 5)) trivial)) (rd_k (fun z => by have z1 := tn_of (show ((v1 + 5) : Int32).toInt = (v1.toInt + 5) from e34) (by omega); have z2 := tn_of (show ((v1 + 7) : Int32).toInt = (v1.toInt + 7) from e598) (by omega); omega))) (rd_k (fun z => by have z1 := tn_of (show ((v1 + 5) : Int32).toInt = (v1.toInt + 5) from e34) (by omega); have z2 := tn_of (show ((v1 + 1) : Int32).toInt = (v1.toInt + 1) from e580) (by omega); omega))) (f567.1 (Int32.toNatClampNeg (v1 + 5)) trivial)) rd_eq)) rfl
              have fl657 : (((uI I635 102 (Int32.toNatClampNeg (v1 + 6)) x634) 102 (Int32.toNatClampNeg (v1 + 5))) : Int32).toInt = x1.toInt := e656
              have e658 : (((uI I635 102 (Int32.toNatClampNeg (v1 + 6)) x634) 97 12) : Int32).toInt = (I635 97 12).toInt := Eq.trans (congrArg Int32.toInt (rd_ne (by omega))) rfl
              have fl659 : (((uI I635 102 (Int32.toNatClampNeg (v1 + 6)) x634) 97 12) : Int32).toInt = (I635 97 12).toInt := e658
              exact hQ _ _ _ _ hB652 ⟨f653, (PMp.o (PMp.tr (PMp.tr (PMp.tr (PMp.o (PMp.o (PMp.tr (PMp.o (PMp.tr (PMp.tr (PMp.refl I) m10) m23) (by decide)) m569) (by decide)) (by decide)) m611) m626) m643) (by decide)), (fun hz => by have op0 := Or.resolve_left (Hid.o hh566).2.2.2.2 (fun z => by have b := PMp.bad (PMp.o (PMp.tr (PMp.tr (PMp.tr (PMp.o (PMp.o (PMp.refl I561) (by decide)) (by decide)) m611) m626) m643) (by decide)) hz; omega); have op1 := Or.resolve_left (Hid.o hh640).2.2.2.2 (fun z => by have b := PMp.bad (PMp.o (PMp.refl I635) (by decide)) hz; omega); omega)⟩
            · skip
              have d660 : ((x601.toInt) : Int) = (0) := ci_eq rfl rfl c615
              refine sp_X12_isSign hB604 hR0 (fun x661 y666 I662 J663 hB664 p665 => ?_)
              intro o667
              have hh668 := Hid.i p665
              clear p665
              have f669 : Fr pT I602 I662 := (Hid.o hh668).2.2.2.2.1
              have f670 : Fr (pW v1.toInt) I I662 := Fr.tr f610 f669 (fun _ _ => trivial)
              have m671 : PMp I602 I662 := (PMp.keep (Hid.o hh668).1 (Hid.o hh668).2.2.1 (Hid.o hh668).2.2.2.1)
              have q672 : (62 : Int32).toInt = 62 := rfl
              have e673 : ((I602 97 14) : Int32).toInt = (I561 97 14).toInt := Eq.trans (congrArg Int32.toInt (Eq.trans (Eq.trans (Hid.o hh608).2.2.1 (rd_ne (by omega))) (rd_ne (by omega)))) rfl
              have i674 := i32 x661
              refine ⟨fun c675 => ?_, fun c675 => ?_⟩
              · skip
                have d676 : ¬ ((x661.toInt) : Int) = (0) := ci_ne rfl rfl c675
                refine sp_X12_must hB664 hR0 (fun x677 y682 I678 J679 hB680 p681 => ?_)
                have hh683 := Hid.i p681
                clear p681
                have f684 : Fr pT I662 I678 := (Hid.o hh683).2.1
                have f685 : Fr (pW v1.toInt) I I678 := Fr.tr f670 f684 (fun _ _ => trivial)
                have m686 : PMp I662 I678 := (PMp.mk (Hid.o hh683).2.2.1 (Hid.o hh683).2.2.2.1)
                have q687 : (1 : Int32).toInt = 1 := rfl
                have e688 : ((I662 97 12) : Int32).toInt = (I561 97 12).toInt := Eq.trans (congrArg Int32.toInt (Eq.trans (Eq.trans (Eq.trans (Hid.o hh668).1 (Hid.o hh608).1) (rd_ne (by omega))) (rd_ne (by omega)))) rfl
                have e689 : ((I662 97 14) : Int32).toInt = (I561 97 14).toInt := Eq.trans (congrArg Int32.toInt (Eq.trans (Eq.trans (Eq.trans (Hid.o hh668).2.2.1 (Hid.o hh608).2.2.1) (rd_ne (by omega))) (rd_ne (by omega)))) rfl
                have e690 : ((I662 97 16) : Int32).toInt = (I561 97 16).toInt := Eq.trans (congrArg Int32.toInt (Eq.trans (Eq.trans (Eq.trans (Hid.o hh668).2.2.2.1 (Hid.o hh608).2.2.2.1) (rd_ne (by omega))) (rd_ne (by omega)))) rfl
                have b691 := Bd.o hB680 (show isO 112 97 12 = true from rfl) (show bnd 12 12 = some _ from rfl)
                have b692 := Bd.o hB680 (show isO 112 97 12 = true from rfl) (show bnd 12 14 = some _ from rfl)
                have b693 := Bd.o hB680 (show isO 112 97 12 = true from rfl) (show bnd 12 16 = some _ from rfl)
                refine sp_X12_count hB680 hR0 (fun x694 y699 I695 J696 hB697 p698 => ?_)
                have hh700 := Hid.i p698
                clear p698
                have f701 : Fr pT I678 I695 := (Hid.o hh700).2.1
                have f702 : Fr (pW v1.toInt) I I695 := Fr.tr f685 f701 (fun _ _ => trivial)
                have m703 : PMp I678 I695 := (PMp.mk (Hid.o hh700).2.2.1 (Hid.o hh700).2.2.2.1)
                have wr704 := Or.imp (fun z => z.2) (fun z => And.intro z.1 z.2.1) (Hid.o hh700).2.2.2.2
                have q705 : (0 : Int32).toInt = 0 := rfl
                have q706 : (99 : Int32).toInt = 99 := rfl
                have b707 := Bd.o hB697 (show isO 112 97 12 = true from rfl) (show bnd 12 12 = some _ from rfl)
                have b708 := Bd.o hB697 (show isO 112 97 12 = true from rfl) (show bnd 12 14 = some _ from rfl)
                have b709 := Bd.o hB697 (show isO 112 97 12 = true from rfl) (show bnd 12 16 = some _ from rfl)
                have i710 := i32 x694
                have e711 : ((v1 + 6) : Int32).toInt = (v1.toInt) + (6) := ti_add rfl rfl (by omega)
                refine ⟨vp_of (a := (v1.toInt + 6)) e711 (by omega) (by omega), ?_⟩
                have hB712 : Bd (uI I695 102 (Int32.toNatClampNeg (v1 + 6)) x694) := Bd.cnew hB697 (show ((v1 + 6) : Int32).toInt = (v1.toInt + 6) from e711) (show (x694 : Int32).toInt = x694.toInt from rfl) (by omega) (by omega) (by omega) 
                have f713 : Fr (pW v1.toInt) I (uI I695 102 (Int32.toNatClampNeg (v1 + 6)) x694) := Fr.w f702 (show ((v1 + 6) : Int32).toInt = (v1.toInt + 6) from e711) (by omega) (fun j hj hp => by unfold pW at hp; omega)
                have e714 : (((uI I695 102 (Int32.toNatClampNeg (v1 + 6)) x694) 102 (Int32.toNatClampNeg (v1 + 1))) : Int32).toInt = x560.toInt := Eq.trans (congrArg Int32.toInt (Eq.trans (Eq.trans (Eq.trans (Eq.trans (Eq.trans (Eq.trans (rd_k (fun z => by have z1 := tn_of (show ((v1 + 1) : Int32).toInt = (v1.toInt + 1) from e580) (by omega); have z2 := tn_of (show ((v1 + 6) : Int32).toInt = (v1.toInt + 6) from e711) (by omega); omega)) (f701.1 (Int32.toNatClampNeg (v1 + 1)) trivial)) (f684.1 (Int32.toNatClampNeg (v1 + 1)) trivial)) (f669.1 (Int32.toNatClampNeg (v1 + 1)) trivial)) (f609.1 (Int32.toNatClampNeg (v1 + 1)) trivial)) (rd_k (fun z => by have z1 := tn_of (show ((v1 + 1) : Int32).toInt = (v1.toInt + 1) from e580) (by omega); have z2 := tn_of (show ((v1 + 7) : Int32).toInt = (v1.toInt + 7) from e598) (by omega); omega))) rd_eq)) rfl
                have fl715 : (((uI I695 102 (Int32.toNatClampNeg (v1 + 6)) x694) 102 (Int32.toNatClampNeg (v1 + 1))) : Int32).toInt = x560.toInt := e714
                have e716 : (((uI I695 102 (Int32.toNatClampNeg (v1 + 6)) x694) 102 (Int32.toNatClampNeg (v1 + 5))) : Int32).toInt = x1.toInt := Eq.trans (congrArg Int32.toInt (Eq.trans (Eq.trans (Eq.trans (Eq.trans (Eq.trans (Eq.trans (Eq.trans (Eq.trans (rd_k (fun z => by have z1 := tn_of (show ((v1 + 5) : Int32).toInt = (v1.toInt + 5) from e34) (by omega); have z2 := tn_of (show ((v1 + 6) : Int32).toInt = (v1.toInt + 6) from e711) (by omega); omega)) (f701.1 (Int32.toNatClampNeg (v1 + 5)) trivial)) (f684.1 (Int32.toNatClampNeg (v1 + 5)) trivial)) (f669.1 (Int32.toNatClampNeg (v1 + 5)) trivial)) (f609.1 (Int32.toNatClampNeg (v1 + 5)) trivial)) (rd_k (fun z => by have z1 := tn_of (show ((v1 + 5) : Int32).toInt = (v1.toInt + 5) from e34) (by omega); have z2 := tn_of (show ((v1 + 7) : Int32).toInt = (v1.toInt + 7) from e598) (by omega); omega))) (rd_k (fun z => by have z1 := tn_of (show ((v1 + 5) : Int32).toInt = (v1.toInt + 5) from e34) (by omega); have z2 := tn_of (show ((v1 + 1) : Int32).toInt = (v1.toInt + 1) from e580) (by omega); omega))) (f567.1 (Int32.toNatClampNeg (v1 + 5)) trivial)) rd_eq)) rfl
                have fl717 : (((uI I695 102 (Int32.toNatClampNeg (v1 + 6)) x694) 102 (Int32.toNatClampNeg (v1 + 5))) : Int32).toInt = x1.toInt := e716
                have e718 : (((uI I695 102 (Int32.toNatClampNeg (v1 + 6)) x694) 97 12) : Int32).toInt = (I695 97 12).toInt := Eq.trans (congrArg Int32.toInt (rd_ne (by omega))) rfl
                have fl719 : (((uI I695 102 (Int32.toNatClampNeg (v1 + 6)) x694) 97 12) : Int32).toInt = (I695 97 12).toInt := e718
                exact hQ _ _ _ _ hB712 ⟨f713, (PMp.o (PMp.tr (PMp.tr (PMp.tr (PMp.tr (PMp.o (PMp.o (PMp.tr (PMp.o (PMp.tr (PMp.tr (PMp.refl I) m10) m23) (by decide)) m569) (by decide)) (by decide)) m611) m671) m686) m703) (by decide)), (fun hz => by have op0 := Or.resolve_left (Hid.o hh566).2.2.2.2 (fun z => by have b := PMp.bad (PMp.o (PMp.tr (PMp.tr (PMp.tr (PMp.tr (PMp.o (PMp.o (PMp.refl I561) (by decide)) (by decide)) m611) m671) m686) m703) (by decide)) hz; omega); have op1 := Or.resolve_left (Hid.o hh700).2.2.2.2 (fun z => by have b := PMp.bad (PMp.o (PMp.refl I695) (by decide)) hz; omega); omega)⟩
              · skip
                have d720 : ((x661.toInt) : Int) = (0) := ci_eq rfl rfl c675
                refine sp_X12_isSign hB664 hR0 (fun x721 y726 I722 J723 hB724 p725 => ?_)
                intro o727
                have hh728 := Hid.i p725
                clear p725
                have f729 : Fr pT I662 I722 := (Hid.o hh728).2.2.2.2.1
                have f730 : Fr (pW v1.toInt) I I722 := Fr.tr f670 f729 (fun _ _ => trivial)
                have m731 : PMp I662 I722 := (PMp.keep (Hid.o hh728).1 (Hid.o hh728).2.2.1 (Hid.o hh728).2.2.2.1)
                have q732 : (61 : Int32).toInt = 61 := rfl
                have e733 : ((I662 97 14) : Int32).toInt = (I561 97 14).toInt := Eq.trans (congrArg Int32.toInt (Eq.trans (Eq.trans (Eq.trans (Hid.o hh668).2.2.1 (Hid.o hh608).2.2.1) (rd_ne (by omega))) (rd_ne (by omega)))) rfl
                have i734 := i32 x721
                refine ⟨fun c735 => ?_, fun c735 => ?_⟩
                · skip
                  have d736 : ((x721.toInt) : Int) = (0) := ci_eq rfl rfl c735
                  refine sp_X12_must hB724 hR0 (fun x737 y742 I738 J739 hB740 p741 => ?_)
                  have hh743 := Hid.i p741
                  clear p741
                  have f744 : Fr pT I722 I738 := (Hid.o hh743).2.1
                  have f745 : Fr (pW v1.toInt) I I738 := Fr.tr f730 f744 (fun _ _ => trivial)
                  have m746 : PMp I722 I738 := (PMp.mk (Hid.o hh743).2.2.1 (Hid.o hh743).2.2.2.1)
                  have q747 : (0 : Int32).toInt = 0 := rfl
                  have e748 : ((I722 97 12) : Int32).toInt = (I561 97 12).toInt := Eq.trans (congrArg Int32.toInt (Eq.trans (Eq.trans (Eq.trans (Eq.trans (Hid.o hh728).1 (Hid.o hh668).1) (Hid.o hh608).1) (rd_ne (by omega))) (rd_ne (by omega)))) rfl
                  have e749 : ((I722 97 14) : Int32).toInt = (I561 97 14).toInt := Eq.trans (congrArg Int32.toInt (Eq.trans (Eq.trans (Eq.trans (Eq.trans (Hid.o hh728).2.2.1 (Hid.o hh668).2.2.1) (Hid.o hh608).2.2.1) (rd_ne (by omega))) (rd_ne (by omega)))) rfl
                  have e750 : ((I722 97 16) : Int32).toInt = (I561 97 16).toInt := Eq.trans (congrArg Int32.toInt (Eq.trans (Eq.trans (Eq.trans (Eq.trans (Hid.o hh728).2.2.2.1 (Hid.o hh668).2.2.2.1) (Hid.o hh608).2.2.2.1) (rd_ne (by omega))) (rd_ne (by omega)))) rfl
                  have b751 := Bd.o hB740 (show isO 112 97 12 = true from rfl) (show bnd 12 12 = some _ from rfl)
                  have b752 := Bd.o hB740 (show isO 112 97 12 = true from rfl) (show bnd 12 14 = some _ from rfl)
                  have b753 := Bd.o hB740 (show isO 112 97 12 = true from rfl) (show bnd 12 16 = some _ from rfl)
                  refine sp_X12_count hB740 hR0 (fun x754 y759 I755 J756 hB757 p758 => ?_)
                  have hh760 := Hid.i p758
                  clear p758
                  have f761 : Fr pT I738 I755 := (Hid.o hh760).2.1
                  have f762 : Fr (pW v1.toInt) I I755 := Fr.tr f745 f761 (fun _ _ => trivial)
                  have m763 : PMp I738 I755 := (PMp.mk (Hid.o hh760).2.2.1 (Hid.o hh760).2.2.2.1)
                  have wr764 := Or.imp (fun z => z.2) (fun z => And.intro z.1 z.2.1) (Hid.o hh760).2.2.2.2
                  have q765 : (0 : Int32).toInt = 0 := rfl
                  have q766 : (99 : Int32).toInt = 99 := rfl
                  have b767 := Bd.o hB757 (show isO 112 97 12 = true from rfl) (show bnd 12 12 = some _ from rfl)
                  have b768 := Bd.o hB757 (show isO 112 97 12 = true from rfl) (show bnd 12 14 = some _ from rfl)
                  have b769 := Bd.o hB757 (show isO 112 97 12 = true from rfl) (show bnd 12 16 = some _ from rfl)
                  have i770 := i32 x754
                  have e771 : ((v1 + 6) : Int32).toInt = (v1.toInt) + (6) := ti_add rfl rfl (by omega)
                  refine ⟨vp_of (a := (v1.toInt + 6)) e771 (by omega) (by omega), ?_⟩
                  have hB772 : Bd (uI I755 102 (Int32.toNatClampNeg (v1 + 6)) x754) := Bd.cnew hB757 (show ((v1 + 6) : Int32).toInt = (v1.toInt + 6) from e771) (show (x754 : Int32).toInt = x754.toInt from rfl) (by omega) (by omega) (by omega) 
                  have f773 : Fr (pW v1.toInt) I (uI I755 102 (Int32.toNatClampNeg (v1 + 6)) x754) := Fr.w f762 (show ((v1 + 6) : Int32).toInt = (v1.toInt + 6) from e771) (by omega) (fun j hj hp => by unfold pW at hp; omega)
                  have e774 : (((uI I755 102 (Int32.toNatClampNeg (v1 + 6)) x754) 102 (Int32.toNatClampNeg (v1 + 1))) : Int32).toInt = x560.toInt := Eq.trans (congrArg Int32.toInt (Eq.trans (Eq.trans (Eq.trans (Eq.trans (Eq.trans (Eq.trans (Eq.trans (rd_k (fun z => by have z1 := tn_of (show ((v1 + 1) : Int32).toInt = (v1.toInt + 1) from e580) (by omega); have z2 := tn_of (show ((v1 + 6) : Int32).toInt = (v1.toInt + 6) from e771) (by omega); omega)) (f761.1 (Int32.toNatClampNeg (v1 + 1)) trivial)) (f744.1 (Int32.toNatClampNeg (v1 + 1)) trivial)) (f729.1 (Int32.toNatClampNeg (v1 + 1)) trivial)) (f669.1 (Int32.toNatClampNeg (v1 + 1)) trivial)) (f609.1 (Int32.toNatClampNeg (v1 + 1)) trivial)) (rd_k (fun z => by have z1 := tn_of (show ((v1 + 1) : Int32).toInt = (v1.toInt + 1) from e580) (by omega); have z2 := tn_of (show ((v1 + 7) : Int32).toInt = (v1.toInt + 7) from e598) (by omega); omega))) rd_eq)) rfl
                  have fl775 : (((uI I755 102 (Int32.toNatClampNeg (v1 + 6)) x754) 102 (Int32.toNatClampNeg (v1 + 1))) : Int32).toInt = x560.toInt := e774
                  have e776 : (((uI I755 102 (Int32.toNatClampNeg (v1 + 6)) x754) 102 (Int32.toNatClampNeg (v1 + 5))) : Int32).toInt = x1.toInt := Eq.trans (congrArg Int32.toInt (Eq.trans (Eq.trans (Eq.trans (Eq.trans (Eq.trans (Eq.trans (Eq.trans (Eq.trans (Eq.trans (rd_k (fun z => by have z1 := tn_of (show ((v1 + 5) : Int32).toInt = (v1.toInt + 5) from e34) (by omega); have z2 := tn_of (show ((v1 + 6) : Int32).toInt = (v1.toInt + 6) from e771) (by omega); omega)) (f761.1 (Int32.toNatClampNeg (v1 + 5)) trivial)) (f744.1 (Int32.toNatClampNeg (v1 + 5)) trivial)) (f729.1 (Int32.toNatClampNeg (v1 + 5)) trivial)) (f669.1 (Int32.toNatClampNeg (v1 + 5)) trivial)) (f609.1 (Int32.toNatClampNeg (v1 + 5)) trivial)) (rd_k (fun z => by have z1 := tn_of (show ((v1 + 5) : Int32).toInt = (v1.toInt + 5) from e34) (by omega); have z2 := tn_of (show ((v1 + 7) : Int32).toInt = (v1.toInt + 7) from e598) (by omega); omega))) (rd_k (fun z => by have z1 := tn_of (show ((v1 + 5) : Int32).toInt = (v1.toInt + 5) from e34) (by omega); have z2 := tn_of (show ((v1 + 1) : Int32).toInt = (v1.toInt + 1) from e580) (by omega); omega))) (f567.1 (Int32.toNatClampNeg (v1 + 5)) trivial)) rd_eq)) rfl
                  have fl777 : (((uI I755 102 (Int32.toNatClampNeg (v1 + 6)) x754) 102 (Int32.toNatClampNeg (v1 + 5))) : Int32).toInt = x1.toInt := e776
                  have e778 : (((uI I755 102 (Int32.toNatClampNeg (v1 + 6)) x754) 97 12) : Int32).toInt = (I755 97 12).toInt := Eq.trans (congrArg Int32.toInt (rd_ne (by omega))) rfl
                  have fl779 : (((uI I755 102 (Int32.toNatClampNeg (v1 + 6)) x754) 97 12) : Int32).toInt = (I755 97 12).toInt := e778
                  exact hQ _ _ _ _ hB772 ⟨f773, (PMp.o (PMp.tr (PMp.tr (PMp.tr (PMp.tr (PMp.tr (PMp.o (PMp.o (PMp.tr (PMp.o (PMp.tr (PMp.tr (PMp.refl I) m10) m23) (by decide)) m569) (by decide)) (by decide)) m611) m671) m731) m746) m763) (by decide)), (fun hz => by have op0 := Or.resolve_left (Hid.o hh566).2.2.2.2 (fun z => by have b := PMp.bad (PMp.o (PMp.tr (PMp.tr (PMp.tr (PMp.tr (PMp.tr (PMp.o (PMp.o (PMp.refl I561) (by decide)) (by decide)) m611) m671) m731) m746) m763) (by decide)) hz; omega); have op1 := Or.resolve_left (Hid.o hh760).2.2.2.2 (fun z => by have b := PMp.bad (PMp.o (PMp.refl I755) (by decide)) hz; omega); omega)⟩
                · skip
                  have d780 : ¬ ((x721.toInt) : Int) = (0) := ci_ne rfl rfl c735
                  refine sp_X12_must hB724 hR0 (fun x781 y786 I782 J783 hB784 p785 => ?_)
                  have hh787 := Hid.i p785
                  clear p785
                  have f788 : Fr pT I722 I782 := (Hid.o hh787).2.1
                  have f789 : Fr (pW v1.toInt) I I782 := Fr.tr f730 f788 (fun _ _ => trivial)
                  have m790 : PMp I722 I782 := (PMp.mk (Hid.o hh787).2.2.1 (Hid.o hh787).2.2.2.1)
                  have q791 : (1 : Int32).toInt = 1 := rfl
                  have e792 : ((I722 97 12) : Int32).toInt = (I561 97 12).toInt := Eq.trans (congrArg Int32.toInt (Eq.trans (Eq.trans (Eq.trans (Eq.trans (Hid.o hh728).1 (Hid.o hh668).1) (Hid.o hh608).1) (rd_ne (by omega))) (rd_ne (by omega)))) rfl
                  have e793 : ((I722 97 14) : Int32).toInt = (I561 97 14).toInt := Eq.trans (congrArg Int32.toInt (Eq.trans (Eq.trans (Eq.trans (Eq.trans (Hid.o hh728).2.2.1 (Hid.o hh668).2.2.1) (Hid.o hh608).2.2.1) (rd_ne (by omega))) (rd_ne (by omega)))) rfl
                  have e794 : ((I722 97 16) : Int32).toInt = (I561 97 16).toInt := Eq.trans (congrArg Int32.toInt (Eq.trans (Eq.trans (Eq.trans (Eq.trans (Hid.o hh728).2.2.2.1 (Hid.o hh668).2.2.2.1) (Hid.o hh608).2.2.2.1) (rd_ne (by omega))) (rd_ne (by omega)))) rfl
                  have b795 := Bd.o hB784 (show isO 112 97 12 = true from rfl) (show bnd 12 12 = some _ from rfl)
                  have b796 := Bd.o hB784 (show isO 112 97 12 = true from rfl) (show bnd 12 14 = some _ from rfl)
                  have b797 := Bd.o hB784 (show isO 112 97 12 = true from rfl) (show bnd 12 16 = some _ from rfl)
                  refine sp_X12_count hB784 hR0 (fun x798 y803 I799 J800 hB801 p802 => ?_)
                  have hh804 := Hid.i p802
                  clear p802
                  have f805 : Fr pT I782 I799 := (Hid.o hh804).2.1
                  have f806 : Fr (pW v1.toInt) I I799 := Fr.tr f789 f805 (fun _ _ => trivial)
                  have m807 : PMp I782 I799 := (PMp.mk (Hid.o hh804).2.2.1 (Hid.o hh804).2.2.2.1)
                  have wr808 := Or.imp (fun z => z.2) (fun z => And.intro z.1 z.2.1) (Hid.o hh804).2.2.2.2
                  have q809 : (0 : Int32).toInt = 0 := rfl
                  have q810 : (99 : Int32).toInt = 99 := rfl
                  have b811 := Bd.o hB801 (show isO 112 97 12 = true from rfl) (show bnd 12 12 = some _ from rfl)
                  have b812 := Bd.o hB801 (show isO 112 97 12 = true from rfl) (show bnd 12 14 = some _ from rfl)
                  have b813 := Bd.o hB801 (show isO 112 97 12 = true from rfl) (show bnd 12 16 = some _ from rfl)
                  have i814 := i32 x798
                  have e815 : ((v1 + 6) : Int32).toInt = (v1.toInt) + (6) := ti_add rfl rfl (by omega)
                  refine ⟨vp_of (a := (v1.toInt + 6)) e815 (by omega) (by omega), ?_⟩
                  have hB816 : Bd (uI I799 102 (Int32.toNatClampNeg (v1 + 6)) x798) := Bd.cnew hB801 (show ((v1 + 6) : Int32).toInt = (v1.toInt + 6) from e815) (show (x798 : Int32).toInt = x798.toInt from rfl) (by omega) (by omega) (by omega) 
                  have f817 : Fr (pW v1.toInt) I (uI I799 102 (Int32.toNatClampNeg (v1 + 6)) x798) := Fr.w f806 (show ((v1 + 6) : Int32).toInt = (v1.toInt + 6) from e815) (by omega) (fun j hj hp => by unfold pW at hp; omega)
                  have e818 : (((uI I799 102 (Int32.toNatClampNeg (v1 + 6)) x798) 102 (Int32.toNatClampNeg (v1 + 1))) : Int32).toInt = x560.toInt := Eq.trans (congrArg Int32.toInt (Eq.trans (Eq.trans (Eq.trans (Eq.trans (Eq.trans (Eq.trans (Eq.trans (rd_k (fun z => by have z1 := tn_of (show ((v1 + 1) : Int32).toInt = (v1.toInt + 1) from e580) (by omega); have z2 := tn_of (show ((v1 + 6) : Int32).toInt = (v1.toInt + 6) from e815) (by omega); omega)) (f805.1 (Int32.toNatClampNeg (v1 + 1)) trivial)) (f788.1 (Int32.toNatClampNeg (v1 + 1)) trivial)) (f729.1 (Int32.toNatClampNeg (v1 + 1)) trivial)) (f669.1 (Int32.toNatClampNeg (v1 + 1)) trivial)) (f609.1 (Int32.toNatClampNeg (v1 + 1)) trivial)) (rd_k (fun z => by have z1 := tn_of (show ((v1 + 1) : Int32).toInt = (v1.toInt + 1) from e580) (by omega); have z2 := tn_of (show ((v1 + 7) : Int32).toInt = (v1.toInt + 7) from e598) (by omega); omega))) rd_eq)) rfl
                  have fl819 : (((uI I799 102 (Int32.toNatClampNeg (v1 + 6)) x798) 102 (Int32.toNatClampNeg (v1 + 1))) : Int32).toInt = x560.toInt := e818
                  have e820 : (((uI I799 102 (Int32.toNatClampNeg (v1 + 6)) x798) 102 (Int32.toNatClampNeg (v1 + 5))) : Int32).toInt = x1.toInt := Eq.trans (congrArg Int32.toInt (Eq.trans (Eq.trans (Eq.trans (Eq.trans (Eq.trans (Eq.trans (Eq.trans (Eq.trans (Eq.trans (rd_k (fun z => by have z1 := tn_of (show ((v1 + 5) : Int32).toInt = (v1.toInt + 5) from e34) (by omega); have z2 := tn_of (show ((v1 + 6) : Int32).toInt = (v1.toInt + 6) from e815) (by omega); omega)) (f805.1 (Int32.toNatClampNeg (v1 + 5)) trivial)) (f788.1 (Int32.toNatClampNeg (v1 + 5)) trivial)) (f729.1 (Int32.toNatClampNeg (v1 + 5)) trivial)) (f669.1 (Int32.toNatClampNeg (v1 + 5)) trivial)) (f609.1 (Int32.toNatClampNeg (v1 + 5)) trivial)) (rd_k (fun z => by have z1 := tn_of (show ((v1 + 5) : Int32).toInt = (v1.toInt + 5) from e34) (by omega); have z2 := tn_of (show ((v1 + 7) : Int32).toInt = (v1.toInt + 7) from e598) (by omega); omega))) (rd_k (fun z => by have z1 := tn_of (show ((v1 + 5) : Int32).toInt = (v1.toInt + 5) from e34) (by omega); have z2 := tn_of (show ((v1 + 1) : Int32).toInt = (v1.toInt + 1) from e580) (by omega); omega))) (f567.1 (Int32.toNatClampNeg (v1 + 5)) trivial)) rd_eq)) rfl
                  have fl821 : (((uI I799 102 (Int32.toNatClampNeg (v1 + 6)) x798) 102 (Int32.toNatClampNeg (v1 + 5))) : Int32).toInt = x1.toInt := e820
                  have e822 : (((uI I799 102 (Int32.toNatClampNeg (v1 + 6)) x798) 97 12) : Int32).toInt = (I799 97 12).toInt := Eq.trans (congrArg Int32.toInt (rd_ne (by omega))) rfl
                  have fl823 : (((uI I799 102 (Int32.toNatClampNeg (v1 + 6)) x798) 97 12) : Int32).toInt = (I799 97 12).toInt := e822
                  exact hQ _ _ _ _ hB816 ⟨f817, (PMp.o (PMp.tr (PMp.tr (PMp.tr (PMp.tr (PMp.tr (PMp.o (PMp.o (PMp.tr (PMp.o (PMp.tr (PMp.tr (PMp.refl I) m10) m23) (by decide)) m569) (by decide)) (by decide)) m611) m671) m731) m790) m807) (by decide)), (fun hz => by have op0 := Or.resolve_left (Hid.o hh566).2.2.2.2 (fun z => by have b := PMp.bad (PMp.o (PMp.tr (PMp.tr (PMp.tr (PMp.tr (PMp.tr (PMp.o (PMp.o (PMp.refl I561) (by decide)) (by decide)) m611) m671) m731) m790) m807) (by decide)) hz; omega); have op1 := Or.resolve_left (Hid.o hh804).2.2.2.2 (fun z => by have b := PMp.bad (PMp.o (PMp.refl I799) (by decide)) hz; omega); omega)⟩
          · skip
            have e824 : (((uI I561 102 (Int32.toNatClampNeg (v1 + 1)) x560) 97 14) : Int32).toInt = (I561 97 14).toInt := Eq.trans (congrArg Int32.toInt (rd_ne (by omega))) rfl
            have d825 : (((I561 97 14).toInt) : Int) = (3) := ci_eq e824 rfl c595
            have e826 : ((v1 + 7) : Int32).toInt = (v1.toInt) + (7) := ti_add rfl rfl (by omega)
            refine ⟨vp_of (a := (v1.toInt + 7)) e826 (by omega) (by omega), ?_⟩
            have e828 : (((uI I561 102 (Int32.toNatClampNeg (v1 + 1)) x560) 97 17) : Int32).toInt = (I561 97 17).toInt := Eq.trans (congrArg Int32.toInt (rd_ne (by omega))) rfl
            have hB827 : Bd (uI (uI I561 102 (Int32.toNatClampNeg (v1 + 1)) x560) 102 (Int32.toNatClampNeg (v1 + 7)) ((uI I561 102 (Int32.toNatClampNeg (v1 + 1)) x560) 97 17)) := Bd.cnew hB581 (show ((v1 + 7) : Int32).toInt = (v1.toInt + 7) from e826) (show (((uI I561 102 (Int32.toNatClampNeg (v1 + 1)) x560) 97 17) : Int32).toInt = (I561 97 17).toInt from e828) (by omega) (by omega) (by omega) 
            have f829 : Fr (pW v1.toInt) I (uI (uI I561 102 (Int32.toNatClampNeg (v1 + 1)) x560) 102 (Int32.toNatClampNeg (v1 + 7)) ((uI I561 102 (Int32.toNatClampNeg (v1 + 1)) x560) 97 17)) := Fr.w f582 (show ((v1 + 7) : Int32).toInt = (v1.toInt + 7) from e826) (by omega) (fun j hj hp => by unfold pW at hp; omega)
            refine sp_X12_isSign hB827 hR0 (fun x830 y835 I831 J832 hB833 p834 => ?_)
            intro o836
            have hh837 := Hid.i p834
            clear p834
            have f838 : Fr pT (uI (uI I561 102 (Int32.toNatClampNeg (v1 + 1)) x560) 102 (Int32.toNatClampNeg (v1 + 7)) ((uI I561 102 (Int32.toNatClampNeg (v1 + 1)) x560) 97 17)) I831 := (Hid.o hh837).2.2.2.2.1
            have f839 : Fr (pW v1.toInt) I I831 := Fr.tr f829 f838 (fun _ _ => trivial)
            have m840 : PMp (uI (uI I561 102 (Int32.toNatClampNeg (v1 + 1)) x560) 102 (Int32.toNatClampNeg (v1 + 7)) ((uI I561 102 (Int32.toNatClampNeg (v1 + 1)) x560) 97 17)) I831 := (PMp.keep (Hid.o hh837).1 (Hid.o hh837).2.2.1 (Hid.o hh837).2.2.2.1)
            have q841 : (60 : Int32).toInt = 60 := rfl
            have e842 : (((uI (uI I561 102 (Int32.toNatClampNeg (v1 + 1)) x560) 102 (Int32.toNatClampNeg (v1 + 7)) ((uI I561 102 (Int32.toNatClampNeg (v1 + 1)) x560) 97 17)) 97 14) : Int32).toInt = (I561 97 14).toInt := Eq.trans (congrArg Int32.toInt (Eq.trans (rd_ne (by omega)) (rd_ne (by omega)))) rfl
            have i843 := i32 x830
            refine ⟨fun c844 => ?_, fun c844 => ?_⟩
            · skip
              have d845 : ¬ ((x830.toInt) : Int) = (0) := ci_ne rfl rfl c844
              refine sp_X12_must hB833 hR0 (fun x846 y851 I847 J848 hB849 p850 => ?_)
              have hh852 := Hid.i p850
              clear p850
              have f853 : Fr pT I831 I847 := (Hid.o hh852).2.1
              have f854 : Fr (pW v1.toInt) I I847 := Fr.tr f839 f853 (fun _ _ => trivial)
              have m855 : PMp I831 I847 := (PMp.mk (Hid.o hh852).2.2.1 (Hid.o hh852).2.2.2.1)
              have q856 : (1 : Int32).toInt = 1 := rfl
              have e857 : ((I831 97 12) : Int32).toInt = (I561 97 12).toInt := Eq.trans (congrArg Int32.toInt (Eq.trans (Eq.trans (Hid.o hh837).1 (rd_ne (by omega))) (rd_ne (by omega)))) rfl
              have e858 : ((I831 97 14) : Int32).toInt = (I561 97 14).toInt := Eq.trans (congrArg Int32.toInt (Eq.trans (Eq.trans (Hid.o hh837).2.2.1 (rd_ne (by omega))) (rd_ne (by omega)))) rfl
              have e859 : ((I831 97 16) : Int32).toInt = (I561 97 16).toInt := Eq.trans (congrArg Int32.toInt (Eq.trans (Eq.trans (Hid.o hh837).2.2.2.1 (rd_ne (by omega))) (rd_ne (by omega)))) rfl
              have b860 := Bd.o hB849 (show isO 112 97 12 = true from rfl) (show bnd 12 12 = some _ from rfl)
              have b861 := Bd.o hB849 (show isO 112 97 12 = true from rfl) (show bnd 12 14 = some _ from rfl)
              have b862 := Bd.o hB849 (show isO 112 97 12 = true from rfl) (show bnd 12 16 = some _ from rfl)
              refine sp_X12_count hB849 hR0 (fun x863 y868 I864 J865 hB866 p867 => ?_)
              have hh869 := Hid.i p867
              clear p867
              have f870 : Fr pT I847 I864 := (Hid.o hh869).2.1
              have f871 : Fr (pW v1.toInt) I I864 := Fr.tr f854 f870 (fun _ _ => trivial)
              have m872 : PMp I847 I864 := (PMp.mk (Hid.o hh869).2.2.1 (Hid.o hh869).2.2.2.1)
              have wr873 := Or.imp (fun z => z.2) (fun z => And.intro z.1 z.2.1) (Hid.o hh869).2.2.2.2
              have q874 : (0 : Int32).toInt = 0 := rfl
              have q875 : (99 : Int32).toInt = 99 := rfl
              have b876 := Bd.o hB866 (show isO 112 97 12 = true from rfl) (show bnd 12 12 = some _ from rfl)
              have b877 := Bd.o hB866 (show isO 112 97 12 = true from rfl) (show bnd 12 14 = some _ from rfl)
              have b878 := Bd.o hB866 (show isO 112 97 12 = true from rfl) (show bnd 12 16 = some _ from rfl)
              have i879 := i32 x863
              have e880 : ((v1 + 6) : Int32).toInt = (v1.toInt) + (6) := ti_add rfl rfl (by omega)
              refine ⟨vp_of (a := (v1.toInt + 6)) e880 (by omega) (by omega), ?_⟩
              have hB881 : Bd (uI I864 102 (Int32.toNatClampNeg (v1 + 6)) x863) := Bd.cnew hB866 (show ((v1 + 6) : Int32).toInt = (v1.toInt + 6) from e880) (show (x863 : Int32).toInt = x863.toInt from rfl) (by omega) (by omega) (by omega) 
              have f882 : Fr (pW v1.toInt) I (uI I864 102 (Int32.toNatClampNeg (v1 + 6)) x863) := Fr.w f871 (show ((v1 + 6) : Int32).toInt = (v1.toInt + 6) from e880) (by omega) (fun j hj hp => by unfold pW at hp; omega)
              have e883 : (((uI I864 102 (Int32.toNatClampNeg (v1 + 6)) x863) 102 (Int32.toNatClampNeg (v1 + 1))) : Int32).toInt = x560.toInt := Eq.trans (congrArg Int32.toInt (Eq.trans (Eq.trans (Eq.trans (Eq.trans (Eq.trans (rd_k (fun z => by have z1 := tn_of (show ((v1 + 1) : Int32).toInt = (v1.toInt + 1) from e580) (by omega); have z2 := tn_of (show ((v1 + 6) : Int32).toInt = (v1.toInt + 6) from e880) (by omega); omega)) (f870.1 (Int32.toNatClampNeg (v1 + 1)) trivial)) (f853.1 (Int32.toNatClampNeg (v1 + 1)) trivial)) (f838.1 (Int32.toNatClampNeg (v1 + 1)) trivial)) (rd_k (fun z => by have z1 := tn_of (show ((v1 + 1) : Int32).toInt = (v1.toInt + 1) from e580) (by omega); have z2 := tn_of (show ((v1 + 7) : Int32).toInt = (v1.toInt + 7) from e826) (by omega); omega))) rd_eq)) rfl
              have fl884 : (((uI I864 102 (Int32.toNatClampNeg (v1 + 6)) x863) 102 (Int32.toNatClampNeg (v1 + 1))) : Int32).toInt = x560.toInt := e883
              have e885 : (((uI I864 102 (Int32.toNatClampNeg (v1 + 6)) x863) 102 (Int32.toNatClampNeg (v1 + 5))) : Int32).toInt = x1.toInt := Eq.trans (congrArg Int32.toInt (Eq.trans (Eq.trans (Eq.trans (Eq.trans (Eq.trans (Eq.trans (Eq.trans (rd_k (fun z => by have z1 := tn_of (show ((v1 + 5) : Int32).toInt = (v1.toInt + 5) from e34) (by omega); have z2 := tn_of (show ((v1 + 6) : Int32).toInt = (v1.toInt + 6) from e880) (by omega); omega)) (f870.1 (Int32.toNatClampNeg (v1 + 5)) trivial)) (f853.1 (Int32.toNatClampNeg (v1 + 5)) trivial)) (f838.1 (Int32.toNatClampNeg (v1 + 5)) trivial)) (rd_k (fun z => by have z1 := tn_of (show ((v1 + 5) : Int32).toInt = (v1.toInt + 5) from e34) (by omega); have z2 := tn_of (show ((v1 + 7) : Int32).toInt = (v1.toInt + 7) from e826) (by omega); omega))) (rd_k (fun z => by have z1 := tn_of (show ((v1 + 5) : Int32).toInt = (v1.toInt + 5) from e34) (by omega); have z2 := tn_of (show ((v1 + 1) : Int32).toInt = (v1.toInt + 1) from e580) (by omega); omega))) (f567.1 (Int32.toNatClampNeg (v1 + 5)) trivial)) rd_eq)) rfl
              have fl886 : (((uI I864 102 (Int32.toNatClampNeg (v1 + 6)) x863) 102 (Int32.toNatClampNeg (v1 + 5))) : Int32).toInt = x1.toInt := e885
              have e887 : (((uI I864 102 (Int32.toNatClampNeg (v1 + 6)) x863) 97 12) : Int32).toInt = (I864 97 12).toInt := Eq.trans (congrArg Int32.toInt (rd_ne (by omega))) rfl
              have fl888 : (((uI I864 102 (Int32.toNatClampNeg (v1 + 6)) x863) 97 12) : Int32).toInt = (I864 97 12).toInt := e887
              exact hQ _ _ _ _ hB881 ⟨f882, (PMp.o (PMp.tr (PMp.tr (PMp.tr (PMp.o (PMp.o (PMp.tr (PMp.o (PMp.tr (PMp.tr (PMp.refl I) m10) m23) (by decide)) m569) (by decide)) (by decide)) m840) m855) m872) (by decide)), (fun hz => by have op0 := Or.resolve_left (Hid.o hh566).2.2.2.2 (fun z => by have b := PMp.bad (PMp.o (PMp.tr (PMp.tr (PMp.tr (PMp.o (PMp.o (PMp.refl I561) (by decide)) (by decide)) m840) m855) m872) (by decide)) hz; omega); have op1 := Or.resolve_left (Hid.o hh869).2.2.2.2 (fun z => by have b := PMp.bad (PMp.o (PMp.refl I864) (by decide)) hz; omega); omega)⟩
            · skip
              have d889 : ((x830.toInt) : Int) = (0) := ci_eq rfl rfl c844
              refine sp_X12_isSign hB833 hR0 (fun x890 y895 I891 J892 hB893 p894 => ?_)
              intro o896
              have hh897 := Hid.i p894
              clear p894
              have f898 : Fr pT I831 I891 := (Hid.o hh897).2.2.2.2.1
              have f899 : Fr (pW v1.toInt) I I891 := Fr.tr f839 f898 (fun _ _ => trivial)
              have m900 : PMp I831 I891 := (PMp.keep (Hid.o hh897).1 (Hid.o hh897).2.2.1 (Hid.o hh897).2.2.2.1)
              have q901 : (62 : Int32).toInt = 62 := rfl
              have e902 : ((I831 97 14) : Int32).toInt = (I561 97 14).toInt := Eq.trans (congrArg Int32.toInt (Eq.trans (Eq.trans (Hid.o hh837).2.2.1 (rd_ne (by omega))) (rd_ne (by omega)))) rfl
              have i903 := i32 x890
              refine ⟨fun c904 => ?_, fun c904 => ?_⟩
              · skip
                have d905 : ¬ ((x890.toInt) : Int) = (0) := ci_ne rfl rfl c904
                refine sp_X12_must hB893 hR0 (fun x906 y911 I907 J908 hB909 p910 => ?_)
                have hh912 := Hid.i p910
                clear p910
                have f913 : Fr pT I891 I907 := (Hid.o hh912).2.1
                have f914 : Fr (pW v1.toInt) I I907 := Fr.tr f899 f913 (fun _ _ => trivial)
                have m915 : PMp I891 I907 := (PMp.mk (Hid.o hh912).2.2.1 (Hid.o hh912).2.2.2.1)
                have q916 : (1 : Int32).toInt = 1 := rfl
                have e917 : ((I891 97 12) : Int32).toInt = (I561 97 12).toInt := Eq.trans (congrArg Int32.toInt (Eq.trans (Eq.trans (Eq.trans (Hid.o hh897).1 (Hid.o hh837).1) (rd_ne (by omega))) (rd_ne (by omega)))) rfl
                have e918 : ((I891 97 14) : Int32).toInt = (I561 97 14).toInt := Eq.trans (congrArg Int32.toInt (Eq.trans (Eq.trans (Eq.trans (Hid.o hh897).2.2.1 (Hid.o hh837).2.2.1) (rd_ne (by omega))) (rd_ne (by omega)))) rfl
                have e919 : ((I891 97 16) : Int32).toInt = (I561 97 16).toInt := Eq.trans (congrArg Int32.toInt (Eq.trans (Eq.trans (Eq.trans (Hid.o hh897).2.2.2.1 (Hid.o hh837).2.2.2.1) (rd_ne (by omega))) (rd_ne (by omega)))) rfl
                have b920 := Bd.o hB909 (show isO 112 97 12 = true from rfl) (show bnd 12 12 = some _ from rfl)
                have b921 := Bd.o hB909 (show isO 112 97 12 = true from rfl) (show bnd 12 14 = some _ from rfl)
                have b922 := Bd.o hB909 (show isO 112 97 12 = true from rfl) (show bnd 12 16 = some _ from rfl)
                refine sp_X12_count hB909 hR0 (fun x923 y928 I924 J925 hB926 p927 => ?_)
                have hh929 := Hid.i p927
                clear p927
                have f930 : Fr pT I907 I924 := (Hid.o hh929).2.1
                have f931 : Fr (pW v1.toInt) I I924 := Fr.tr f914 f930 (fun _ _ => trivial)
                have m932 : PMp I907 I924 := (PMp.mk (Hid.o hh929).2.2.1 (Hid.o hh929).2.2.2.1)
                have wr933 := Or.imp (fun z => z.2) (fun z => And.intro z.1 z.2.1) (Hid.o hh929).2.2.2.2
                have q934 : (0 : Int32).toInt = 0 := rfl
                have q935 : (99 : Int32).toInt = 99 := rfl
                have b936 := Bd.o hB926 (show isO 112 97 12 = true from rfl) (show bnd 12 12 = some _ from rfl)
                have b937 := Bd.o hB926 (show isO 112 97 12 = true from rfl) (show bnd 12 14 = some _ from rfl)
                have b938 := Bd.o hB926 (show isO 112 97 12 = true from rfl) (show bnd 12 16 = some _ from rfl)
                have i939 := i32 x923
                have e940 : ((v1 + 6) : Int32).toInt = (v1.toInt) + (6) := ti_add rfl rfl (by omega)
                refine ⟨vp_of (a := (v1.toInt + 6)) e940 (by omega) (by omega), ?_⟩
                have hB941 : Bd (uI I924 102 (Int32.toNatClampNeg (v1 + 6)) x923) := Bd.cnew hB926 (show ((v1 + 6) : Int32).toInt = (v1.toInt + 6) from e940) (show (x923 : Int32).toInt = x923.toInt from rfl) (by omega) (by omega) (by omega) 
                have f942 : Fr (pW v1.toInt) I (uI I924 102 (Int32.toNatClampNeg (v1 + 6)) x923) := Fr.w f931 (show ((v1 + 6) : Int32).toInt = (v1.toInt + 6) from e940) (by omega) (fun j hj hp => by unfold pW at hp; omega)
                have e943 : (((uI I924 102 (Int32.toNatClampNeg (v1 + 6)) x923) 102 (Int32.toNatClampNeg (v1 + 1))) : Int32).toInt = x560.toInt := Eq.trans (congrArg Int32.toInt (Eq.trans (Eq.trans (Eq.trans (Eq.trans (Eq.trans (Eq.trans (rd_k (fun z => by have z1 := tn_of (show ((v1 + 1) : Int32).toInt = (v1.toInt + 1) from e580) (by omega); have z2 := tn_of (show ((v1 + 6) : Int32).toInt = (v1.toInt + 6) from e940) (by omega); omega)) (f930.1 (Int32.toNatClampNeg (v1 + 1)) trivial)) (f913.1 (Int32.toNatClampNeg (v1 + 1)) trivial)) (f898.1 (Int32.toNatClampNeg (v1 + 1)) trivial)) (f838.1 (Int32.toNatClampNeg (v1 + 1)) trivial)) (rd_k (fun z => by have z1 := tn_of (show ((v1 + 1) : Int32).toInt = (v1.toInt + 1) from e580) (by omega); have z2 := tn_of (show ((v1 + 7) : Int32).toInt = (v1.toInt + 7) from e826) (by omega); omega))) rd_eq)) rfl
                have fl944 : (((uI I924 102 (Int32.toNatClampNeg (v1 + 6)) x923) 102 (Int32.toNatClampNeg (v1 + 1))) : Int32).toInt = x560.toInt := e943
                have e945 : (((uI I924 102 (Int32.toNatClampNeg (v1 + 6)) x923) 102 (Int32.toNatClampNeg (v1 + 5))) : Int32).toInt = x1.toInt := Eq.trans (congrArg Int32.toInt (Eq.trans (Eq.trans (Eq.trans (Eq.trans (Eq.trans (Eq.trans (Eq.trans (Eq.trans (rd_k (fun z => by have z1 := tn_of (show ((v1 + 5) : Int32).toInt = (v1.toInt + 5) from e34) (by omega); have z2 := tn_of (show ((v1 + 6) : Int32).toInt = (v1.toInt + 6) from e940) (by omega); omega)) (f930.1 (Int32.toNatClampNeg (v1 + 5)) trivial)) (f913.1 (Int32.toNatClampNeg (v1 + 5)) trivial)) (f898.1 (Int32.toNatClampNeg (v1 + 5)) trivial)) (f838.1 (Int32.toNatClampNeg (v1 + 5)) trivial)) (rd_k (fun z => by have z1 := tn_of (show ((v1 + 5) : Int32).toInt = (v1.toInt + 5) from e34) (by omega); have z2 := tn_of (show ((v1 + 7) : Int32).toInt = (v1.toInt + 7) from e826) (by omega); omega))) (rd_k (fun z => by have z1 := tn_of (show ((v1 + 5) : Int32).toInt = (v1.toInt + 5) from e34) (by omega); have z2 := tn_of (show ((v1 + 1) : Int32).toInt = (v1.toInt + 1) from e580) (by omega); omega))) (f567.1 (Int32.toNatClampNeg (v1 + 5)) trivial)) rd_eq)) rfl
                have fl946 : (((uI I924 102 (Int32.toNatClampNeg (v1 + 6)) x923) 102 (Int32.toNatClampNeg (v1 + 5))) : Int32).toInt = x1.toInt := e945
                have e947 : (((uI I924 102 (Int32.toNatClampNeg (v1 + 6)) x923) 97 12) : Int32).toInt = (I924 97 12).toInt := Eq.trans (congrArg Int32.toInt (rd_ne (by omega))) rfl
                have fl948 : (((uI I924 102 (Int32.toNatClampNeg (v1 + 6)) x923) 97 12) : Int32).toInt = (I924 97 12).toInt := e947
                exact hQ _ _ _ _ hB941 ⟨f942, (PMp.o (PMp.tr (PMp.tr (PMp.tr (PMp.tr (PMp.o (PMp.o (PMp.tr (PMp.o (PMp.tr (PMp.tr (PMp.refl I) m10) m23) (by decide)) m569) (by decide)) (by decide)) m840) m900) m915) m932) (by decide)), (fun hz => by have op0 := Or.resolve_left (Hid.o hh566).2.2.2.2 (fun z => by have b := PMp.bad (PMp.o (PMp.tr (PMp.tr (PMp.tr (PMp.tr (PMp.o (PMp.o (PMp.refl I561) (by decide)) (by decide)) m840) m900) m915) m932) (by decide)) hz; omega); have op1 := Or.resolve_left (Hid.o hh929).2.2.2.2 (fun z => by have b := PMp.bad (PMp.o (PMp.refl I924) (by decide)) hz; omega); omega)⟩
              · skip
                have d949 : ((x890.toInt) : Int) = (0) := ci_eq rfl rfl c904
                refine sp_X12_isSign hB893 hR0 (fun x950 y955 I951 J952 hB953 p954 => ?_)
                intro o956
                have hh957 := Hid.i p954
                clear p954
                have f958 : Fr pT I891 I951 := (Hid.o hh957).2.2.2.2.1
                have f959 : Fr (pW v1.toInt) I I951 := Fr.tr f899 f958 (fun _ _ => trivial)
                have m960 : PMp I891 I951 := (PMp.keep (Hid.o hh957).1 (Hid.o hh957).2.2.1 (Hid.o hh957).2.2.2.1)
                have q961 : (61 : Int32).toInt = 61 := rfl
                have e962 : ((I891 97 14) : Int32).toInt = (I561 97 14).toInt := Eq.trans (congrArg Int32.toInt (Eq.trans (Eq.trans (Eq.trans (Hid.o hh897).2.2.1 (Hid.o hh837).2.2.1) (rd_ne (by omega))) (rd_ne (by omega)))) rfl
                have i963 := i32 x950
                refine ⟨fun c964 => ?_, fun c964 => ?_⟩
                · skip
                  have d965 : ((x950.toInt) : Int) = (0) := ci_eq rfl rfl c964
                  refine sp_X12_must hB953 hR0 (fun x966 y971 I967 J968 hB969 p970 => ?_)
                  have hh972 := Hid.i p970
                  clear p970
                  have f973 : Fr pT I951 I967 := (Hid.o hh972).2.1
                  have f974 : Fr (pW v1.toInt) I I967 := Fr.tr f959 f973 (fun _ _ => trivial)
                  have m975 : PMp I951 I967 := (PMp.mk (Hid.o hh972).2.2.1 (Hid.o hh972).2.2.2.1)
                  have q976 : (0 : Int32).toInt = 0 := rfl
                  have e977 : ((I951 97 12) : Int32).toInt = (I561 97 12).toInt := Eq.trans (congrArg Int32.toInt (Eq.trans (Eq.trans (Eq.trans (Eq.trans (Hid.o hh957).1 (Hid.o hh897).1) (Hid.o hh837).1) (rd_ne (by omega))) (rd_ne (by omega)))) rfl
                  have e978 : ((I951 97 14) : Int32).toInt = (I561 97 14).toInt := Eq.trans (congrArg Int32.toInt (Eq.trans (Eq.trans (Eq.trans (Eq.trans (Hid.o hh957).2.2.1 (Hid.o hh897).2.2.1) (Hid.o hh837).2.2.1) (rd_ne (by omega))) (rd_ne (by omega)))) rfl
                  have e979 : ((I951 97 16) : Int32).toInt = (I561 97 16).toInt := Eq.trans (congrArg Int32.toInt (Eq.trans (Eq.trans (Eq.trans (Eq.trans (Hid.o hh957).2.2.2.1 (Hid.o hh897).2.2.2.1) (Hid.o hh837).2.2.2.1) (rd_ne (by omega))) (rd_ne (by omega)))) rfl
                  have b980 := Bd.o hB969 (show isO 112 97 12 = true from rfl) (show bnd 12 12 = some _ from rfl)
                  have b981 := Bd.o hB969 (show isO 112 97 12 = true from rfl) (show bnd 12 14 = some _ from rfl)
                  have b982 := Bd.o hB969 (show isO 112 97 12 = true from rfl) (show bnd 12 16 = some _ from rfl)
                  refine sp_X12_count hB969 hR0 (fun x983 y988 I984 J985 hB986 p987 => ?_)
                  have hh989 := Hid.i p987
                  clear p987
                  have f990 : Fr pT I967 I984 := (Hid.o hh989).2.1
                  have f991 : Fr (pW v1.toInt) I I984 := Fr.tr f974 f990 (fun _ _ => trivial)
                  have m992 : PMp I967 I984 := (PMp.mk (Hid.o hh989).2.2.1 (Hid.o hh989).2.2.2.1)
                  have wr993 := Or.imp (fun z => z.2) (fun z => And.intro z.1 z.2.1) (Hid.o hh989).2.2.2.2
                  have q994 : (0 : Int32).toInt = 0 := rfl
                  have q995 : (99 : Int32).toInt = 99 := rfl
                  have b996 := Bd.o hB986 (show isO 112 97 12 = true from rfl) (show bnd 12 12 = some _ from rfl)
                  have b997 := Bd.o hB986 (show isO 112 97 12 = true from rfl) (show bnd 12 14 = some _ from rfl)
                  have b998 := Bd.o hB986 (show isO 112 97 12 = true from rfl) (show bnd 12 16 = some _ from rfl)
                  have i999 := i32 x983
                  have e1000 : ((v1 + 6) : Int32).toInt = (v1.toInt) + (6) := ti_add rfl rfl (by omega)
                  refine ⟨vp_of (a := (v1.toInt + 6)) e1000 (by omega) (by omega), ?_⟩
                  have hB1001 : Bd (uI I984 102 (Int32.toNatClampNeg (v1 + 6)) x983) := Bd.cnew hB986 (show ((v1 + 6) : Int32).toInt = (v1.toInt + 6) from e1000) (show (x983 : Int32).toInt = x983.toInt from rfl) (by omega) (by omega) (by omega) 
                  have f1002 : Fr (pW v1.toInt) I (uI I984 102 (Int32.toNatClampNeg (v1 + 6)) x983) := Fr.w f991 (show ((v1 + 6) : Int32).toInt = (v1.toInt + 6) from e1000) (by omega) (fun j hj hp => by unfold pW at hp; omega)
                  have e1003 : (((uI I984 102 (Int32.toNatClampNeg (v1 + 6)) x983) 102 (Int32.toNatClampNeg (v1 + 1))) : Int32).toInt = x560.toInt := Eq.trans (congrArg Int32.toInt (Eq.trans (Eq.trans (Eq.trans (Eq.trans (Eq.trans (Eq.trans (Eq.trans (rd_k (fun z => by have z1 := tn_of (show ((v1 + 1) : Int32).toInt = (v1.toInt + 1) from e580) (by omega); have z2 := tn_of (show ((v1 + 6) : Int32).toInt = (v1.toInt + 6) from e1000) (by omega); omega)) (f990.1 (Int32.toNatClampNeg (v1 + 1)) trivial)) (f973.1 (Int32.toNatClampNeg (v1 + 1)) trivial)) (f958.1 (Int32.toNatClampNeg (v1 + 1)) trivial)) (f898.1 (Int32.toNatClampNeg (v1 + 1)) trivial)) (f838.1 (Int32.toNatClampNeg (v1 + 1)) trivial)) (rd_k (fun z => by have z1 := tn_of (show ((v1 + 1) : Int32).toInt = (v1.toInt + 1) from e580) (by omega); have z2 := tn_of (show ((v1 + 7) : Int32).toInt = (v1.toInt + 7) from e826) (by omega); omega))) rd_eq)) rfl
                  have fl1004 : (((uI I984 102 (Int32.toNatClampNeg (v1 + 6)) x983) 102 (Int32.toNatClampNeg (v1 + 1))) : Int32).toInt = x560.toInt := e1003
                  have e1005 : (((uI I984 102 (Int32.toNatClampNeg (v1 + 6)) x983) 102 (Int32.toNatClampNeg (v1 + 5))) : Int32).toInt = x1.toInt := Eq.trans (congrArg Int32.toInt (Eq.trans (Eq.trans (Eq.trans (Eq.trans (Eq.trans (Eq.trans (Eq.trans (Eq.trans (Eq.trans (rd_k (fun z => by have z1 := tn_of (show ((v1 + 5) : Int32).toInt = (v1.toInt + 5) from e34) (by omega); have z2 := tn_of (show ((v1 + 6) : Int32).toInt = (v1.toInt + 6) from e1000) (by omega); omega)) (f990.1 (Int32.toNatClampNeg (v1 + 5)) trivial)) (f973.1 (Int32.toNatClampNeg (v1 + 5)) trivial)) (f958.1 (Int32.toNatClampNeg (v1 + 5)) trivial)) (f898.1 (Int32.toNatClampNeg (v1 + 5)) trivial)) (f838.1 (Int32.toNatClampNeg (v1 + 5)) trivial)) (rd_k (fun z => by have z1 := tn_of (show ((v1 + 5) : Int32).toInt = (v1.toInt + 5) from e34) (by omega); have z2 := tn_of (show ((v1 + 7) : Int32).toInt = (v1.toInt + 7) from e826) (by omega); omega))) (rd_k (fun z => by have z1 := tn_of (show ((v1 + 5) : Int32).toInt = (v1.toInt + 5) from e34) (by omega); have z2 := tn_of (show ((v1 + 1) : Int32).toInt = (v1.toInt + 1) from e580) (by omega); omega))) (f567.1 (Int32.toNatClampNeg (v1 + 5)) trivial)) rd_eq)) rfl
                  have fl1006 : (((uI I984 102 (Int32.toNatClampNeg (v1 + 6)) x983) 102 (Int32.toNatClampNeg (v1 + 5))) : Int32).toInt = x1.toInt := e1005
                  have e1007 : (((uI I984 102 (Int32.toNatClampNeg (v1 + 6)) x983) 97 12) : Int32).toInt = (I984 97 12).toInt := Eq.trans (congrArg Int32.toInt (rd_ne (by omega))) rfl
                  have fl1008 : (((uI I984 102 (Int32.toNatClampNeg (v1 + 6)) x983) 97 12) : Int32).toInt = (I984 97 12).toInt := e1007
                  exact hQ _ _ _ _ hB1001 ⟨f1002, (PMp.o (PMp.tr (PMp.tr (PMp.tr (PMp.tr (PMp.tr (PMp.o (PMp.o (PMp.tr (PMp.o (PMp.tr (PMp.tr (PMp.refl I) m10) m23) (by decide)) m569) (by decide)) (by decide)) m840) m900) m960) m975) m992) (by decide)), (fun hz => by have op0 := Or.resolve_left (Hid.o hh566).2.2.2.2 (fun z => by have b := PMp.bad (PMp.o (PMp.tr (PMp.tr (PMp.tr (PMp.tr (PMp.tr (PMp.o (PMp.o (PMp.refl I561) (by decide)) (by decide)) m840) m900) m960) m975) m992) (by decide)) hz; omega); have op1 := Or.resolve_left (Hid.o hh989).2.2.2.2 (fun z => by have b := PMp.bad (PMp.o (PMp.refl I984) (by decide)) hz; omega); omega)⟩
                · skip
                  have d1009 : ¬ ((x950.toInt) : Int) = (0) := ci_ne rfl rfl c964
                  refine sp_X12_must hB953 hR0 (fun x1010 y1015 I1011 J1012 hB1013 p1014 => ?_)
                  have hh1016 := Hid.i p1014
                  clear p1014
                  have f1017 : Fr pT I951 I1011 := (Hid.o hh1016).2.1
                  have f1018 : Fr (pW v1.toInt) I I1011 := Fr.tr f959 f1017 (fun _ _ => trivial)
                  have m1019 : PMp I951 I1011 := (PMp.mk (Hid.o hh1016).2.2.1 (Hid.o hh1016).2.2.2.1)
                  have q1020 : (1 : Int32).toInt = 1 := rfl
                  have e1021 : ((I951 97 12) : Int32).toInt = (I561 97 12).toInt := Eq.trans (congrArg Int32.toInt (Eq.trans (Eq.trans (Eq.trans (Eq.trans (Hid.o hh957).1 (Hid.o hh897).1) (Hid.o hh837).1) (rd_ne (by omega))) (rd_ne (by omega)))) rfl
                  have e1022 : ((I951 97 14) : Int32).toInt = (I561 97 14).toInt := Eq.trans (congrArg Int32.toInt (Eq.trans (Eq.trans (Eq.trans (Eq.trans (Hid.o hh957).2.2.1 (Hid.o hh897).2.2.1) (Hid.o hh837).2.2.1) (rd_ne (by omega))) (rd_ne (by omega)))) rfl
                  have e1023 : ((I951 97 16) : Int32).toInt = (I561 97 16).toInt := Eq.trans (congrArg Int32.toInt (Eq.trans (Eq.trans (Eq.trans (Eq.trans (Hid.o hh957).2.2.2.1 (Hid.o hh897).2.2.2.1) (Hid.o hh837).2.2.2.1) (rd_ne (by omega))) (rd_ne (by omega)))) rfl
                  have b1024 := Bd.o hB1013 (show isO 112 97 12 = true from rfl) (show bnd 12 12 = some _ from rfl)
                  have b1025 := Bd.o hB1013 (show isO 112 97 12 = true from rfl) (show bnd 12 14 = some _ from rfl)
                  have b1026 := Bd.o hB1013 (show isO 112 97 12 = true from rfl) (show bnd 12 16 = some _ from rfl)
                  refine sp_X12_count hB1013 hR0 (fun x1027 y1032 I1028 J1029 hB1030 p1031 => ?_)
                  have hh1033 := Hid.i p1031
                  clear p1031
                  have f1034 : Fr pT I1011 I1028 := (Hid.o hh1033).2.1
                  have f1035 : Fr (pW v1.toInt) I I1028 := Fr.tr f1018 f1034 (fun _ _ => trivial)
                  have m1036 : PMp I1011 I1028 := (PMp.mk (Hid.o hh1033).2.2.1 (Hid.o hh1033).2.2.2.1)
                  have wr1037 := Or.imp (fun z => z.2) (fun z => And.intro z.1 z.2.1) (Hid.o hh1033).2.2.2.2
                  have q1038 : (0 : Int32).toInt = 0 := rfl
                  have q1039 : (99 : Int32).toInt = 99 := rfl
                  have b1040 := Bd.o hB1030 (show isO 112 97 12 = true from rfl) (show bnd 12 12 = some _ from rfl)
                  have b1041 := Bd.o hB1030 (show isO 112 97 12 = true from rfl) (show bnd 12 14 = some _ from rfl)
                  have b1042 := Bd.o hB1030 (show isO 112 97 12 = true from rfl) (show bnd 12 16 = some _ from rfl)
                  have i1043 := i32 x1027
                  have e1044 : ((v1 + 6) : Int32).toInt = (v1.toInt) + (6) := ti_add rfl rfl (by omega)
                  refine ⟨vp_of (a := (v1.toInt + 6)) e1044 (by omega) (by omega), ?_⟩
                  have hB1045 : Bd (uI I1028 102 (Int32.toNatClampNeg (v1 + 6)) x1027) := Bd.cnew hB1030 (show ((v1 + 6) : Int32).toInt = (v1.toInt + 6) from e1044) (show (x1027 : Int32).toInt = x1027.toInt from rfl) (by omega) (by omega) (by omega) 
                  have f1046 : Fr (pW v1.toInt) I (uI I1028 102 (Int32.toNatClampNeg (v1 + 6)) x1027) := Fr.w f1035 (show ((v1 + 6) : Int32).toInt = (v1.toInt + 6) from e1044) (by omega) (fun j hj hp => by unfold pW at hp; omega)
                  have e1047 : (((uI I1028 102 (Int32.toNatClampNeg (v1 + 6)) x1027) 102 (Int32.toNatClampNeg (v1 + 1))) : Int32).toInt = x560.toInt := Eq.trans (congrArg Int32.toInt (Eq.trans (Eq.trans (Eq.trans (Eq.trans (Eq.trans (Eq.trans (Eq.trans (rd_k (fun z => by have z1 := tn_of (show ((v1 + 1) : Int32).toInt = (v1.toInt + 1) from e580) (by omega); have z2 := tn_of (show ((v1 + 6) : Int32).toInt = (v1.toInt + 6) from e1044) (by omega); omega)) (f1034.1 (Int32.toNatClampNeg (v1 + 1)) trivial)) (f1017.1 (Int32.toNatClampNeg (v1 + 1)) trivial)) (f958.1 (Int32.toNatClampNeg (v1 + 1)) trivial)) (f898.1 (Int32.toNatClampNeg (v1 + 1)) trivial)) (f838.1 (Int32.toNatClampNeg (v1 + 1)) trivial)) (rd_k (fun z => by have z1 := tn_of (show ((v1 + 1) : Int32).toInt = (v1.toInt + 1) from e580) (by omega); have z2 := tn_of (show ((v1 + 7) : Int32).toInt = (v1.toInt + 7) from e826) (by omega); omega))) rd_eq)) rfl
                  have fl1048 : (((uI I1028 102 (Int32.toNatClampNeg (v1 + 6)) x1027) 102 (Int32.toNatClampNeg (v1 + 1))) : Int32).toInt = x560.toInt := e1047
                  have e1049 : (((uI I1028 102 (Int32.toNatClampNeg (v1 + 6)) x1027) 102 (Int32.toNatClampNeg (v1 + 5))) : Int32).toInt = x1.toInt := Eq.trans (congrArg Int32.toInt (Eq.trans (Eq.trans (Eq.trans (Eq.trans (Eq.trans (Eq.trans (Eq.trans (Eq.trans (Eq.trans (rd_k (fun z => by have z1 := tn_of (show ((v1 + 5) : Int32).toInt = (v1.toInt + 5) from e34) (by omega); have z2 := tn_of (show ((v1 + 6) : Int32).toInt = (v1.toInt + 6) from e1044) (by omega); omega)) (f1034.1 (Int32.toNatClampNeg (v1 + 5)) trivial)) (f1017.1 (Int32.toNatClampNeg (v1 + 5)) trivial)) (f958.1 (Int32.toNatClampNeg (v1 + 5)) trivial)) (f898.1 (Int32.toNatClampNeg (v1 + 5)) trivial)) (f838.1 (Int32.toNatClampNeg (v1 + 5)) trivial)) (rd_k (fun z => by have z1 := tn_of (show ((v1 + 5) : Int32).toInt = (v1.toInt + 5) from e34) (by omega); have z2 := tn_of (show ((v1 + 7) : Int32).toInt = (v1.toInt + 7) from e826) (by omega); omega))) (rd_k (fun z => by have z1 := tn_of (show ((v1 + 5) : Int32).toInt = (v1.toInt + 5) from e34) (by omega); have z2 := tn_of (show ((v1 + 1) : Int32).toInt = (v1.toInt + 1) from e580) (by omega); omega))) (f567.1 (Int32.toNatClampNeg (v1 + 5)) trivial)) rd_eq)) rfl
                  have fl1050 : (((uI I1028 102 (Int32.toNatClampNeg (v1 + 6)) x1027) 102 (Int32.toNatClampNeg (v1 + 5))) : Int32).toInt = x1.toInt := e1049
                  have e1051 : (((uI I1028 102 (Int32.toNatClampNeg (v1 + 6)) x1027) 97 12) : Int32).toInt = (I1028 97 12).toInt := Eq.trans (congrArg Int32.toInt (rd_ne (by omega))) rfl
                  have fl1052 : (((uI I1028 102 (Int32.toNatClampNeg (v1 + 6)) x1027) 97 12) : Int32).toInt = (I1028 97 12).toInt := e1051
                  exact hQ _ _ _ _ hB1045 ⟨f1046, (PMp.o (PMp.tr (PMp.tr (PMp.tr (PMp.tr (PMp.tr (PMp.o (PMp.o (PMp.tr (PMp.o (PMp.tr (PMp.tr (PMp.refl I) m10) m23) (by decide)) m569) (by decide)) (by decide)) m840) m900) m960) m1019) m1036) (by decide)), (fun hz => by have op0 := Or.resolve_left (Hid.o hh566).2.2.2.2 (fun z => by have b := PMp.bad (PMp.o (PMp.tr (PMp.tr (PMp.tr (PMp.tr (PMp.tr (PMp.o (PMp.o (PMp.refl I561) (by decide)) (by decide)) m840) m900) m960) m1019) m1036) (by decide)) hz; omega); have op1 := Or.resolve_left (Hid.o hh1033).2.2.2.2 (fun z => by have b := PMp.bad (PMp.o (PMp.refl I1028) (by decide)) hz; omega); omega)⟩
        · skip
          have d1053 : ((x1.toInt) : Int) = (0) := ci_eq rfl rfl c593
          have e1054 : (((uI I561 102 (Int32.toNatClampNeg (v1 + 1)) x560) 102 (Int32.toNatClampNeg (v1 + 1))) : Int32).toInt = x560.toInt := Eq.trans (congrArg Int32.toInt rd_eq) rfl
          have fl1055 : (((uI I561 102 (Int32.toNatClampNeg (v1 + 1)) x560) 102 (Int32.toNatClampNeg (v1 + 1))) : Int32).toInt = x560.toInt := e1054
          have e1056 : (((uI I561 102 (Int32.toNatClampNeg (v1 + 1)) x560) 102 (Int32.toNatClampNeg (v1 + 5))) : Int32).toInt = x1.toInt := Eq.trans (congrArg Int32.toInt (Eq.trans (Eq.trans (rd_k (fun z => by have z1 := tn_of (show ((v1 + 5) : Int32).toInt = (v1.toInt + 5) from e34) (by omega); have z2 := tn_of (show ((v1 + 1) : Int32).toInt = (v1.toInt + 1) from e580) (by omega); omega)) (f567.1 (Int32.toNatClampNeg (v1 + 5)) trivial)) rd_eq)) rfl
          have fl1057 : (((uI I561 102 (Int32.toNatClampNeg (v1 + 1)) x560) 102 (Int32.toNatClampNeg (v1 + 5))) : Int32).toInt = x1.toInt := e1056
          have fl1058 : (((uI I561 102 (Int32.toNatClampNeg (v1 + 1)) x560) 97 12) : Int32).toInt = (I561 97 12).toInt := e591
          exact hQ _ _ _ _ hB581 ⟨f582, (PMp.o (PMp.tr (PMp.o (PMp.tr (PMp.tr (PMp.refl I) m10) m23) (by decide)) m569) (by decide)), (fun hz => by have op0 := Or.resolve_left (Hid.o hh566).2.2.2.2 (fun z => by have b := PMp.bad (PMp.o (PMp.refl I561) (by decide)) hz; omega); omega)⟩
  · skip
    have d1059 : ((0) : Int) ≤ (x1.toInt) := ci_nlt rfl rfl c12
    refine sp_X12_must hB4 hR0 (fun x1060 y1065 I1061 J1062 hB1063 p1064 => ?_)
    have hh1066 := Hid.i p1064
    clear p1064
    have f1067 : Fr pT I2 I1061 := (Hid.o hh1066).2.1
    have f1068 : Fr (pW v1.toInt) I I1061 := Fr.tr f9 f1067 (fun _ _ => trivial)
    have m1069 : PMp I2 I1061 := (PMp.mk (Hid.o hh1066).2.2.1 (Hid.o hh1066).2.2.2.1)
    have q1070 : (1 : Int32).toInt = 1 := rfl
    have b1071 := Bd.o hB0 (show isO 112 97 12 = true from rfl) (show bnd 12 12 = some _ from rfl)
    have e1072 : ((I2 97 12) : Int32).toInt = (I 97 12).toInt := Eq.trans (congrArg Int32.toInt (Hid.o hh7).1) rfl
    have b1073 := Bd.o hB0 (show isO 112 97 12 = true from rfl) (show bnd 12 14 = some _ from rfl)
    have e1074 : ((I2 97 14) : Int32).toInt = (I 97 14).toInt := Eq.trans (congrArg Int32.toInt (Hid.o hh7).2.2.1) rfl
    have b1075 := Bd.o hB0 (show isO 112 97 12 = true from rfl) (show bnd 12 16 = some _ from rfl)
    have e1076 : ((I2 97 16) : Int32).toInt = (I 97 16).toInt := Eq.trans (congrArg Int32.toInt (Hid.o hh7).2.2.2.1) rfl
    have b1077 := Bd.o hB1063 (show isO 112 97 12 = true from rfl) (show bnd 12 12 = some _ from rfl)
    have b1078 := Bd.o hB1063 (show isO 112 97 12 = true from rfl) (show bnd 12 14 = some _ from rfl)
    have b1079 := Bd.o hB1063 (show isO 112 97 12 = true from rfl) (show bnd 12 16 = some _ from rfl)
    have e1080 : ((v1 + 5) : Int32).toInt = (v1.toInt) + (5) := ti_add rfl rfl (by omega)
    refine ⟨vp_of (a := (v1.toInt + 5)) e1080 (by omega) (by omega), ?_⟩
    have hB1081 : Bd (uI I1061 102 (Int32.toNatClampNeg (v1 + 5)) x1) := Bd.cnew hB1063 (show ((v1 + 5) : Int32).toInt = (v1.toInt + 5) from e1080) (show (x1 : Int32).toInt = x1.toInt from rfl) (by omega) (by omega) (by omega) 
    have f1082 : Fr (pW v1.toInt) I (uI I1061 102 (Int32.toNatClampNeg (v1 + 5)) x1) := Fr.w f1068 (show ((v1 + 5) : Int32).toInt = (v1.toInt + 5) from e1080) (by omega) (fun j hj hp => by unfold pW at hp; omega)
    refine ⟨fun c1083 => ?_, fun c1083 => ?_⟩
    · skip
      have d1084 : ¬ ((x1.toInt) : Int) = (1) := ci_ne rfl rfl c1083
      refine sp_X12_readTold hB1081 hR0 (by have z : (0 : Int32).toInt = 0 := rfl; omega) (fun x1085 y1090 I1086 J1087 hB1088 p1089 => ?_)
      have hh1091 := Hid.i p1089
      clear p1089
      have f1092 : Fr pT (uI I1061 102 (Int32.toNatClampNeg (v1 + 5)) x1) I1086 := (Hid.o hh1091).2.1
      have f1093 : Fr (pW v1.toInt) I I1086 := Fr.tr f1082 f1092 (fun _ _ => trivial)
      have m1094 : PMp (uI I1061 102 (Int32.toNatClampNeg (v1 + 5)) x1) I1086 := (PMp.mk (Hid.o hh1091).2.2.1.1 (Hid.o hh1091).2.2.1.2.1)
      have wr1095 := (Hid.o hh1091).2.2.1.2.2
      have q1096 : (0 : Int32).toInt = 0 := rfl
      have b1097 := (Bd.c hB0 (j := 0) (z := 0) rfl).1 (by decide)
      have e1098 : (((uI I1061 102 (Int32.toNatClampNeg (v1 + 5)) x1) 102 0) : Int32).toInt = (I 102 0).toInt := Eq.trans (congrArg Int32.toInt (Eq.trans (Eq.trans (rd_k (fun z => by have z1 := tn_of (show (0 : Int32).toInt = 0 from rfl) (by omega); have z2 := tn_of (show ((v1 + 5) : Int32).toInt = (v1.toInt + 5) from e1080) (by omega); have z0 : (0 : Nat) = (Int32.toNatClampNeg (v1 + 5)) := z; have z4 : Int32.toNatClampNeg 0 = 0 := rfl; omega)) (f1067.1 0 trivial)) (f8.1 0 trivial))) rfl
      have e1099 : (((uI I1061 102 (Int32.toNatClampNeg (v1 + 5)) x1) 97 12) : Int32).toInt = (I1061 97 12).toInt := Eq.trans (congrArg Int32.toInt (rd_ne (by omega))) rfl
      have e1100 : (((uI I1061 102 (Int32.toNatClampNeg (v1 + 5)) x1) 97 14) : Int32).toInt = (I1061 97 14).toInt := Eq.trans (congrArg Int32.toInt (rd_ne (by omega))) rfl
      have e1101 : (((uI I1061 102 (Int32.toNatClampNeg (v1 + 5)) x1) 97 16) : Int32).toInt = (I1061 97 16).toInt := Eq.trans (congrArg Int32.toInt (rd_ne (by omega))) rfl
      have b1102 := Bd.o hB1088 (show isO 112 97 12 = true from rfl) (show bnd 12 12 = some _ from rfl)
      have b1103 := Bd.o hB1088 (show isO 112 97 12 = true from rfl) (show bnd 12 14 = some _ from rfl)
      have b1104 := Bd.o hB1088 (show isO 112 97 12 = true from rfl) (show bnd 12 16 = some _ from rfl)
      have i1105 := i32 x1085
      have e1106 : ((v1 + 1) : Int32).toInt = (v1.toInt) + (1) := ti_add rfl rfl (by omega)
      refine ⟨vp_of (a := (v1.toInt + 1)) e1106 (by omega) (by omega), ?_⟩
      have hB1107 : Bd (uI I1086 102 (Int32.toNatClampNeg (v1 + 1)) x1085) := Bd.cnew hB1088 (show ((v1 + 1) : Int32).toInt = (v1.toInt + 1) from e1106) (show (x1085 : Int32).toInt = x1085.toInt from rfl) (by omega) (by omega) (by omega) 
      have f1108 : Fr (pW v1.toInt) I (uI I1086 102 (Int32.toNatClampNeg (v1 + 1)) x1085) := Fr.w f1093 (show ((v1 + 1) : Int32).toInt = (v1.toInt + 1) from e1106) (by omega) (fun j hj hp => by unfold pW at hp; omega)
      refine ⟨fun c1109 => ?_, fun c1109 => ?_⟩
      · skip
        have e1110 : (((uI I1086 102 (Int32.toNatClampNeg (v1 + 1)) x1085) 97 12) : Int32).toInt = (I1086 97 12).toInt := Eq.trans (congrArg Int32.toInt (rd_ne (by omega))) rfl
        have d1111 : ((0) : Int) < ((I1086 97 12).toInt) := ci_lt rfl e1110 c1109
        have td1112 : ((I1086 97 12) : Int32).toInt = (I1086 97 12).toInt := rfl
        have td1113 : ((I1086 97 12)).toInt = 0 → x1085.toInt < ((I 102 0)).toInt := fun hz => by have z := (Hid.o hh1091).2.2.2 hz rfl; rw [show (((uI I1061 102 (Int32.toNatClampNeg (v1 + 5)) x1) 102 0)) = (I 102 0) from (Eq.trans (Eq.trans (rd_k (fun z => by have z1 := tn_of (show (0 : Int32).toInt = 0 from rfl) (by omega); have z2 := tn_of (show ((v1 + 5) : Int32).toInt = (v1.toInt + 5) from e1080) (by omega); have z0 : (0 : Nat) = (Int32.toNatClampNeg (v1 + 5)) := z; have z4 : Int32.toNatClampNeg 0 = 0 := rfl; omega)) (f1067.1 0 trivial)) (f8.1 0 trivial))] at z; exact z
        have e1114 : (((uI I1086 102 (Int32.toNatClampNeg (v1 + 1)) x1085) 102 (Int32.toNatClampNeg (v1 + 1))) : Int32).toInt = x1085.toInt := Eq.trans (congrArg Int32.toInt rd_eq) rfl
        have fl1115 : (((uI I1086 102 (Int32.toNatClampNeg (v1 + 1)) x1085) 102 (Int32.toNatClampNeg (v1 + 1))) : Int32).toInt = x1085.toInt := e1114
        have e1116 : (((uI I1086 102 (Int32.toNatClampNeg (v1 + 1)) x1085) 102 (Int32.toNatClampNeg (v1 + 5))) : Int32).toInt = x1.toInt := Eq.trans (congrArg Int32.toInt (Eq.trans (Eq.trans (rd_k (fun z => by have z1 := tn_of (show ((v1 + 5) : Int32).toInt = (v1.toInt + 5) from e1080) (by omega); have z2 := tn_of (show ((v1 + 1) : Int32).toInt = (v1.toInt + 1) from e1106) (by omega); omega)) (f1092.1 (Int32.toNatClampNeg (v1 + 5)) trivial)) rd_eq)) rfl
        have fl1117 : (((uI I1086 102 (Int32.toNatClampNeg (v1 + 1)) x1085) 102 (Int32.toNatClampNeg (v1 + 5))) : Int32).toInt = x1.toInt := e1116
        have fl1118 : (((uI I1086 102 (Int32.toNatClampNeg (v1 + 1)) x1085) 97 12) : Int32).toInt = (I1086 97 12).toInt := e1110
        exact hQ _ _ _ _ hB1107 ⟨f1108, (PMp.o (PMp.tr (PMp.o (PMp.tr (PMp.tr (PMp.refl I) m10) m1069) (by decide)) m1094) (by decide)), (fun hz => by have op0 := Or.resolve_left (Or.inr True.intro : (1 : Int) ≤ 0 ∨ True) (fun z => by have b := PMp.bad (PMp.o (PMp.refl I1086) (by decide)) hz; omega); omega)⟩
      · skip
        have e1119 : (((uI I1086 102 (Int32.toNatClampNeg (v1 + 1)) x1085) 97 12) : Int32).toInt = (I1086 97 12).toInt := Eq.trans (congrArg Int32.toInt (rd_ne (by omega))) rfl
        have d1120 : (((I1086 97 12).toInt) : Int) ≤ (0) := ci_nlt rfl e1119 c1109
        refine ⟨fun c1121 => ?_, fun c1121 => ?_⟩
        · skip
          have d1122 : ¬ ((x1.toInt) : Int) = (0) := ci_ne rfl rfl c1121
          refine ⟨fun c1123 => ?_, fun c1123 => ?_⟩
          · skip
            have e1124 : (((uI I1086 102 (Int32.toNatClampNeg (v1 + 1)) x1085) 97 14) : Int32).toInt = (I1086 97 14).toInt := Eq.trans (congrArg Int32.toInt (rd_ne (by omega))) rfl
            have d1125 : ¬ (((I1086 97 14).toInt) : Int) = (3) := ci_ne e1124 rfl c1123
            have e1126 : ((v1 + 7) : Int32).toInt = (v1.toInt) + (7) := ti_add rfl rfl (by omega)
            refine ⟨vp_of (a := (v1.toInt + 7)) e1126 (by omega) (by omega), ?_⟩
            have hB1127 : Bd (uI (uI I1086 102 (Int32.toNatClampNeg (v1 + 1)) x1085) 102 (Int32.toNatClampNeg (v1 + 7)) 0) := Bd.cnew hB1107 (show ((v1 + 7) : Int32).toInt = (v1.toInt + 7) from e1126) (show (0 : Int32).toInt = 0 from rfl) (by omega) (by omega) (by omega) 
            have f1128 : Fr (pW v1.toInt) I (uI (uI I1086 102 (Int32.toNatClampNeg (v1 + 1)) x1085) 102 (Int32.toNatClampNeg (v1 + 7)) 0) := Fr.w f1108 (show ((v1 + 7) : Int32).toInt = (v1.toInt + 7) from e1126) (by omega) (fun j hj hp => by unfold pW at hp; omega)
            refine sp_X12_isSign hB1127 hR0 (fun x1129 y1134 I1130 J1131 hB1132 p1133 => ?_)
            intro o1135
            have hh1136 := Hid.i p1133
            clear p1133
            have f1137 : Fr pT (uI (uI I1086 102 (Int32.toNatClampNeg (v1 + 1)) x1085) 102 (Int32.toNatClampNeg (v1 + 7)) 0) I1130 := (Hid.o hh1136).2.2.2.2.1
            have f1138 : Fr (pW v1.toInt) I I1130 := Fr.tr f1128 f1137 (fun _ _ => trivial)
            have m1139 : PMp (uI (uI I1086 102 (Int32.toNatClampNeg (v1 + 1)) x1085) 102 (Int32.toNatClampNeg (v1 + 7)) 0) I1130 := (PMp.keep (Hid.o hh1136).1 (Hid.o hh1136).2.2.1 (Hid.o hh1136).2.2.2.1)
            have q1140 : (60 : Int32).toInt = 60 := rfl
            have e1141 : (((uI (uI I1086 102 (Int32.toNatClampNeg (v1 + 1)) x1085) 102 (Int32.toNatClampNeg (v1 + 7)) 0) 97 14) : Int32).toInt = (I1086 97 14).toInt := Eq.trans (congrArg Int32.toInt (Eq.trans (rd_ne (by omega)) (rd_ne (by omega)))) rfl
            have i1142 := i32 x1129
            refine ⟨fun c1143 => ?_, fun c1143 => ?_⟩
            · skip
              have d1144 : ¬ ((x1129.toInt) : Int) = (0) := ci_ne rfl rfl c1143
              refine sp_X12_must hB1132 hR0 (fun x1145 y1150 I1146 J1147 hB1148 p1149 => ?_)
              have hh1151 := Hid.i p1149
              clear p1149
              have f1152 : Fr pT I1130 I1146 := (Hid.o hh1151).2.1
              have f1153 : Fr (pW v1.toInt) I I1146 := Fr.tr f1138 f1152 (fun _ _ => trivial)
              have m1154 : PMp I1130 I1146 := (PMp.mk (Hid.o hh1151).2.2.1 (Hid.o hh1151).2.2.2.1)
              have q1155 : (1 : Int32).toInt = 1 := rfl
              have e1156 : ((I1130 97 12) : Int32).toInt = (I1086 97 12).toInt := Eq.trans (congrArg Int32.toInt (Eq.trans (Eq.trans (Hid.o hh1136).1 (rd_ne (by omega))) (rd_ne (by omega)))) rfl
              have e1157 : ((I1130 97 14) : Int32).toInt = (I1086 97 14).toInt := Eq.trans (congrArg Int32.toInt (Eq.trans (Eq.trans (Hid.o hh1136).2.2.1 (rd_ne (by omega))) (rd_ne (by omega)))) rfl
              have e1158 : ((I1130 97 16) : Int32).toInt = (I1086 97 16).toInt := Eq.trans (congrArg Int32.toInt (Eq.trans (Eq.trans (Hid.o hh1136).2.2.2.1 (rd_ne (by omega))) (rd_ne (by omega)))) rfl
              have b1159 := Bd.o hB1148 (show isO 112 97 12 = true from rfl) (show bnd 12 12 = some _ from rfl)
              have b1160 := Bd.o hB1148 (show isO 112 97 12 = true from rfl) (show bnd 12 14 = some _ from rfl)
              have b1161 := Bd.o hB1148 (show isO 112 97 12 = true from rfl) (show bnd 12 16 = some _ from rfl)
              refine sp_X12_count hB1148 hR0 (fun x1162 y1167 I1163 J1164 hB1165 p1166 => ?_)
              have hh1168 := Hid.i p1166
              clear p1166
              have f1169 : Fr pT I1146 I1163 := (Hid.o hh1168).2.1
              have f1170 : Fr (pW v1.toInt) I I1163 := Fr.tr f1153 f1169 (fun _ _ => trivial)
              have m1171 : PMp I1146 I1163 := (PMp.mk (Hid.o hh1168).2.2.1 (Hid.o hh1168).2.2.2.1)
              have wr1172 := Or.imp (fun z => z.2) (fun z => And.intro z.1 z.2.1) (Hid.o hh1168).2.2.2.2
              have q1173 : (0 : Int32).toInt = 0 := rfl
              have q1174 : (99 : Int32).toInt = 99 := rfl
              have b1175 := Bd.o hB1165 (show isO 112 97 12 = true from rfl) (show bnd 12 12 = some _ from rfl)
              have b1176 := Bd.o hB1165 (show isO 112 97 12 = true from rfl) (show bnd 12 14 = some _ from rfl)
              have b1177 := Bd.o hB1165 (show isO 112 97 12 = true from rfl) (show bnd 12 16 = some _ from rfl)
              have i1178 := i32 x1162
              have e1179 : ((v1 + 6) : Int32).toInt = (v1.toInt) + (6) := ti_add rfl rfl (by omega)
              refine ⟨vp_of (a := (v1.toInt + 6)) e1179 (by omega) (by omega), ?_⟩
              have hB1180 : Bd (uI I1163 102 (Int32.toNatClampNeg (v1 + 6)) x1162) := Bd.cnew hB1165 (show ((v1 + 6) : Int32).toInt = (v1.toInt + 6) from e1179) (show (x1162 : Int32).toInt = x1162.toInt from rfl) (by omega) (by omega) (by omega) 
              have f1181 : Fr (pW v1.toInt) I (uI I1163 102 (Int32.toNatClampNeg (v1 + 6)) x1162) := Fr.w f1170 (show ((v1 + 6) : Int32).toInt = (v1.toInt + 6) from e1179) (by omega) (fun j hj hp => by unfold pW at hp; omega)
              have td1182 : ((I1086 97 12) : Int32).toInt = (I1086 97 12).toInt := rfl
              have td1183 : ((I1086 97 12)).toInt = 0 → x1085.toInt < ((I 102 0)).toInt := fun hz => by have z := (Hid.o hh1091).2.2.2 hz rfl; rw [show (((uI I1061 102 (Int32.toNatClampNeg (v1 + 5)) x1) 102 0)) = (I 102 0) from (Eq.trans (Eq.trans (rd_k (fun z => by have z1 := tn_of (show (0 : Int32).toInt = 0 from rfl) (by omega); have z2 := tn_of (show ((v1 + 5) : Int32).toInt = (v1.toInt + 5) from e1080) (by omega); have z0 : (0 : Nat) = (Int32.toNatClampNeg (v1 + 5)) := z; have z4 : Int32.toNatClampNeg 0 = 0 := rfl; omega)) (f1067.1 0 trivial)) (f8.1 0 trivial))] at z; exact z
              have e1184 : (((uI I1163 102 (Int32.toNatClampNeg (v1 + 6)) x1162) 102 (Int32.toNatClampNeg (v1 + 1))) : Int32).toInt = x1085.toInt := Eq.trans (congrArg Int32.toInt (Eq.trans (Eq.trans (Eq.trans (Eq.trans (Eq.trans (rd_k (fun z => by have z1 := tn_of (show ((v1 + 1) : Int32).toInt = (v1.toInt + 1) from e1106) (by omega); have z2 := tn_of (show ((v1 + 6) : Int32).toInt = (v1.toInt + 6) from e1179) (by omega); omega)) (f1169.1 (Int32.toNatClampNeg (v1 + 1)) trivial)) (f1152.1 (Int32.toNatClampNeg (v1 + 1)) trivial)) (f1137.1 (Int32.toNatClampNeg (v1 + 1)) trivial)) (rd_k (fun z => by have z1 := tn_of (show ((v1 + 1) : Int32).toInt = (v1.toInt + 1) from e1106) (by omega); have z2 := tn_of (show ((v1 + 7) : Int32).toInt = (v1.toInt + 7) from e1126) (by omega); omega))) rd_eq)) rfl
              have fl1185 : (((uI I1163 102 (Int32.toNatClampNeg (v1 + 6)) x1162) 102 (Int32.toNatClampNeg (v1 + 1))) : Int32).toInt = x1085.toInt := e1184
              have e1186 : (((uI I1163 102 (Int32.toNatClampNeg (v1 + 6)) x1162) 102 (Int32.toNatClampNeg (v1 + 5))) : Int32).toInt = x1.toInt := Eq.trans (congrArg Int32.toInt (Eq.trans (Eq.trans (Eq.trans (Eq.trans (Eq.trans (Eq.trans (Eq.trans (rd_k (fun z => by have z1 := tn_of (show ((v1 + 5) : Int32).toInt = (v1.toInt + 5) from e1080) (by omega); have z2 := tn_of (show ((v1 + 6) : Int32).toInt = (v1.toInt + 6) from e1179) (by omega); omega)) (f1169.1 (Int32.toNatClampNeg (v1 + 5)) trivial)) (f1152.1 (Int32.toNatClampNeg (v1 + 5)) trivial)) (f1137.1 (Int32.toNatClampNeg (v1 + 5)) trivial)) (rd_k (fun z => by have z1 := tn_of (show ((v1 + 5) : Int32).toInt = (v1.toInt + 5) from e1080) (by omega); have z2 := tn_of (show ((v1 + 7) : Int32).toInt = (v1.toInt + 7) from e1126) (by omega); omega))) (rd_k (fun z => by have z1 := tn_of (show ((v1 + 5) : Int32).toInt = (v1.toInt + 5) from e1080) (by omega); have z2 := tn_of (show ((v1 + 1) : Int32).toInt = (v1.toInt + 1) from e1106) (by omega); omega))) (f1092.1 (Int32.toNatClampNeg (v1 + 5)) trivial)) rd_eq)) rfl
              have fl1187 : (((uI I1163 102 (Int32.toNatClampNeg (v1 + 6)) x1162) 102 (Int32.toNatClampNeg (v1 + 5))) : Int32).toInt = x1.toInt := e1186
              have e1188 : (((uI I1163 102 (Int32.toNatClampNeg (v1 + 6)) x1162) 97 12) : Int32).toInt = (I1163 97 12).toInt := Eq.trans (congrArg Int32.toInt (rd_ne (by omega))) rfl
              have fl1189 : (((uI I1163 102 (Int32.toNatClampNeg (v1 + 6)) x1162) 97 12) : Int32).toInt = (I1163 97 12).toInt := e1188
              exact hQ _ _ _ _ hB1180 ⟨f1181, (PMp.o (PMp.tr (PMp.tr (PMp.tr (PMp.o (PMp.o (PMp.tr (PMp.o (PMp.tr (PMp.tr (PMp.refl I) m10) m1069) (by decide)) m1094) (by decide)) (by decide)) m1139) m1154) m1171) (by decide)), (fun hz => by have op0 := Or.resolve_left (Or.inr True.intro : (1 : Int) ≤ 0 ∨ True) (fun z => by have b := PMp.bad (PMp.o (PMp.tr (PMp.tr (PMp.tr (PMp.o (PMp.o (PMp.refl I1086) (by decide)) (by decide)) m1139) m1154) m1171) (by decide)) hz; omega); have op1 := Or.resolve_left (Hid.o hh1168).2.2.2.2 (fun z => by have b := PMp.bad (PMp.o (PMp.refl I1163) (by decide)) hz; omega); omega)⟩
            · skip
              have d1190 : ((x1129.toInt) : Int) = (0) := ci_eq rfl rfl c1143
              refine sp_X12_isSign hB1132 hR0 (fun x1191 y1196 I1192 J1193 hB1194 p1195 => ?_)
              intro o1197
              have hh1198 := Hid.i p1195
              clear p1195
              have f1199 : Fr pT I1130 I1192 := (Hid.o hh1198).2.2.2.2.1
              have f1200 : Fr (pW v1.toInt) I I1192 := Fr.tr f1138 f1199 (fun _ _ => trivial)
              have m1201 : PMp I1130 I1192 := (PMp.keep (Hid.o hh1198).1 (Hid.o hh1198).2.2.1 (Hid.o hh1198).2.2.2.1)
              have q1202 : (62 : Int32).toInt = 62 := rfl
              have e1203 : ((I1130 97 14) : Int32).toInt = (I1086 97 14).toInt := Eq.trans (congrArg Int32.toInt (Eq.trans (Eq.trans (Hid.o hh1136).2.2.1 (rd_ne (by omega))) (rd_ne (by omega)))) rfl
              have i1204 := i32 x1191
              refine ⟨fun c1205 => ?_, fun c1205 => ?_⟩
              · skip
                have d1206 : ¬ ((x1191.toInt) : Int) = (0) := ci_ne rfl rfl c1205
                refine sp_X12_must hB1194 hR0 (fun x1207 y1212 I1208 J1209 hB1210 p1211 => ?_)
                have hh1213 := Hid.i p1211
                clear p1211
                have f1214 : Fr pT I1192 I1208 := (Hid.o hh1213).2.1
                have f1215 : Fr (pW v1.toInt) I I1208 := Fr.tr f1200 f1214 (fun _ _ => trivial)
                have m1216 : PMp I1192 I1208 := (PMp.mk (Hid.o hh1213).2.2.1 (Hid.o hh1213).2.2.2.1)
                have q1217 : (1 : Int32).toInt = 1 := rfl
                have e1218 : ((I1192 97 12) : Int32).toInt = (I1086 97 12).toInt := Eq.trans (congrArg Int32.toInt (Eq.trans (Eq.trans (Eq.trans (Hid.o hh1198).1 (Hid.o hh1136).1) (rd_ne (by omega))) (rd_ne (by omega)))) rfl
                have e1219 : ((I1192 97 14) : Int32).toInt = (I1086 97 14).toInt := Eq.trans (congrArg Int32.toInt (Eq.trans (Eq.trans (Eq.trans (Hid.o hh1198).2.2.1 (Hid.o hh1136).2.2.1) (rd_ne (by omega))) (rd_ne (by omega)))) rfl
                have e1220 : ((I1192 97 16) : Int32).toInt = (I1086 97 16).toInt := Eq.trans (congrArg Int32.toInt (Eq.trans (Eq.trans (Eq.trans (Hid.o hh1198).2.2.2.1 (Hid.o hh1136).2.2.2.1) (rd_ne (by omega))) (rd_ne (by omega)))) rfl
                have b1221 := Bd.o hB1210 (show isO 112 97 12 = true from rfl) (show bnd 12 12 = some _ from rfl)
                have b1222 := Bd.o hB1210 (show isO 112 97 12 = true from rfl) (show bnd 12 14 = some _ from rfl)
                have b1223 := Bd.o hB1210 (show isO 112 97 12 = true from rfl) (show bnd 12 16 = some _ from rfl)
                refine sp_X12_count hB1210 hR0 (fun x1224 y1229 I1225 J1226 hB1227 p1228 => ?_)
                have hh1230 := Hid.i p1228
                clear p1228
                have f1231 : Fr pT I1208 I1225 := (Hid.o hh1230).2.1
                have f1232 : Fr (pW v1.toInt) I I1225 := Fr.tr f1215 f1231 (fun _ _ => trivial)
                have m1233 : PMp I1208 I1225 := (PMp.mk (Hid.o hh1230).2.2.1 (Hid.o hh1230).2.2.2.1)
                have wr1234 := Or.imp (fun z => z.2) (fun z => And.intro z.1 z.2.1) (Hid.o hh1230).2.2.2.2
                have q1235 : (0 : Int32).toInt = 0 := rfl
                have q1236 : (99 : Int32).toInt = 99 := rfl
                have b1237 := Bd.o hB1227 (show isO 112 97 12 = true from rfl) (show bnd 12 12 = some _ from rfl)
                have b1238 := Bd.o hB1227 (show isO 112 97 12 = true from rfl) (show bnd 12 14 = some _ from rfl)
                have b1239 := Bd.o hB1227 (show isO 112 97 12 = true from rfl) (show bnd 12 16 = some _ from rfl)
                have i1240 := i32 x1224
                have e1241 : ((v1 + 6) : Int32).toInt = (v1.toInt) + (6) := ti_add rfl rfl (by omega)
                refine ⟨vp_of (a := (v1.toInt + 6)) e1241 (by omega) (by omega), ?_⟩
                have hB1242 : Bd (uI I1225 102 (Int32.toNatClampNeg (v1 + 6)) x1224) := Bd.cnew hB1227 (show ((v1 + 6) : Int32).toInt = (v1.toInt + 6) from e1241) (show (x1224 : Int32).toInt = x1224.toInt from rfl) (by omega) (by omega) (by omega) 
                have f1243 : Fr (pW v1.toInt) I (uI I1225 102 (Int32.toNatClampNeg (v1 + 6)) x1224) := Fr.w f1232 (show ((v1 + 6) : Int32).toInt = (v1.toInt + 6) from e1241) (by omega) (fun j hj hp => by unfold pW at hp; omega)
                have td1244 : ((I1086 97 12) : Int32).toInt = (I1086 97 12).toInt := rfl
                have td1245 : ((I1086 97 12)).toInt = 0 → x1085.toInt < ((I 102 0)).toInt := fun hz => by have z := (Hid.o hh1091).2.2.2 hz rfl; rw [show (((uI I1061 102 (Int32.toNatClampNeg (v1 + 5)) x1) 102 0)) = (I 102 0) from (Eq.trans (Eq.trans (rd_k (fun z => by have z1 := tn_of (show (0 : Int32).toInt = 0 from rfl) (by omega); have z2 := tn_of (show ((v1 + 5) : Int32).toInt = (v1.toInt + 5) from e1080) (by omega); have z0 : (0 : Nat) = (Int32.toNatClampNeg (v1 + 5)) := z; have z4 : Int32.toNatClampNeg 0 = 0 := rfl; omega)) (f1067.1 0 trivial)) (f8.1 0 trivial))] at z; exact z
                have e1246 : (((uI I1225 102 (Int32.toNatClampNeg (v1 + 6)) x1224) 102 (Int32.toNatClampNeg (v1 + 1))) : Int32).toInt = x1085.toInt := Eq.trans (congrArg Int32.toInt (Eq.trans (Eq.trans (Eq.trans (Eq.trans (Eq.trans (Eq.trans (rd_k (fun z => by have z1 := tn_of (show ((v1 + 1) : Int32).toInt = (v1.toInt + 1) from e1106) (by omega); have z2 := tn_of (show ((v1 + 6) : Int32).toInt = (v1.toInt + 6) from e1241) (by omega); omega)) (f1231.1 (Int32.toNatClampNeg (v1 + 1)) trivial)) (f1214.1 (Int32.toNatClampNeg (v1 + 1)) trivial)) (f1199.1 (Int32.toNatClampNeg (v1 + 1)) trivial)) (f1137.1 (Int32.toNatClampNeg (v1 + 1)) trivial)) (rd_k (fun z => by have z1 := tn_of (show ((v1 + 1) : Int32).toInt = (v1.toInt + 1) from e1106) (by omega); have z2 := tn_of (show ((v1 + 7) : Int32).toInt = (v1.toInt + 7) from e1126) (by omega); omega))) rd_eq)) rfl
                have fl1247 : (((uI I1225 102 (Int32.toNatClampNeg (v1 + 6)) x1224) 102 (Int32.toNatClampNeg (v1 + 1))) : Int32).toInt = x1085.toInt := e1246
                have e1248 : (((uI I1225 102 (Int32.toNatClampNeg (v1 + 6)) x1224) 102 (Int32.toNatClampNeg (v1 + 5))) : Int32).toInt = x1.toInt := Eq.trans (congrArg Int32.toInt (Eq.trans (Eq.trans (Eq.trans (Eq.trans (Eq.trans (Eq.trans (Eq.trans (Eq.trans (rd_k (fun z => by have z1 := tn_of (show ((v1 + 5) : Int32).toInt = (v1.toInt + 5) from e1080) (by omega); have z2 := tn_of (show ((v1 + 6) : Int32).toInt = (v1.toInt + 6) from e1241) (by omega); omega)) (f1231.1 (Int32.toNatClampNeg (v1 + 5)) trivial)) (f1214.1 (Int32.toNatClampNeg (v1 + 5)) trivial)) (f1199.1 (Int32.toNatClampNeg (v1 + 5)) trivial)) (f1137.1 (Int32.toNatClampNeg (v1 + 5)) trivial)) (rd_k (fun z => by have z1 := tn_of (show ((v1 + 5) : Int32).toInt = (v1.toInt + 5) from e1080) (by omega); have z2 := tn_of (show ((v1 + 7) : Int32).toInt = (v1.toInt + 7) from e1126) (by omega); omega))) (rd_k (fun z => by have z1 := tn_of (show ((v1 + 5) : Int32).toInt = (v1.toInt + 5) from e1080) (by omega); have z2 := tn_of (show ((v1 + 1) : Int32).toInt = (v1.toInt + 1) from e1106) (by omega); omega))) (f1092.1 (Int32.toNatClampNeg (v1 + 5)) trivial)) rd_eq)) rfl
                have fl1249 : (((uI I1225 102 (Int32.toNatClampNeg (v1 + 6)) x1224) 102 (Int32.toNatClampNeg (v1 + 5))) : Int32).toInt = x1.toInt := e1248
                have e1250 : (((uI I1225 102 (Int32.toNatClampNeg (v1 + 6)) x1224) 97 12) : Int32).toInt = (I1225 97 12).toInt := Eq.trans (congrArg Int32.toInt (rd_ne (by omega))) rfl
                have fl1251 : (((uI I1225 102 (Int32.toNatClampNeg (v1 + 6)) x1224) 97 12) : Int32).toInt = (I1225 97 12).toInt := e1250
                exact hQ _ _ _ _ hB1242 ⟨f1243, (PMp.o (PMp.tr (PMp.tr (PMp.tr (PMp.tr (PMp.o (PMp.o (PMp.tr (PMp.o (PMp.tr (PMp.tr (PMp.refl I) m10) m1069) (by decide)) m1094) (by decide)) (by decide)) m1139) m1201) m1216) m1233) (by decide)), (fun hz => by have op0 := Or.resolve_left (Or.inr True.intro : (1 : Int) ≤ 0 ∨ True) (fun z => by have b := PMp.bad (PMp.o (PMp.tr (PMp.tr (PMp.tr (PMp.tr (PMp.o (PMp.o (PMp.refl I1086) (by decide)) (by decide)) m1139) m1201) m1216) m1233) (by decide)) hz; omega); have op1 := Or.resolve_left (Hid.o hh1230).2.2.2.2 (fun z => by have b := PMp.bad (PMp.o (PMp.refl I1225) (by decide)) hz; omega); omega)⟩
              · skip
                have d1252 : ((x1191.toInt) : Int) = (0) := ci_eq rfl rfl c1205
                refine sp_X12_isSign hB1194 hR0 (fun x1253 y1258 I1254 J1255 hB1256 p1257 => ?_)
                intro o1259
                have hh1260 := Hid.i p1257
                clear p1257
                have f1261 : Fr pT I1192 I1254 := (Hid.o hh1260).2.2.2.2.1
                have f1262 : Fr (pW v1.toInt) I I1254 := Fr.tr f1200 f1261 (fun _ _ => trivial)
                have m1263 : PMp I1192 I1254 := (PMp.keep (Hid.o hh1260).1 (Hid.o hh1260).2.2.1 (Hid.o hh1260).2.2.2.1)
                have q1264 : (61 : Int32).toInt = 61 := rfl
                have e1265 : ((I1192 97 14) : Int32).toInt = (I1086 97 14).toInt := Eq.trans (congrArg Int32.toInt (Eq.trans (Eq.trans (Eq.trans (Hid.o hh1198).2.2.1 (Hid.o hh1136).2.2.1) (rd_ne (by omega))) (rd_ne (by omega)))) rfl
                have i1266 := i32 x1253
                refine ⟨fun c1267 => ?_, fun c1267 => ?_⟩
                · skip
                  have d1268 : ((x1253.toInt) : Int) = (0) := ci_eq rfl rfl c1267
                  refine sp_X12_must hB1256 hR0 (fun x1269 y1274 I1270 J1271 hB1272 p1273 => ?_)
                  have hh1275 := Hid.i p1273
                  clear p1273
                  have f1276 : Fr pT I1254 I1270 := (Hid.o hh1275).2.1
                  have f1277 : Fr (pW v1.toInt) I I1270 := Fr.tr f1262 f1276 (fun _ _ => trivial)
                  have m1278 : PMp I1254 I1270 := (PMp.mk (Hid.o hh1275).2.2.1 (Hid.o hh1275).2.2.2.1)
                  have q1279 : (0 : Int32).toInt = 0 := rfl
                  have e1280 : ((I1254 97 12) : Int32).toInt = (I1086 97 12).toInt := Eq.trans (congrArg Int32.toInt (Eq.trans (Eq.trans (Eq.trans (Eq.trans (Hid.o hh1260).1 (Hid.o hh1198).1) (Hid.o hh1136).1) (rd_ne (by omega))) (rd_ne (by omega)))) rfl
                  have e1281 : ((I1254 97 14) : Int32).toInt = (I1086 97 14).toInt := Eq.trans (congrArg Int32.toInt (Eq.trans (Eq.trans (Eq.trans (Eq.trans (Hid.o hh1260).2.2.1 (Hid.o hh1198).2.2.1) (Hid.o hh1136).2.2.1) (rd_ne (by omega))) (rd_ne (by omega)))) rfl
                  have e1282 : ((I1254 97 16) : Int32).toInt = (I1086 97 16).toInt := Eq.trans (congrArg Int32.toInt (Eq.trans (Eq.trans (Eq.trans (Eq.trans (Hid.o hh1260).2.2.2.1 (Hid.o hh1198).2.2.2.1) (Hid.o hh1136).2.2.2.1) (rd_ne (by omega))) (rd_ne (by omega)))) rfl
                  have b1283 := Bd.o hB1272 (show isO 112 97 12 = true from rfl) (show bnd 12 12 = some _ from rfl)
                  have b1284 := Bd.o hB1272 (show isO 112 97 12 = true from rfl) (show bnd 12 14 = some _ from rfl)
                  have b1285 := Bd.o hB1272 (show isO 112 97 12 = true from rfl) (show bnd 12 16 = some _ from rfl)
                  refine sp_X12_count hB1272 hR0 (fun x1286 y1291 I1287 J1288 hB1289 p1290 => ?_)
                  have hh1292 := Hid.i p1290
                  clear p1290
                  have f1293 : Fr pT I1270 I1287 := (Hid.o hh1292).2.1
                  have f1294 : Fr (pW v1.toInt) I I1287 := Fr.tr f1277 f1293 (fun _ _ => trivial)
                  have m1295 : PMp I1270 I1287 := (PMp.mk (Hid.o hh1292).2.2.1 (Hid.o hh1292).2.2.2.1)
                  have wr1296 := Or.imp (fun z => z.2) (fun z => And.intro z.1 z.2.1) (Hid.o hh1292).2.2.2.2
                  have q1297 : (0 : Int32).toInt = 0 := rfl
                  have q1298 : (99 : Int32).toInt = 99 := rfl
                  have b1299 := Bd.o hB1289 (show isO 112 97 12 = true from rfl) (show bnd 12 12 = some _ from rfl)
                  have b1300 := Bd.o hB1289 (show isO 112 97 12 = true from rfl) (show bnd 12 14 = some _ from rfl)
                  have b1301 := Bd.o hB1289 (show isO 112 97 12 = true from rfl) (show bnd 12 16 = some _ from rfl)
                  have i1302 := i32 x1286
                  have e1303 : ((v1 + 6) : Int32).toInt = (v1.toInt) + (6) := ti_add rfl rfl (by omega)
                  refine ⟨vp_of (a := (v1.toInt + 6)) e1303 (by omega) (by omega), ?_⟩
                  have hB1304 : Bd (uI I1287 102 (Int32.toNatClampNeg (v1 + 6)) x1286) := Bd.cnew hB1289 (show ((v1 + 6) : Int32).toInt = (v1.toInt + 6) from e1303) (show (x1286 : Int32).toInt = x1286.toInt from rfl) (by omega) (by omega) (by omega) 
                  have f1305 : Fr (pW v1.toInt) I (uI I1287 102 (Int32.toNatClampNeg (v1 + 6)) x1286) := Fr.w f1294 (show ((v1 + 6) : Int32).toInt = (v1.toInt + 6) from e1303) (by omega) (fun j hj hp => by unfold pW at hp; omega)
                  have td1306 : ((I1086 97 12) : Int32).toInt = (I1086 97 12).toInt := rfl
                  have td1307 : ((I1086 97 12)).toInt = 0 → x1085.toInt < ((I 102 0)).toInt := fun hz => by have z := (Hid.o hh1091).2.2.2 hz rfl; rw [show (((uI I1061 102 (Int32.toNatClampNeg (v1 + 5)) x1) 102 0)) = (I 102 0) from (Eq.trans (Eq.trans (rd_k (fun z => by have z1 := tn_of (show (0 : Int32).toInt = 0 from rfl) (by omega); have z2 := tn_of (show ((v1 + 5) : Int32).toInt = (v1.toInt + 5) from e1080) (by omega); have z0 : (0 : Nat) = (Int32.toNatClampNeg (v1 + 5)) := z; have z4 : Int32.toNatClampNeg 0 = 0 := rfl; omega)) (f1067.1 0 trivial)) (f8.1 0 trivial))] at z; exact z
                  have e1308 : (((uI I1287 102 (Int32.toNatClampNeg (v1 + 6)) x1286) 102 (Int32.toNatClampNeg (v1 + 1))) : Int32).toInt = x1085.toInt := Eq.trans (congrArg Int32.toInt (Eq.trans (Eq.trans (Eq.trans (Eq.trans (Eq.trans (Eq.trans (Eq.trans (rd_k (fun z => by have z1 := tn_of (show ((v1 + 1) : Int32).toInt = (v1.toInt + 1) from e1106) (by omega); have z2 := tn_of (show ((v1 + 6) : Int32).toInt = (v1.toInt + 6) from e1303) (by omega); omega)) (f1293.1 (Int32.toNatClampNeg (v1 + 1)) trivial)) (f1276.1 (Int32.toNatClampNeg (v1 + 1)) trivial)) (f1261.1 (Int32.toNatClampNeg (v1 + 1)) trivial)) (f1199.1 (Int32.toNatClampNeg (v1 + 1)) trivial)) (f1137.1 (Int32.toNatClampNeg (v1 + 1)) trivial)) (rd_k (fun z => by have z1 := tn_of (show ((v1 + 1) : Int32).toInt = (v1.toInt + 1) from e1106) (by omega); have z2 := tn_of (show ((v1 + 7) : Int32).toInt = (v1.toInt + 7) from e1126) (by omega); omega))) rd_eq)) rfl
                  have fl1309 : (((uI I1287 102 (Int32.toNatClampNeg (v1 + 6)) x1286) 102 (Int32.toNatClampNeg (v1 + 1))) : Int32).toInt = x1085.toInt := e1308
                  have e1310 : (((uI I1287 102 (Int32.toNatClampNeg (v1 + 6)) x1286) 102 (Int32.toNatClampNeg (v1 + 5))) : Int32).toInt = x1.toInt := Eq.trans (congrArg Int32.toInt (Eq.trans (Eq.trans (Eq.trans (Eq.trans (Eq.trans (Eq.trans (Eq.trans (Eq.trans (Eq.trans (rd_k (fun z => by have z1 := tn_of (show ((v1 + 5) : Int32).toInt = (v1.toInt + 5) from e1080) (by omega); have z2 := tn_of (show ((v1 + 6) : Int32).toInt = (v1.toInt + 6) from e1303) (by omega); omega)) (f1293.1 (Int32.toNatClampNeg (v1 + 5)) trivial)) (f1276.1 (Int32.toNatClampNeg (v1 + 5)) trivial)) (f1261.1 (Int32.toNatClampNeg (v1 + 5)) trivial)) (f1199.1 (Int32.toNatClampNeg (v1 + 5)) trivial)) (f1137.1 (Int32.toNatClampNeg (v1 + 5)) trivial)) (rd_k (fun z => by have z1 := tn_of (show ((v1 + 5) : Int32).toInt = (v1.toInt + 5) from e1080) (by omega); have z2 := tn_of (show ((v1 + 7) : Int32).toInt = (v1.toInt + 7) from e1126) (by omega); omega))) (rd_k (fun z => by have z1 := tn_of (show ((v1 + 5) : Int32).toInt = (v1.toInt + 5) from e1080) (by omega); have z2 := tn_of (show ((v1 + 1) : Int32).toInt = (v1.toInt + 1) from e1106) (by omega); omega))) (f1092.1 (Int32.toNatClampNeg (v1 + 5)) trivial)) rd_eq)) rfl
                  have fl1311 : (((uI I1287 102 (Int32.toNatClampNeg (v1 + 6)) x1286) 102 (Int32.toNatClampNeg (v1 + 5))) : Int32).toInt = x1.toInt := e1310
                  have e1312 : (((uI I1287 102 (Int32.toNatClampNeg (v1 + 6)) x1286) 97 12) : Int32).toInt = (I1287 97 12).toInt := Eq.trans (congrArg Int32.toInt (rd_ne (by omega))) rfl
                  have fl1313 : (((uI I1287 102 (Int32.toNatClampNeg (v1 + 6)) x1286) 97 12) : Int32).toInt = (I1287 97 12).toInt := e1312
                  exact hQ _ _ _ _ hB1304 ⟨f1305, (PMp.o (PMp.tr (PMp.tr (PMp.tr (PMp.tr (PMp.tr (PMp.o (PMp.o (PMp.tr (PMp.o (PMp.tr (PMp.tr (PMp.refl I) m10) m1069) (by decide)) m1094) (by decide)) (by decide)) m1139) m1201) m1263) m1278) m1295) (by decide)), (fun hz => by have op0 := Or.resolve_left (Or.inr True.intro : (1 : Int) ≤ 0 ∨ True) (fun z => by have b := PMp.bad (PMp.o (PMp.tr (PMp.tr (PMp.tr (PMp.tr (PMp.tr (PMp.o (PMp.o (PMp.refl I1086) (by decide)) (by decide)) m1139) m1201) m1263) m1278) m1295) (by decide)) hz; omega); have op1 := Or.resolve_left (Hid.o hh1292).2.2.2.2 (fun z => by have b := PMp.bad (PMp.o (PMp.refl I1287) (by decide)) hz; omega); omega)⟩
                · skip
                  have d1314 : ¬ ((x1253.toInt) : Int) = (0) := ci_ne rfl rfl c1267
                  refine sp_X12_must hB1256 hR0 (fun x1315 y1320 I1316 J1317 hB1318 p1319 => ?_)
                  have hh1321 := Hid.i p1319
                  clear p1319
                  have f1322 : Fr pT I1254 I1316 := (Hid.o hh1321).2.1
                  have f1323 : Fr (pW v1.toInt) I I1316 := Fr.tr f1262 f1322 (fun _ _ => trivial)
                  have m1324 : PMp I1254 I1316 := (PMp.mk (Hid.o hh1321).2.2.1 (Hid.o hh1321).2.2.2.1)
                  have q1325 : (1 : Int32).toInt = 1 := rfl
                  have e1326 : ((I1254 97 12) : Int32).toInt = (I1086 97 12).toInt := Eq.trans (congrArg Int32.toInt (Eq.trans (Eq.trans (Eq.trans (Eq.trans (Hid.o hh1260).1 (Hid.o hh1198).1) (Hid.o hh1136).1) (rd_ne (by omega))) (rd_ne (by omega)))) rfl
                  have e1327 : ((I1254 97 14) : Int32).toInt = (I1086 97 14).toInt := Eq.trans (congrArg Int32.toInt (Eq.trans (Eq.trans (Eq.trans (Eq.trans (Hid.o hh1260).2.2.1 (Hid.o hh1198).2.2.1) (Hid.o hh1136).2.2.1) (rd_ne (by omega))) (rd_ne (by omega)))) rfl
                  have e1328 : ((I1254 97 16) : Int32).toInt = (I1086 97 16).toInt := Eq.trans (congrArg Int32.toInt (Eq.trans (Eq.trans (Eq.trans (Eq.trans (Hid.o hh1260).2.2.2.1 (Hid.o hh1198).2.2.2.1) (Hid.o hh1136).2.2.2.1) (rd_ne (by omega))) (rd_ne (by omega)))) rfl
                  have b1329 := Bd.o hB1318 (show isO 112 97 12 = true from rfl) (show bnd 12 12 = some _ from rfl)
                  have b1330 := Bd.o hB1318 (show isO 112 97 12 = true from rfl) (show bnd 12 14 = some _ from rfl)
                  have b1331 := Bd.o hB1318 (show isO 112 97 12 = true from rfl) (show bnd 12 16 = some _ from rfl)
                  refine sp_X12_count hB1318 hR0 (fun x1332 y1337 I1333 J1334 hB1335 p1336 => ?_)
                  have hh1338 := Hid.i p1336
                  clear p1336
                  have f1339 : Fr pT I1316 I1333 := (Hid.o hh1338).2.1
                  have f1340 : Fr (pW v1.toInt) I I1333 := Fr.tr f1323 f1339 (fun _ _ => trivial)
                  have m1341 : PMp I1316 I1333 := (PMp.mk (Hid.o hh1338).2.2.1 (Hid.o hh1338).2.2.2.1)
                  have wr1342 := Or.imp (fun z => z.2) (fun z => And.intro z.1 z.2.1) (Hid.o hh1338).2.2.2.2
                  have q1343 : (0 : Int32).toInt = 0 := rfl
                  have q1344 : (99 : Int32).toInt = 99 := rfl
                  have b1345 := Bd.o hB1335 (show isO 112 97 12 = true from rfl) (show bnd 12 12 = some _ from rfl)
                  have b1346 := Bd.o hB1335 (show isO 112 97 12 = true from rfl) (show bnd 12 14 = some _ from rfl)
                  have b1347 := Bd.o hB1335 (show isO 112 97 12 = true from rfl) (show bnd 12 16 = some _ from rfl)
                  have i1348 := i32 x1332
                  have e1349 : ((v1 + 6) : Int32).toInt = (v1.toInt) + (6) := ti_add rfl rfl (by omega)
                  refine ⟨vp_of (a := (v1.toInt + 6)) e1349 (by omega) (by omega), ?_⟩
                  have hB1350 : Bd (uI I1333 102 (Int32.toNatClampNeg (v1 + 6)) x1332) := Bd.cnew hB1335 (show ((v1 + 6) : Int32).toInt = (v1.toInt + 6) from e1349) (show (x1332 : Int32).toInt = x1332.toInt from rfl) (by omega) (by omega) (by omega) 
                  have f1351 : Fr (pW v1.toInt) I (uI I1333 102 (Int32.toNatClampNeg (v1 + 6)) x1332) := Fr.w f1340 (show ((v1 + 6) : Int32).toInt = (v1.toInt + 6) from e1349) (by omega) (fun j hj hp => by unfold pW at hp; omega)
                  have td1352 : ((I1086 97 12) : Int32).toInt = (I1086 97 12).toInt := rfl
                  have td1353 : ((I1086 97 12)).toInt = 0 → x1085.toInt < ((I 102 0)).toInt := fun hz => by have z := (Hid.o hh1091).2.2.2 hz rfl; rw [show (((uI I1061 102 (Int32.toNatClampNeg (v1 + 5)) x1) 102 0)) = (I 102 0) from (Eq.trans (Eq.trans (rd_k (fun z => by have z1 := tn_of (show (0 : Int32).toInt = 0 from rfl) (by omega); have z2 := tn_of (show ((v1 + 5) : Int32).toInt = (v1.toInt + 5) from e1080) (by omega); have z0 : (0 : Nat) = (Int32.toNatClampNeg (v1 + 5)) := z; have z4 : Int32.toNatClampNeg 0 = 0 := rfl; omega)) (f1067.1 0 trivial)) (f8.1 0 trivial))] at z; exact z
                  have e1354 : (((uI I1333 102 (Int32.toNatClampNeg (v1 + 6)) x1332) 102 (Int32.toNatClampNeg (v1 + 1))) : Int32).toInt = x1085.toInt := Eq.trans (congrArg Int32.toInt (Eq.trans (Eq.trans (Eq.trans (Eq.trans (Eq.trans (Eq.trans (Eq.trans (rd_k (fun z => by have z1 := tn_of (show ((v1 + 1) : Int32).toInt = (v1.toInt + 1) from e1106) (by omega); have z2 := tn_of (show ((v1 + 6) : Int32).toInt = (v1.toInt + 6) from e1349) (by omega); omega)) (f1339.1 (Int32.toNatClampNeg (v1 + 1)) trivial)) (f1322.1 (Int32.toNatClampNeg (v1 + 1)) trivial)) (f1261.1 (Int32.toNatClampNeg (v1 + 1)) trivial)) (f1199.1 (Int32.toNatClampNeg (v1 + 1)) trivial)) (f1137.1 (Int32.toNatClampNeg (v1 + 1)) trivial)) (rd_k (fun z => by have z1 := tn_of (show ((v1 + 1) : Int32).toInt = (v1.toInt + 1) from e1106) (by omega); have z2 := tn_of (show ((v1 + 7) : Int32).toInt = (v1.toInt + 7) from e1126) (by omega); omega))) rd_eq)) rfl
                  have fl1355 : (((uI I1333 102 (Int32.toNatClampNeg (v1 + 6)) x1332) 102 (Int32.toNatClampNeg (v1 + 1))) : Int32).toInt = x1085.toInt := e1354
                  have e1356 : (((uI I1333 102 (Int32.toNatClampNeg (v1 + 6)) x1332) 102 (Int32.toNatClampNeg (v1 + 5))) : Int32).toInt = x1.toInt := Eq.trans (congrArg Int32.toInt (Eq.trans (Eq.trans (Eq.trans (Eq.trans (Eq.trans (Eq.trans (Eq.trans (Eq.trans (Eq.trans (rd_k (fun z => by have z1 := tn_of (show ((v1 + 5) : Int32).toInt = (v1.toInt + 5) from e1080) (by omega); have z2 := tn_of (show ((v1 + 6) : Int32).toInt = (v1.toInt + 6) from e1349) (by omega); omega)) (f1339.1 (Int32.toNatClampNeg (v1 + 5)) trivial)) (f1322.1 (Int32.toNatClampNeg (v1 + 5)) trivial)) (f1261.1 (Int32.toNatClampNeg (v1 + 5)) trivial)) (f1199.1 (Int32.toNatClampNeg (v1 + 5)) trivial)) (f1137.1 (Int32.toNatClampNeg (v1 + 5)) trivial)) (rd_k (fun z => by have z1 := tn_of (show ((v1 + 5) : Int32).toInt = (v1.toInt + 5) from e1080) (by omega); have z2 := tn_of (show ((v1 + 7) : Int32).toInt = (v1.toInt + 7) from e1126) (by omega); omega))) (rd_k (fun z => by have z1 := tn_of (show ((v1 + 5) : Int32).toInt = (v1.toInt + 5) from e1080) (by omega); have z2 := tn_of (show ((v1 + 1) : Int32).toInt = (v1.toInt + 1) from e1106) (by omega); omega))) (f1092.1 (Int32.toNatClampNeg (v1 + 5)) trivial)) rd_eq)) rfl
                  have fl1357 : (((uI I1333 102 (Int32.toNatClampNeg (v1 + 6)) x1332) 102 (Int32.toNatClampNeg (v1 + 5))) : Int32).toInt = x1.toInt := e1356
                  have e1358 : (((uI I1333 102 (Int32.toNatClampNeg (v1 + 6)) x1332) 97 12) : Int32).toInt = (I1333 97 12).toInt := Eq.trans (congrArg Int32.toInt (rd_ne (by omega))) rfl
                  have fl1359 : (((uI I1333 102 (Int32.toNatClampNeg (v1 + 6)) x1332) 97 12) : Int32).toInt = (I1333 97 12).toInt := e1358
                  exact hQ _ _ _ _ hB1350 ⟨f1351, (PMp.o (PMp.tr (PMp.tr (PMp.tr (PMp.tr (PMp.tr (PMp.o (PMp.o (PMp.tr (PMp.o (PMp.tr (PMp.tr (PMp.refl I) m10) m1069) (by decide)) m1094) (by decide)) (by decide)) m1139) m1201) m1263) m1324) m1341) (by decide)), (fun hz => by have op0 := Or.resolve_left (Or.inr True.intro : (1 : Int) ≤ 0 ∨ True) (fun z => by have b := PMp.bad (PMp.o (PMp.tr (PMp.tr (PMp.tr (PMp.tr (PMp.tr (PMp.o (PMp.o (PMp.refl I1086) (by decide)) (by decide)) m1139) m1201) m1263) m1324) m1341) (by decide)) hz; omega); have op1 := Or.resolve_left (Hid.o hh1338).2.2.2.2 (fun z => by have b := PMp.bad (PMp.o (PMp.refl I1333) (by decide)) hz; omega); omega)⟩
          · skip
            have e1360 : (((uI I1086 102 (Int32.toNatClampNeg (v1 + 1)) x1085) 97 14) : Int32).toInt = (I1086 97 14).toInt := Eq.trans (congrArg Int32.toInt (rd_ne (by omega))) rfl
            have d1361 : (((I1086 97 14).toInt) : Int) = (3) := ci_eq e1360 rfl c1123
            have e1362 : ((v1 + 7) : Int32).toInt = (v1.toInt) + (7) := ti_add rfl rfl (by omega)
            refine ⟨vp_of (a := (v1.toInt + 7)) e1362 (by omega) (by omega), ?_⟩
            have e1364 : (((uI I1086 102 (Int32.toNatClampNeg (v1 + 1)) x1085) 97 17) : Int32).toInt = (I1086 97 17).toInt := Eq.trans (congrArg Int32.toInt (rd_ne (by omega))) rfl
            have hB1363 : Bd (uI (uI I1086 102 (Int32.toNatClampNeg (v1 + 1)) x1085) 102 (Int32.toNatClampNeg (v1 + 7)) ((uI I1086 102 (Int32.toNatClampNeg (v1 + 1)) x1085) 97 17)) := Bd.cnew hB1107 (show ((v1 + 7) : Int32).toInt = (v1.toInt + 7) from e1362) (show (((uI I1086 102 (Int32.toNatClampNeg (v1 + 1)) x1085) 97 17) : Int32).toInt = (I1086 97 17).toInt from e1364) (by omega) (by omega) (by omega) 
            have f1365 : Fr (pW v1.toInt) I (uI (uI I1086 102 (Int32.toNatClampNeg (v1 + 1)) x1085) 102 (Int32.toNatClampNeg (v1 + 7)) ((uI I1086 102 (Int32.toNatClampNeg (v1 + 1)) x1085) 97 17)) := Fr.w f1108 (show ((v1 + 7) : Int32).toInt = (v1.toInt + 7) from e1362) (by omega) (fun j hj hp => by unfold pW at hp; omega)
            refine sp_X12_isSign hB1363 hR0 (fun x1366 y1371 I1367 J1368 hB1369 p1370 => ?_)
            intro o1372
            have hh1373 := Hid.i p1370
            clear p1370
            have f1374 : Fr pT (uI (uI I1086 102 (Int32.toNatClampNeg (v1 + 1)) x1085) 102 (Int32.toNatClampNeg (v1 + 7)) ((uI I1086 102 (Int32.toNatClampNeg (v1 + 1)) x1085) 97 17)) I1367 := (Hid.o hh1373).2.2.2.2.1
            have f1375 : Fr (pW v1.toInt) I I1367 := Fr.tr f1365 f1374 (fun _ _ => trivial)
            have m1376 : PMp (uI (uI I1086 102 (Int32.toNatClampNeg (v1 + 1)) x1085) 102 (Int32.toNatClampNeg (v1 + 7)) ((uI I1086 102 (Int32.toNatClampNeg (v1 + 1)) x1085) 97 17)) I1367 := (PMp.keep (Hid.o hh1373).1 (Hid.o hh1373).2.2.1 (Hid.o hh1373).2.2.2.1)
            have q1377 : (60 : Int32).toInt = 60 := rfl
            have e1378 : (((uI (uI I1086 102 (Int32.toNatClampNeg (v1 + 1)) x1085) 102 (Int32.toNatClampNeg (v1 + 7)) ((uI I1086 102 (Int32.toNatClampNeg (v1 + 1)) x1085) 97 17)) 97 14) : Int32).toInt = (I1086 97 14).toInt := Eq.trans (congrArg Int32.toInt (Eq.trans (rd_ne (by omega)) (rd_ne (by omega)))) rfl
            have i1379 := i32 x1366
            refine ⟨fun c1380 => ?_, fun c1380 => ?_⟩
            · skip
              have d1381 : ¬ ((x1366.toInt) : Int) = (0) := ci_ne rfl rfl c1380
              refine sp_X12_must hB1369 hR0 (fun x1382 y1387 I1383 J1384 hB1385 p1386 => ?_)
              have hh1388 := Hid.i p1386
              clear p1386
              have f1389 : Fr pT I1367 I1383 := (Hid.o hh1388).2.1
              have f1390 : Fr (pW v1.toInt) I I1383 := Fr.tr f1375 f1389 (fun _ _ => trivial)
              have m1391 : PMp I1367 I1383 := (PMp.mk (Hid.o hh1388).2.2.1 (Hid.o hh1388).2.2.2.1)
              have q1392 : (1 : Int32).toInt = 1 := rfl
              have e1393 : ((I1367 97 12) : Int32).toInt = (I1086 97 12).toInt := Eq.trans (congrArg Int32.toInt (Eq.trans (Eq.trans (Hid.o hh1373).1 (rd_ne (by omega))) (rd_ne (by omega)))) rfl
              have e1394 : ((I1367 97 14) : Int32).toInt = (I1086 97 14).toInt := Eq.trans (congrArg Int32.toInt (Eq.trans (Eq.trans (Hid.o hh1373).2.2.1 (rd_ne (by omega))) (rd_ne (by omega)))) rfl
              have e1395 : ((I1367 97 16) : Int32).toInt = (I1086 97 16).toInt := Eq.trans (congrArg Int32.toInt (Eq.trans (Eq.trans (Hid.o hh1373).2.2.2.1 (rd_ne (by omega))) (rd_ne (by omega)))) rfl
              have b1396 := Bd.o hB1385 (show isO 112 97 12 = true from rfl) (show bnd 12 12 = some _ from rfl)
              have b1397 := Bd.o hB1385 (show isO 112 97 12 = true from rfl) (show bnd 12 14 = some _ from rfl)
              have b1398 := Bd.o hB1385 (show isO 112 97 12 = true from rfl) (show bnd 12 16 = some _ from rfl)
              refine sp_X12_count hB1385 hR0 (fun x1399 y1404 I1400 J1401 hB1402 p1403 => ?_)
              have hh1405 := Hid.i p1403
              clear p1403
              have f1406 : Fr pT I1383 I1400 := (Hid.o hh1405).2.1
              have f1407 : Fr (pW v1.toInt) I I1400 := Fr.tr f1390 f1406 (fun _ _ => trivial)
              have m1408 : PMp I1383 I1400 := (PMp.mk (Hid.o hh1405).2.2.1 (Hid.o hh1405).2.2.2.1)
              have wr1409 := Or.imp (fun z => z.2) (fun z => And.intro z.1 z.2.1) (Hid.o hh1405).2.2.2.2
              have q1410 : (0 : Int32).toInt = 0 := rfl
              have q1411 : (99 : Int32).toInt = 99 := rfl
              have b1412 := Bd.o hB1402 (show isO 112 97 12 = true from rfl) (show bnd 12 12 = some _ from rfl)
              have b1413 := Bd.o hB1402 (show isO 112 97 12 = true from rfl) (show bnd 12 14 = some _ from rfl)
              have b1414 := Bd.o hB1402 (show isO 112 97 12 = true from rfl) (show bnd 12 16 = some _ from rfl)
              have i1415 := i32 x1399
              have e1416 : ((v1 + 6) : Int32).toInt = (v1.toInt) + (6) := ti_add rfl rfl (by omega)
              refine ⟨vp_of (a := (v1.toInt + 6)) e1416 (by omega) (by omega), ?_⟩
              have hB1417 : Bd (uI I1400 102 (Int32.toNatClampNeg (v1 + 6)) x1399) := Bd.cnew hB1402 (show ((v1 + 6) : Int32).toInt = (v1.toInt + 6) from e1416) (show (x1399 : Int32).toInt = x1399.toInt from rfl) (by omega) (by omega) (by omega) 
              have f1418 : Fr (pW v1.toInt) I (uI I1400 102 (Int32.toNatClampNeg (v1 + 6)) x1399) := Fr.w f1407 (show ((v1 + 6) : Int32).toInt = (v1.toInt + 6) from e1416) (by omega) (fun j hj hp => by unfold pW at hp; omega)
              have td1419 : ((I1086 97 12) : Int32).toInt = (I1086 97 12).toInt := rfl
              have td1420 : ((I1086 97 12)).toInt = 0 → x1085.toInt < ((I 102 0)).toInt := fun hz => by have z := (Hid.o hh1091).2.2.2 hz rfl; rw [show (((uI I1061 102 (Int32.toNatClampNeg (v1 + 5)) x1) 102 0)) = (I 102 0) from (Eq.trans (Eq.trans (rd_k (fun z => by have z1 := tn_of (show (0 : Int32).toInt = 0 from rfl) (by omega); have z2 := tn_of (show ((v1 + 5) : Int32).toInt = (v1.toInt + 5) from e1080) (by omega); have z0 : (0 : Nat) = (Int32.toNatClampNeg (v1 + 5)) := z; have z4 : Int32.toNatClampNeg 0 = 0 := rfl; omega)) (f1067.1 0 trivial)) (f8.1 0 trivial))] at z; exact z
              have e1421 : (((uI I1400 102 (Int32.toNatClampNeg (v1 + 6)) x1399) 102 (Int32.toNatClampNeg (v1 + 1))) : Int32).toInt = x1085.toInt := Eq.trans (congrArg Int32.toInt (Eq.trans (Eq.trans (Eq.trans (Eq.trans (Eq.trans (rd_k (fun z => by have z1 := tn_of (show ((v1 + 1) : Int32).toInt = (v1.toInt + 1) from e1106) (by omega); have z2 := tn_of (show ((v1 + 6) : Int32).toInt = (v1.toInt + 6) from e1416) (by omega); omega)) (f1406.1 (Int32.toNatClampNeg (v1 + 1)) trivial)) (f1389.1 (Int32.toNatClampNeg (v1 + 1)) trivial)) (f1374.1 (Int32.toNatClampNeg (v1 + 1)) trivial)) (rd_k (fun z => by have z1 := tn_of (show ((v1 + 1) : Int32).toInt = (v1.toInt + 1) from e1106) (by omega); have z2 := tn_of (show ((v1 + 7) : Int32).toInt = (v1.toInt + 7) from e1362) (by omega); omega))) rd_eq)) rfl
              have fl1422 : (((uI I1400 102 (Int32.toNatClampNeg (v1 + 6)) x1399) 102 (Int32.toNatClampNeg (v1 + 1))) : Int32).toInt = x1085.toInt := e1421
              have e1423 : (((uI I1400 102 (Int32.toNatClampNeg (v1 + 6)) x1399) 102 (Int32.toNatClampNeg (v1 + 5))) : Int32).toInt = x1.toInt := Eq.trans (congrArg Int32.toInt (Eq.trans (Eq.trans (Eq.trans (Eq.trans (Eq.trans (Eq.trans (Eq.trans (rd_k (fun z => by have z1 := tn_of (show ((v1 + 5) : Int32).toInt = (v1.toInt + 5) from e1080) (by omega); have z2 := tn_of (show ((v1 + 6) : Int32).toInt = (v1.toInt + 6) from e1416) (by omega); omega)) (f1406.1 (Int32.toNatClampNeg (v1 + 5)) trivial)) (f1389.1 (Int32.toNatClampNeg (v1 + 5)) trivial)) (f1374.1 (Int32.toNatClampNeg (v1 + 5)) trivial)) (rd_k (fun z => by have z1 := tn_of (show ((v1 + 5) : Int32).toInt = (v1.toInt + 5) from e1080) (by omega); have z2 := tn_of (show ((v1 + 7) : Int32).toInt = (v1.toInt + 7) from e1362) (by omega); omega))) (rd_k (fun z => by have z1 := tn_of (show ((v1 + 5) : Int32).toInt = (v1.toInt + 5) from e1080) (by omega); have z2 := tn_of (show ((v1 + 1) : Int32).toInt = (v1.toInt + 1) from e1106) (by omega); omega))) (f1092.1 (Int32.toNatClampNeg (v1 + 5)) trivial)) rd_eq)) rfl
              have fl1424 : (((uI I1400 102 (Int32.toNatClampNeg (v1 + 6)) x1399) 102 (Int32.toNatClampNeg (v1 + 5))) : Int32).toInt = x1.toInt := e1423
              have e1425 : (((uI I1400 102 (Int32.toNatClampNeg (v1 + 6)) x1399) 97 12) : Int32).toInt = (I1400 97 12).toInt := Eq.trans (congrArg Int32.toInt (rd_ne (by omega))) rfl
              have fl1426 : (((uI I1400 102 (Int32.toNatClampNeg (v1 + 6)) x1399) 97 12) : Int32).toInt = (I1400 97 12).toInt := e1425
              exact hQ _ _ _ _ hB1417 ⟨f1418, (PMp.o (PMp.tr (PMp.tr (PMp.tr (PMp.o (PMp.o (PMp.tr (PMp.o (PMp.tr (PMp.tr (PMp.refl I) m10) m1069) (by decide)) m1094) (by decide)) (by decide)) m1376) m1391) m1408) (by decide)), (fun hz => by have op0 := Or.resolve_left (Or.inr True.intro : (1 : Int) ≤ 0 ∨ True) (fun z => by have b := PMp.bad (PMp.o (PMp.tr (PMp.tr (PMp.tr (PMp.o (PMp.o (PMp.refl I1086) (by decide)) (by decide)) m1376) m1391) m1408) (by decide)) hz; omega); have op1 := Or.resolve_left (Hid.o hh1405).2.2.2.2 (fun z => by have b := PMp.bad (PMp.o (PMp.refl I1400) (by decide)) hz; omega); omega)⟩
            · skip
              have d1427 : ((x1366.toInt) : Int) = (0) := ci_eq rfl rfl c1380
              refine sp_X12_isSign hB1369 hR0 (fun x1428 y1433 I1429 J1430 hB1431 p1432 => ?_)
              intro o1434
              have hh1435 := Hid.i p1432
              clear p1432
              have f1436 : Fr pT I1367 I1429 := (Hid.o hh1435).2.2.2.2.1
              have f1437 : Fr (pW v1.toInt) I I1429 := Fr.tr f1375 f1436 (fun _ _ => trivial)
              have m1438 : PMp I1367 I1429 := (PMp.keep (Hid.o hh1435).1 (Hid.o hh1435).2.2.1 (Hid.o hh1435).2.2.2.1)
              have q1439 : (62 : Int32).toInt = 62 := rfl
              have e1440 : ((I1367 97 14) : Int32).toInt = (I1086 97 14).toInt := Eq.trans (congrArg Int32.toInt (Eq.trans (Eq.trans (Hid.o hh1373).2.2.1 (rd_ne (by omega))) (rd_ne (by omega)))) rfl
              have i1441 := i32 x1428
              refine ⟨fun c1442 => ?_, fun c1442 => ?_⟩
              · skip
                have d1443 : ¬ ((x1428.toInt) : Int) = (0) := ci_ne rfl rfl c1442
                refine sp_X12_must hB1431 hR0 (fun x1444 y1449 I1445 J1446 hB1447 p1448 => ?_)
                have hh1450 := Hid.i p1448
                clear p1448
                have f1451 : Fr pT I1429 I1445 := (Hid.o hh1450).2.1
                have f1452 : Fr (pW v1.toInt) I I1445 := Fr.tr f1437 f1451 (fun _ _ => trivial)
                have m1453 : PMp I1429 I1445 := (PMp.mk (Hid.o hh1450).2.2.1 (Hid.o hh1450).2.2.2.1)
                have q1454 : (1 : Int32).toInt = 1 := rfl
                have e1455 : ((I1429 97 12) : Int32).toInt = (I1086 97 12).toInt := Eq.trans (congrArg Int32.toInt (Eq.trans (Eq.trans (Eq.trans (Hid.o hh1435).1 (Hid.o hh1373).1) (rd_ne (by omega))) (rd_ne (by omega)))) rfl
                have e1456 : ((I1429 97 14) : Int32).toInt = (I1086 97 14).toInt := Eq.trans (congrArg Int32.toInt (Eq.trans (Eq.trans (Eq.trans (Hid.o hh1435).2.2.1 (Hid.o hh1373).2.2.1) (rd_ne (by omega))) (rd_ne (by omega)))) rfl
                have e1457 : ((I1429 97 16) : Int32).toInt = (I1086 97 16).toInt := Eq.trans (congrArg Int32.toInt (Eq.trans (Eq.trans (Eq.trans (Hid.o hh1435).2.2.2.1 (Hid.o hh1373).2.2.2.1) (rd_ne (by omega))) (rd_ne (by omega)))) rfl
                have b1458 := Bd.o hB1447 (show isO 112 97 12 = true from rfl) (show bnd 12 12 = some _ from rfl)
                have b1459 := Bd.o hB1447 (show isO 112 97 12 = true from rfl) (show bnd 12 14 = some _ from rfl)
                have b1460 := Bd.o hB1447 (show isO 112 97 12 = true from rfl) (show bnd 12 16 = some _ from rfl)
                refine sp_X12_count hB1447 hR0 (fun x1461 y1466 I1462 J1463 hB1464 p1465 => ?_)
                have hh1467 := Hid.i p1465
                clear p1465
                have f1468 : Fr pT I1445 I1462 := (Hid.o hh1467).2.1
                have f1469 : Fr (pW v1.toInt) I I1462 := Fr.tr f1452 f1468 (fun _ _ => trivial)
                have m1470 : PMp I1445 I1462 := (PMp.mk (Hid.o hh1467).2.2.1 (Hid.o hh1467).2.2.2.1)
                have wr1471 := Or.imp (fun z => z.2) (fun z => And.intro z.1 z.2.1) (Hid.o hh1467).2.2.2.2
                have q1472 : (0 : Int32).toInt = 0 := rfl
                have q1473 : (99 : Int32).toInt = 99 := rfl
                have b1474 := Bd.o hB1464 (show isO 112 97 12 = true from rfl) (show bnd 12 12 = some _ from rfl)
                have b1475 := Bd.o hB1464 (show isO 112 97 12 = true from rfl) (show bnd 12 14 = some _ from rfl)
                have b1476 := Bd.o hB1464 (show isO 112 97 12 = true from rfl) (show bnd 12 16 = some _ from rfl)
                have i1477 := i32 x1461
                have e1478 : ((v1 + 6) : Int32).toInt = (v1.toInt) + (6) := ti_add rfl rfl (by omega)
                refine ⟨vp_of (a := (v1.toInt + 6)) e1478 (by omega) (by omega), ?_⟩
                have hB1479 : Bd (uI I1462 102 (Int32.toNatClampNeg (v1 + 6)) x1461) := Bd.cnew hB1464 (show ((v1 + 6) : Int32).toInt = (v1.toInt + 6) from e1478) (show (x1461 : Int32).toInt = x1461.toInt from rfl) (by omega) (by omega) (by omega) 
                have f1480 : Fr (pW v1.toInt) I (uI I1462 102 (Int32.toNatClampNeg (v1 + 6)) x1461) := Fr.w f1469 (show ((v1 + 6) : Int32).toInt = (v1.toInt + 6) from e1478) (by omega) (fun j hj hp => by unfold pW at hp; omega)
                have td1481 : ((I1086 97 12) : Int32).toInt = (I1086 97 12).toInt := rfl
                have td1482 : ((I1086 97 12)).toInt = 0 → x1085.toInt < ((I 102 0)).toInt := fun hz => by have z := (Hid.o hh1091).2.2.2 hz rfl; rw [show (((uI I1061 102 (Int32.toNatClampNeg (v1 + 5)) x1) 102 0)) = (I 102 0) from (Eq.trans (Eq.trans (rd_k (fun z => by have z1 := tn_of (show (0 : Int32).toInt = 0 from rfl) (by omega); have z2 := tn_of (show ((v1 + 5) : Int32).toInt = (v1.toInt + 5) from e1080) (by omega); have z0 : (0 : Nat) = (Int32.toNatClampNeg (v1 + 5)) := z; have z4 : Int32.toNatClampNeg 0 = 0 := rfl; omega)) (f1067.1 0 trivial)) (f8.1 0 trivial))] at z; exact z
                have e1483 : (((uI I1462 102 (Int32.toNatClampNeg (v1 + 6)) x1461) 102 (Int32.toNatClampNeg (v1 + 1))) : Int32).toInt = x1085.toInt := Eq.trans (congrArg Int32.toInt (Eq.trans (Eq.trans (Eq.trans (Eq.trans (Eq.trans (Eq.trans (rd_k (fun z => by have z1 := tn_of (show ((v1 + 1) : Int32).toInt = (v1.toInt + 1) from e1106) (by omega); have z2 := tn_of (show ((v1 + 6) : Int32).toInt = (v1.toInt + 6) from e1478) (by omega); omega)) (f1468.1 (Int32.toNatClampNeg (v1 + 1)) trivial)) (f1451.1 (Int32.toNatClampNeg (v1 + 1)) trivial)) (f1436.1 (Int32.toNatClampNeg (v1 + 1)) trivial)) (f1374.1 (Int32.toNatClampNeg (v1 + 1)) trivial)) (rd_k (fun z => by have z1 := tn_of (show ((v1 + 1) : Int32).toInt = (v1.toInt + 1) from e1106) (by omega); have z2 := tn_of (show ((v1 + 7) : Int32).toInt = (v1.toInt + 7) from e1362) (by omega); omega))) rd_eq)) rfl
                have fl1484 : (((uI I1462 102 (Int32.toNatClampNeg (v1 + 6)) x1461) 102 (Int32.toNatClampNeg (v1 + 1))) : Int32).toInt = x1085.toInt := e1483
                have e1485 : (((uI I1462 102 (Int32.toNatClampNeg (v1 + 6)) x1461) 102 (Int32.toNatClampNeg (v1 + 5))) : Int32).toInt = x1.toInt := Eq.trans (congrArg Int32.toInt (Eq.trans (Eq.trans (Eq.trans (Eq.trans (Eq.trans (Eq.trans (Eq.trans (Eq.trans (rd_k (fun z => by have z1 := tn_of (show ((v1 + 5) : Int32).toInt = (v1.toInt + 5) from e1080) (by omega); have z2 := tn_of (show ((v1 + 6) : Int32).toInt = (v1.toInt + 6) from e1478) (by omega); omega)) (f1468.1 (Int32.toNatClampNeg (v1 + 5)) trivial)) (f1451.1 (Int32.toNatClampNeg (v1 + 5)) trivial)) (f1436.1 (Int32.toNatClampNeg (v1 + 5)) trivial)) (f1374.1 (Int32.toNatClampNeg (v1 + 5)) trivial)) (rd_k (fun z => by have z1 := tn_of (show ((v1 + 5) : Int32).toInt = (v1.toInt + 5) from e1080) (by omega); have z2 := tn_of (show ((v1 + 7) : Int32).toInt = (v1.toInt + 7) from e1362) (by omega); omega))) (rd_k (fun z => by have z1 := tn_of (show ((v1 + 5) : Int32).toInt = (v1.toInt + 5) from e1080) (by omega); have z2 := tn_of (show ((v1 + 1) : Int32).toInt = (v1.toInt + 1) from e1106) (by omega); omega))) (f1092.1 (Int32.toNatClampNeg (v1 + 5)) trivial)) rd_eq)) rfl
                have fl1486 : (((uI I1462 102 (Int32.toNatClampNeg (v1 + 6)) x1461) 102 (Int32.toNatClampNeg (v1 + 5))) : Int32).toInt = x1.toInt := e1485
                have e1487 : (((uI I1462 102 (Int32.toNatClampNeg (v1 + 6)) x1461) 97 12) : Int32).toInt = (I1462 97 12).toInt := Eq.trans (congrArg Int32.toInt (rd_ne (by omega))) rfl
                have fl1488 : (((uI I1462 102 (Int32.toNatClampNeg (v1 + 6)) x1461) 97 12) : Int32).toInt = (I1462 97 12).toInt := e1487
                exact hQ _ _ _ _ hB1479 ⟨f1480, (PMp.o (PMp.tr (PMp.tr (PMp.tr (PMp.tr (PMp.o (PMp.o (PMp.tr (PMp.o (PMp.tr (PMp.tr (PMp.refl I) m10) m1069) (by decide)) m1094) (by decide)) (by decide)) m1376) m1438) m1453) m1470) (by decide)), (fun hz => by have op0 := Or.resolve_left (Or.inr True.intro : (1 : Int) ≤ 0 ∨ True) (fun z => by have b := PMp.bad (PMp.o (PMp.tr (PMp.tr (PMp.tr (PMp.tr (PMp.o (PMp.o (PMp.refl I1086) (by decide)) (by decide)) m1376) m1438) m1453) m1470) (by decide)) hz; omega); have op1 := Or.resolve_left (Hid.o hh1467).2.2.2.2 (fun z => by have b := PMp.bad (PMp.o (PMp.refl I1462) (by decide)) hz; omega); omega)⟩
              · skip
                have d1489 : ((x1428.toInt) : Int) = (0) := ci_eq rfl rfl c1442
                refine sp_X12_isSign hB1431 hR0 (fun x1490 y1495 I1491 J1492 hB1493 p1494 => ?_)
                intro o1496
                have hh1497 := Hid.i p1494
                clear p1494
                have f1498 : Fr pT I1429 I1491 := (Hid.o hh1497).2.2.2.2.1
                have f1499 : Fr (pW v1.toInt) I I1491 := Fr.tr f1437 f1498 (fun _ _ => trivial)
                have m1500 : PMp I1429 I1491 := (PMp.keep (Hid.o hh1497).1 (Hid.o hh1497).2.2.1 (Hid.o hh1497).2.2.2.1)
                have q1501 : (61 : Int32).toInt = 61 := rfl
                have e1502 : ((I1429 97 14) : Int32).toInt = (I1086 97 14).toInt := Eq.trans (congrArg Int32.toInt (Eq.trans (Eq.trans (Eq.trans (Hid.o hh1435).2.2.1 (Hid.o hh1373).2.2.1) (rd_ne (by omega))) (rd_ne (by omega)))) rfl
                have i1503 := i32 x1490
                refine ⟨fun c1504 => ?_, fun c1504 => ?_⟩
                · skip
                  have d1505 : ((x1490.toInt) : Int) = (0) := ci_eq rfl rfl c1504
                  refine sp_X12_must hB1493 hR0 (fun x1506 y1511 I1507 J1508 hB1509 p1510 => ?_)
                  have hh1512 := Hid.i p1510
                  clear p1510
                  have f1513 : Fr pT I1491 I1507 := (Hid.o hh1512).2.1
                  have f1514 : Fr (pW v1.toInt) I I1507 := Fr.tr f1499 f1513 (fun _ _ => trivial)
                  have m1515 : PMp I1491 I1507 := (PMp.mk (Hid.o hh1512).2.2.1 (Hid.o hh1512).2.2.2.1)
                  have q1516 : (0 : Int32).toInt = 0 := rfl
                  have e1517 : ((I1491 97 12) : Int32).toInt = (I1086 97 12).toInt := Eq.trans (congrArg Int32.toInt (Eq.trans (Eq.trans (Eq.trans (Eq.trans (Hid.o hh1497).1 (Hid.o hh1435).1) (Hid.o hh1373).1) (rd_ne (by omega))) (rd_ne (by omega)))) rfl
                  have e1518 : ((I1491 97 14) : Int32).toInt = (I1086 97 14).toInt := Eq.trans (congrArg Int32.toInt (Eq.trans (Eq.trans (Eq.trans (Eq.trans (Hid.o hh1497).2.2.1 (Hid.o hh1435).2.2.1) (Hid.o hh1373).2.2.1) (rd_ne (by omega))) (rd_ne (by omega)))) rfl
                  have e1519 : ((I1491 97 16) : Int32).toInt = (I1086 97 16).toInt := Eq.trans (congrArg Int32.toInt (Eq.trans (Eq.trans (Eq.trans (Eq.trans (Hid.o hh1497).2.2.2.1 (Hid.o hh1435).2.2.2.1) (Hid.o hh1373).2.2.2.1) (rd_ne (by omega))) (rd_ne (by omega)))) rfl
                  have b1520 := Bd.o hB1509 (show isO 112 97 12 = true from rfl) (show bnd 12 12 = some _ from rfl)
                  have b1521 := Bd.o hB1509 (show isO 112 97 12 = true from rfl) (show bnd 12 14 = some _ from rfl)
                  have b1522 := Bd.o hB1509 (show isO 112 97 12 = true from rfl) (show bnd 12 16 = some _ from rfl)
                  refine sp_X12_count hB1509 hR0 (fun x1523 y1528 I1524 J1525 hB1526 p1527 => ?_)
                  have hh1529 := Hid.i p1527
                  clear p1527
                  have f1530 : Fr pT I1507 I1524 := (Hid.o hh1529).2.1
                  have f1531 : Fr (pW v1.toInt) I I1524 := Fr.tr f1514 f1530 (fun _ _ => trivial)
                  have m1532 : PMp I1507 I1524 := (PMp.mk (Hid.o hh1529).2.2.1 (Hid.o hh1529).2.2.2.1)
                  have wr1533 := Or.imp (fun z => z.2) (fun z => And.intro z.1 z.2.1) (Hid.o hh1529).2.2.2.2
                  have q1534 : (0 : Int32).toInt = 0 := rfl
                  have q1535 : (99 : Int32).toInt = 99 := rfl
                  have b1536 := Bd.o hB1526 (show isO 112 97 12 = true from rfl) (show bnd 12 12 = some _ from rfl)
                  have b1537 := Bd.o hB1526 (show isO 112 97 12 = true from rfl) (show bnd 12 14 = some _ from rfl)
                  have b1538 := Bd.o hB1526 (show isO 112 97 12 = true from rfl) (show bnd 12 16 = some _ from rfl)
                  have i1539 := i32 x1523
                  have e1540 : ((v1 + 6) : Int32).toInt = (v1.toInt) + (6) := ti_add rfl rfl (by omega)
                  refine ⟨vp_of (a := (v1.toInt + 6)) e1540 (by omega) (by omega), ?_⟩
                  have hB1541 : Bd (uI I1524 102 (Int32.toNatClampNeg (v1 + 6)) x1523) := Bd.cnew hB1526 (show ((v1 + 6) : Int32).toInt = (v1.toInt + 6) from e1540) (show (x1523 : Int32).toInt = x1523.toInt from rfl) (by omega) (by omega) (by omega) 
                  have f1542 : Fr (pW v1.toInt) I (uI I1524 102 (Int32.toNatClampNeg (v1 + 6)) x1523) := Fr.w f1531 (show ((v1 + 6) : Int32).toInt = (v1.toInt + 6) from e1540) (by omega) (fun j hj hp => by unfold pW at hp; omega)
                  have td1543 : ((I1086 97 12) : Int32).toInt = (I1086 97 12).toInt := rfl
                  have td1544 : ((I1086 97 12)).toInt = 0 → x1085.toInt < ((I 102 0)).toInt := fun hz => by have z := (Hid.o hh1091).2.2.2 hz rfl; rw [show (((uI I1061 102 (Int32.toNatClampNeg (v1 + 5)) x1) 102 0)) = (I 102 0) from (Eq.trans (Eq.trans (rd_k (fun z => by have z1 := tn_of (show (0 : Int32).toInt = 0 from rfl) (by omega); have z2 := tn_of (show ((v1 + 5) : Int32).toInt = (v1.toInt + 5) from e1080) (by omega); have z0 : (0 : Nat) = (Int32.toNatClampNeg (v1 + 5)) := z; have z4 : Int32.toNatClampNeg 0 = 0 := rfl; omega)) (f1067.1 0 trivial)) (f8.1 0 trivial))] at z; exact z
                  have e1545 : (((uI I1524 102 (Int32.toNatClampNeg (v1 + 6)) x1523) 102 (Int32.toNatClampNeg (v1 + 1))) : Int32).toInt = x1085.toInt := Eq.trans (congrArg Int32.toInt (Eq.trans (Eq.trans (Eq.trans (Eq.trans (Eq.trans (Eq.trans (Eq.trans (rd_k (fun z => by have z1 := tn_of (show ((v1 + 1) : Int32).toInt = (v1.toInt + 1) from e1106) (by omega); have z2 := tn_of (show ((v1 + 6) : Int32).toInt = (v1.toInt + 6) from e1540) (by omega); omega)) (f1530.1 (Int32.toNatClampNeg (v1 + 1)) trivial)) (f1513.1 (Int32.toNatClampNeg (v1 + 1)) trivial)) (f1498.1 (Int32.toNatClampNeg (v1 + 1)) trivial)) (f1436.1 (Int32.toNatClampNeg (v1 + 1)) trivial)) (f1374.1 (Int32.toNatClampNeg (v1 + 1)) trivial)) (rd_k (fun z => by have z1 := tn_of (show ((v1 + 1) : Int32).toInt = (v1.toInt + 1) from e1106) (by omega); have z2 := tn_of (show ((v1 + 7) : Int32).toInt = (v1.toInt + 7) from e1362) (by omega); omega))) rd_eq)) rfl
                  have fl1546 : (((uI I1524 102 (Int32.toNatClampNeg (v1 + 6)) x1523) 102 (Int32.toNatClampNeg (v1 + 1))) : Int32).toInt = x1085.toInt := e1545
                  have e1547 : (((uI I1524 102 (Int32.toNatClampNeg (v1 + 6)) x1523) 102 (Int32.toNatClampNeg (v1 + 5))) : Int32).toInt = x1.toInt := Eq.trans (congrArg Int32.toInt (Eq.trans (Eq.trans (Eq.trans (Eq.trans (Eq.trans (Eq.trans (Eq.trans (Eq.trans (Eq.trans (rd_k (fun z => by have z1 := tn_of (show ((v1 + 5) : Int32).toInt = (v1.toInt + 5) from e1080) (by omega); have z2 := tn_of (show ((v1 + 6) : Int32).toInt = (v1.toInt + 6) from e1540) (by omega); omega)) (f1530.1 (Int32.toNatClampNeg (v1 + 5)) trivial)) (f1513.1 (Int32.toNatClampNeg (v1 + 5)) trivial)) (f1498.1 (Int32.toNatClampNeg (v1 + 5)) trivial)) (f1436.1 (Int32.toNatClampNeg (v1 + 5)) trivial)) (f1374.1 (Int32.toNatClampNeg (v1 + 5)) trivial)) (rd_k (fun z => by have z1 := tn_of (show ((v1 + 5) : Int32).toInt = (v1.toInt + 5) from e1080) (by omega); have z2 := tn_of (show ((v1 + 7) : Int32).toInt = (v1.toInt + 7) from e1362) (by omega); omega))) (rd_k (fun z => by have z1 := tn_of (show ((v1 + 5) : Int32).toInt = (v1.toInt + 5) from e1080) (by omega); have z2 := tn_of (show ((v1 + 1) : Int32).toInt = (v1.toInt + 1) from e1106) (by omega); omega))) (f1092.1 (Int32.toNatClampNeg (v1 + 5)) trivial)) rd_eq)) rfl
                  have fl1548 : (((uI I1524 102 (Int32.toNatClampNeg (v1 + 6)) x1523) 102 (Int32.toNatClampNeg (v1 + 5))) : Int32).toInt = x1.toInt := e1547
                  have e1549 : (((uI I1524 102 (Int32.toNatClampNeg (v1 + 6)) x1523) 97 12) : Int32).toInt = (I1524 97 12).toInt := Eq.trans (congrArg Int32.toInt (rd_ne (by omega))) rfl
                  have fl1550 : (((uI I1524 102 (Int32.toNatClampNeg (v1 + 6)) x1523) 97 12) : Int32).toInt = (I1524 97 12).toInt := e1549
                  exact hQ _ _ _ _ hB1541 ⟨f1542, (PMp.o (PMp.tr (PMp.tr (PMp.tr (PMp.tr (PMp.tr (PMp.o (PMp.o (PMp.tr (PMp.o (PMp.tr (PMp.tr (PMp.refl I) m10) m1069) (by decide)) m1094) (by decide)) (by decide)) m1376) m1438) m1500) m1515) m1532) (by decide)), (fun hz => by have op0 := Or.resolve_left (Or.inr True.intro : (1 : Int) ≤ 0 ∨ True) (fun z => by have b := PMp.bad (PMp.o (PMp.tr (PMp.tr (PMp.tr (PMp.tr (PMp.tr (PMp.o (PMp.o (PMp.refl I1086) (by decide)) (by decide)) m1376) m1438) m1500) m1515) m1532) (by decide)) hz; omega); have op1 := Or.resolve_left (Hid.o hh1529).2.2.2.2 (fun z => by have b := PMp.bad (PMp.o (PMp.refl I1524) (by decide)) hz; omega); omega)⟩
                · skip
                  have d1551 : ¬ ((x1490.toInt) : Int) = (0) := ci_ne rfl rfl c1504
                  refine sp_X12_must hB1493 hR0 (fun x1552 y1557 I1553 J1554 hB1555 p1556 => ?_)
                  have hh1558 := Hid.i p1556
                  clear p1556
                  have f1559 : Fr pT I1491 I1553 := (Hid.o hh1558).2.1
                  have f1560 : Fr (pW v1.toInt) I I1553 := Fr.tr f1499 f1559 (fun _ _ => trivial)
                  have m1561 : PMp I1491 I1553 := (PMp.mk (Hid.o hh1558).2.2.1 (Hid.o hh1558).2.2.2.1)
                  have q1562 : (1 : Int32).toInt = 1 := rfl
                  have e1563 : ((I1491 97 12) : Int32).toInt = (I1086 97 12).toInt := Eq.trans (congrArg Int32.toInt (Eq.trans (Eq.trans (Eq.trans (Eq.trans (Hid.o hh1497).1 (Hid.o hh1435).1) (Hid.o hh1373).1) (rd_ne (by omega))) (rd_ne (by omega)))) rfl
                  have e1564 : ((I1491 97 14) : Int32).toInt = (I1086 97 14).toInt := Eq.trans (congrArg Int32.toInt (Eq.trans (Eq.trans (Eq.trans (Eq.trans (Hid.o hh1497).2.2.1 (Hid.o hh1435).2.2.1) (Hid.o hh1373).2.2.1) (rd_ne (by omega))) (rd_ne (by omega)))) rfl
                  have e1565 : ((I1491 97 16) : Int32).toInt = (I1086 97 16).toInt := Eq.trans (congrArg Int32.toInt (Eq.trans (Eq.trans (Eq.trans (Eq.trans (Hid.o hh1497).2.2.2.1 (Hid.o hh1435).2.2.2.1) (Hid.o hh1373).2.2.2.1) (rd_ne (by omega))) (rd_ne (by omega)))) rfl
                  have b1566 := Bd.o hB1555 (show isO 112 97 12 = true from rfl) (show bnd 12 12 = some _ from rfl)
                  have b1567 := Bd.o hB1555 (show isO 112 97 12 = true from rfl) (show bnd 12 14 = some _ from rfl)
                  have b1568 := Bd.o hB1555 (show isO 112 97 12 = true from rfl) (show bnd 12 16 = some _ from rfl)
                  refine sp_X12_count hB1555 hR0 (fun x1569 y1574 I1570 J1571 hB1572 p1573 => ?_)
                  have hh1575 := Hid.i p1573
                  clear p1573
                  have f1576 : Fr pT I1553 I1570 := (Hid.o hh1575).2.1
                  have f1577 : Fr (pW v1.toInt) I I1570 := Fr.tr f1560 f1576 (fun _ _ => trivial)
                  have m1578 : PMp I1553 I1570 := (PMp.mk (Hid.o hh1575).2.2.1 (Hid.o hh1575).2.2.2.1)
                  have wr1579 := Or.imp (fun z => z.2) (fun z => And.intro z.1 z.2.1) (Hid.o hh1575).2.2.2.2
                  have q1580 : (0 : Int32).toInt = 0 := rfl
                  have q1581 : (99 : Int32).toInt = 99 := rfl
                  have b1582 := Bd.o hB1572 (show isO 112 97 12 = true from rfl) (show bnd 12 12 = some _ from rfl)
                  have b1583 := Bd.o hB1572 (show isO 112 97 12 = true from rfl) (show bnd 12 14 = some _ from rfl)
                  have b1584 := Bd.o hB1572 (show isO 112 97 12 = true from rfl) (show bnd 12 16 = some _ from rfl)
                  have i1585 := i32 x1569
                  have e1586 : ((v1 + 6) : Int32).toInt = (v1.toInt) + (6) := ti_add rfl rfl (by omega)
                  refine ⟨vp_of (a := (v1.toInt + 6)) e1586 (by omega) (by omega), ?_⟩
                  have hB1587 : Bd (uI I1570 102 (Int32.toNatClampNeg (v1 + 6)) x1569) := Bd.cnew hB1572 (show ((v1 + 6) : Int32).toInt = (v1.toInt + 6) from e1586) (show (x1569 : Int32).toInt = x1569.toInt from rfl) (by omega) (by omega) (by omega) 
                  have f1588 : Fr (pW v1.toInt) I (uI I1570 102 (Int32.toNatClampNeg (v1 + 6)) x1569) := Fr.w f1577 (show ((v1 + 6) : Int32).toInt = (v1.toInt + 6) from e1586) (by omega) (fun j hj hp => by unfold pW at hp; omega)
                  have td1589 : ((I1086 97 12) : Int32).toInt = (I1086 97 12).toInt := rfl
                  have td1590 : ((I1086 97 12)).toInt = 0 → x1085.toInt < ((I 102 0)).toInt := fun hz => by have z := (Hid.o hh1091).2.2.2 hz rfl; rw [show (((uI I1061 102 (Int32.toNatClampNeg (v1 + 5)) x1) 102 0)) = (I 102 0) from (Eq.trans (Eq.trans (rd_k (fun z => by have z1 := tn_of (show (0 : Int32).toInt = 0 from rfl) (by omega); have z2 := tn_of (show ((v1 + 5) : Int32).toInt = (v1.toInt + 5) from e1080) (by omega); have z0 : (0 : Nat) = (Int32.toNatClampNeg (v1 + 5)) := z; have z4 : Int32.toNatClampNeg 0 = 0 := rfl; omega)) (f1067.1 0 trivial)) (f8.1 0 trivial))] at z; exact z
                  have e1591 : (((uI I1570 102 (Int32.toNatClampNeg (v1 + 6)) x1569) 102 (Int32.toNatClampNeg (v1 + 1))) : Int32).toInt = x1085.toInt := Eq.trans (congrArg Int32.toInt (Eq.trans (Eq.trans (Eq.trans (Eq.trans (Eq.trans (Eq.trans (Eq.trans (rd_k (fun z => by have z1 := tn_of (show ((v1 + 1) : Int32).toInt = (v1.toInt + 1) from e1106) (by omega); have z2 := tn_of (show ((v1 + 6) : Int32).toInt = (v1.toInt + 6) from e1586) (by omega); omega)) (f1576.1 (Int32.toNatClampNeg (v1 + 1)) trivial)) (f1559.1 (Int32.toNatClampNeg (v1 + 1)) trivial)) (f1498.1 (Int32.toNatClampNeg (v1 + 1)) trivial)) (f1436.1 (Int32.toNatClampNeg (v1 + 1)) trivial)) (f1374.1 (Int32.toNatClampNeg (v1 + 1)) trivial)) (rd_k (fun z => by have z1 := tn_of (show ((v1 + 1) : Int32).toInt = (v1.toInt + 1) from e1106) (by omega); have z2 := tn_of (show ((v1 + 7) : Int32).toInt = (v1.toInt + 7) from e1362) (by omega); omega))) rd_eq)) rfl
                  have fl1592 : (((uI I1570 102 (Int32.toNatClampNeg (v1 + 6)) x1569) 102 (Int32.toNatClampNeg (v1 + 1))) : Int32).toInt = x1085.toInt := e1591
                  have e1593 : (((uI I1570 102 (Int32.toNatClampNeg (v1 + 6)) x1569) 102 (Int32.toNatClampNeg (v1 + 5))) : Int32).toInt = x1.toInt := Eq.trans (congrArg Int32.toInt (Eq.trans (Eq.trans (Eq.trans (Eq.trans (Eq.trans (Eq.trans (Eq.trans (Eq.trans (Eq.trans (rd_k (fun z => by have z1 := tn_of (show ((v1 + 5) : Int32).toInt = (v1.toInt + 5) from e1080) (by omega); have z2 := tn_of (show ((v1 + 6) : Int32).toInt = (v1.toInt + 6) from e1586) (by omega); omega)) (f1576.1 (Int32.toNatClampNeg (v1 + 5)) trivial)) (f1559.1 (Int32.toNatClampNeg (v1 + 5)) trivial)) (f1498.1 (Int32.toNatClampNeg (v1 + 5)) trivial)) (f1436.1 (Int32.toNatClampNeg (v1 + 5)) trivial)) (f1374.1 (Int32.toNatClampNeg (v1 + 5)) trivial)) (rd_k (fun z => by have z1 := tn_of (show ((v1 + 5) : Int32).toInt = (v1.toInt + 5) from e1080) (by omega); have z2 := tn_of (show ((v1 + 7) : Int32).toInt = (v1.toInt + 7) from e1362) (by omega); omega))) (rd_k (fun z => by have z1 := tn_of (show ((v1 + 5) : Int32).toInt = (v1.toInt + 5) from e1080) (by omega); have z2 := tn_of (show ((v1 + 1) : Int32).toInt = (v1.toInt + 1) from e1106) (by omega); omega))) (f1092.1 (Int32.toNatClampNeg (v1 + 5)) trivial)) rd_eq)) rfl
                  have fl1594 : (((uI I1570 102 (Int32.toNatClampNeg (v1 + 6)) x1569) 102 (Int32.toNatClampNeg (v1 + 5))) : Int32).toInt = x1.toInt := e1593
                  have e1595 : (((uI I1570 102 (Int32.toNatClampNeg (v1 + 6)) x1569) 97 12) : Int32).toInt = (I1570 97 12).toInt := Eq.trans (congrArg Int32.toInt (rd_ne (by omega))) rfl
                  have fl1596 : (((uI I1570 102 (Int32.toNatClampNeg (v1 + 6)) x1569) 97 12) : Int32).toInt = (I1570 97 12).toInt := e1595
                  exact hQ _ _ _ _ hB1587 ⟨f1588, (PMp.o (PMp.tr (PMp.tr (PMp.tr (PMp.tr (PMp.tr (PMp.o (PMp.o (PMp.tr (PMp.o (PMp.tr (PMp.tr (PMp.refl I) m10) m1069) (by decide)) m1094) (by decide)) (by decide)) m1376) m1438) m1500) m1561) m1578) (by decide)), (fun hz => by have op0 := Or.resolve_left (Or.inr True.intro : (1 : Int) ≤ 0 ∨ True) (fun z => by have b := PMp.bad (PMp.o (PMp.tr (PMp.tr (PMp.tr (PMp.tr (PMp.tr (PMp.o (PMp.o (PMp.refl I1086) (by decide)) (by decide)) m1376) m1438) m1500) m1561) m1578) (by decide)) hz; omega); have op1 := Or.resolve_left (Hid.o hh1575).2.2.2.2 (fun z => by have b := PMp.bad (PMp.o (PMp.refl I1570) (by decide)) hz; omega); omega)⟩
        · skip
          have d1597 : ((x1.toInt) : Int) = (0) := ci_eq rfl rfl c1121
          have td1598 : ((I1086 97 12) : Int32).toInt = (I1086 97 12).toInt := rfl
          have td1599 : ((I1086 97 12)).toInt = 0 → x1085.toInt < ((I 102 0)).toInt := fun hz => by have z := (Hid.o hh1091).2.2.2 hz rfl; rw [show (((uI I1061 102 (Int32.toNatClampNeg (v1 + 5)) x1) 102 0)) = (I 102 0) from (Eq.trans (Eq.trans (rd_k (fun z => by have z1 := tn_of (show (0 : Int32).toInt = 0 from rfl) (by omega); have z2 := tn_of (show ((v1 + 5) : Int32).toInt = (v1.toInt + 5) from e1080) (by omega); have z0 : (0 : Nat) = (Int32.toNatClampNeg (v1 + 5)) := z; have z4 : Int32.toNatClampNeg 0 = 0 := rfl; omega)) (f1067.1 0 trivial)) (f8.1 0 trivial))] at z; exact z
          have e1600 : (((uI I1086 102 (Int32.toNatClampNeg (v1 + 1)) x1085) 102 (Int32.toNatClampNeg (v1 + 1))) : Int32).toInt = x1085.toInt := Eq.trans (congrArg Int32.toInt rd_eq) rfl
          have fl1601 : (((uI I1086 102 (Int32.toNatClampNeg (v1 + 1)) x1085) 102 (Int32.toNatClampNeg (v1 + 1))) : Int32).toInt = x1085.toInt := e1600
          have e1602 : (((uI I1086 102 (Int32.toNatClampNeg (v1 + 1)) x1085) 102 (Int32.toNatClampNeg (v1 + 5))) : Int32).toInt = x1.toInt := Eq.trans (congrArg Int32.toInt (Eq.trans (Eq.trans (rd_k (fun z => by have z1 := tn_of (show ((v1 + 5) : Int32).toInt = (v1.toInt + 5) from e1080) (by omega); have z2 := tn_of (show ((v1 + 1) : Int32).toInt = (v1.toInt + 1) from e1106) (by omega); omega)) (f1092.1 (Int32.toNatClampNeg (v1 + 5)) trivial)) rd_eq)) rfl
          have fl1603 : (((uI I1086 102 (Int32.toNatClampNeg (v1 + 1)) x1085) 102 (Int32.toNatClampNeg (v1 + 5))) : Int32).toInt = x1.toInt := e1602
          have fl1604 : (((uI I1086 102 (Int32.toNatClampNeg (v1 + 1)) x1085) 97 12) : Int32).toInt = (I1086 97 12).toInt := e1119
          exact hQ _ _ _ _ hB1107 ⟨f1108, (PMp.o (PMp.tr (PMp.o (PMp.tr (PMp.tr (PMp.refl I) m10) m1069) (by decide)) m1094) (by decide)), (fun hz => by have op0 := Or.resolve_left (Or.inr True.intro : (1 : Int) ≤ 0 ∨ True) (fun z => by have b := PMp.bad (PMp.o (PMp.refl I1086) (by decide)) hz; omega); omega)⟩
    · skip
      have d1605 : ((x1.toInt) : Int) = (1) := ci_eq rfl rfl c1083
      refine sp_X12_count hB1081 hR0 (fun x1606 y1611 I1607 J1608 hB1609 p1610 => ?_)
      have hh1612 := Hid.i p1610
      clear p1610
      have f1613 : Fr pT (uI I1061 102 (Int32.toNatClampNeg (v1 + 5)) x1) I1607 := (Hid.o hh1612).2.1
      have f1614 : Fr (pW v1.toInt) I I1607 := Fr.tr f1082 f1613 (fun _ _ => trivial)
      have m1615 : PMp (uI I1061 102 (Int32.toNatClampNeg (v1 + 5)) x1) I1607 := (PMp.mk (Hid.o hh1612).2.2.1 (Hid.o hh1612).2.2.2.1)
      have wr1616 := Or.imp (fun z => z.2) (fun z => And.intro z.1 z.2.1) (Hid.o hh1612).2.2.2.2
      have q1617 : (1 : Int32).toInt = 1 := rfl
      have q1618 : (30 : Int32).toInt = 30 := rfl
      have e1619 : (((uI I1061 102 (Int32.toNatClampNeg (v1 + 5)) x1) 97 12) : Int32).toInt = (I1061 97 12).toInt := Eq.trans (congrArg Int32.toInt (rd_ne (by omega))) rfl
      have e1620 : (((uI I1061 102 (Int32.toNatClampNeg (v1 + 5)) x1) 97 14) : Int32).toInt = (I1061 97 14).toInt := Eq.trans (congrArg Int32.toInt (rd_ne (by omega))) rfl
      have e1621 : (((uI I1061 102 (Int32.toNatClampNeg (v1 + 5)) x1) 97 16) : Int32).toInt = (I1061 97 16).toInt := Eq.trans (congrArg Int32.toInt (rd_ne (by omega))) rfl
      have b1622 := Bd.o hB1609 (show isO 112 97 12 = true from rfl) (show bnd 12 12 = some _ from rfl)
      have b1623 := Bd.o hB1609 (show isO 112 97 12 = true from rfl) (show bnd 12 14 = some _ from rfl)
      have b1624 := Bd.o hB1609 (show isO 112 97 12 = true from rfl) (show bnd 12 16 = some _ from rfl)
      have i1625 := i32 x1606
      have e1626 : ((v1 + 1) : Int32).toInt = (v1.toInt) + (1) := ti_add rfl rfl (by omega)
      refine ⟨vp_of (a := (v1.toInt + 1)) e1626 (by omega) (by omega), ?_⟩
      have hB1627 : Bd (uI I1607 102 (Int32.toNatClampNeg (v1 + 1)) x1606) := Bd.cnew hB1609 (show ((v1 + 1) : Int32).toInt = (v1.toInt + 1) from e1626) (show (x1606 : Int32).toInt = x1606.toInt from rfl) (by omega) (by omega) (by omega) 
      have f1628 : Fr (pW v1.toInt) I (uI I1607 102 (Int32.toNatClampNeg (v1 + 1)) x1606) := Fr.w f1614 (show ((v1 + 1) : Int32).toInt = (v1.toInt + 1) from e1626) (by omega) (fun j hj hp => by unfold pW at hp; omega)
      refine ⟨fun c1629 => ?_, fun c1629 => ?_⟩
      · skip
        have e1630 : (((uI I1607 102 (Int32.toNatClampNeg (v1 + 1)) x1606) 97 12) : Int32).toInt = (I1607 97 12).toInt := Eq.trans (congrArg Int32.toInt (rd_ne (by omega))) rfl
        have d1631 : ((0) : Int) < ((I1607 97 12).toInt) := ci_lt rfl e1630 c1629
        have e1632 : (((uI I1607 102 (Int32.toNatClampNeg (v1 + 1)) x1606) 102 (Int32.toNatClampNeg (v1 + 1))) : Int32).toInt = x1606.toInt := Eq.trans (congrArg Int32.toInt rd_eq) rfl
        have fl1633 : (((uI I1607 102 (Int32.toNatClampNeg (v1 + 1)) x1606) 102 (Int32.toNatClampNeg (v1 + 1))) : Int32).toInt = x1606.toInt := e1632
        have e1634 : (((uI I1607 102 (Int32.toNatClampNeg (v1 + 1)) x1606) 102 (Int32.toNatClampNeg (v1 + 5))) : Int32).toInt = x1.toInt := Eq.trans (congrArg Int32.toInt (Eq.trans (Eq.trans (rd_k (fun z => by have z1 := tn_of (show ((v1 + 5) : Int32).toInt = (v1.toInt + 5) from e1080) (by omega); have z2 := tn_of (show ((v1 + 1) : Int32).toInt = (v1.toInt + 1) from e1626) (by omega); omega)) (f1613.1 (Int32.toNatClampNeg (v1 + 5)) trivial)) rd_eq)) rfl
        have fl1635 : (((uI I1607 102 (Int32.toNatClampNeg (v1 + 1)) x1606) 102 (Int32.toNatClampNeg (v1 + 5))) : Int32).toInt = x1.toInt := e1634
        have fl1636 : (((uI I1607 102 (Int32.toNatClampNeg (v1 + 1)) x1606) 97 12) : Int32).toInt = (I1607 97 12).toInt := e1630
        exact hQ _ _ _ _ hB1627 ⟨f1628, (PMp.o (PMp.tr (PMp.o (PMp.tr (PMp.tr (PMp.refl I) m10) m1069) (by decide)) m1615) (by decide)), (fun hz => by have op0 := Or.resolve_left (Hid.o hh1612).2.2.2.2 (fun z => by have b := PMp.bad (PMp.o (PMp.refl I1607) (by decide)) hz; omega); omega)⟩
      · skip
        have e1637 : (((uI I1607 102 (Int32.toNatClampNeg (v1 + 1)) x1606) 97 12) : Int32).toInt = (I1607 97 12).toInt := Eq.trans (congrArg Int32.toInt (rd_ne (by omega))) rfl
        have d1638 : (((I1607 97 12).toInt) : Int) ≤ (0) := ci_nlt rfl e1637 c1629
        refine ⟨fun c1639 => ?_, fun c1639 => ?_⟩
        · skip
          have d1640 : ¬ ((x1.toInt) : Int) = (0) := ci_ne rfl rfl c1639
          refine ⟨fun c1641 => ?_, fun c1641 => ?_⟩
          · skip
            have e1642 : (((uI I1607 102 (Int32.toNatClampNeg (v1 + 1)) x1606) 97 14) : Int32).toInt = (I1607 97 14).toInt := Eq.trans (congrArg Int32.toInt (rd_ne (by omega))) rfl
            have d1643 : ¬ (((I1607 97 14).toInt) : Int) = (3) := ci_ne e1642 rfl c1641
            have e1644 : ((v1 + 7) : Int32).toInt = (v1.toInt) + (7) := ti_add rfl rfl (by omega)
            refine ⟨vp_of (a := (v1.toInt + 7)) e1644 (by omega) (by omega), ?_⟩
            have hB1645 : Bd (uI (uI I1607 102 (Int32.toNatClampNeg (v1 + 1)) x1606) 102 (Int32.toNatClampNeg (v1 + 7)) 0) := Bd.cnew hB1627 (show ((v1 + 7) : Int32).toInt = (v1.toInt + 7) from e1644) (show (0 : Int32).toInt = 0 from rfl) (by omega) (by omega) (by omega) 
            have f1646 : Fr (pW v1.toInt) I (uI (uI I1607 102 (Int32.toNatClampNeg (v1 + 1)) x1606) 102 (Int32.toNatClampNeg (v1 + 7)) 0) := Fr.w f1628 (show ((v1 + 7) : Int32).toInt = (v1.toInt + 7) from e1644) (by omega) (fun j hj hp => by unfold pW at hp; omega)
            refine sp_X12_isSign hB1645 hR0 (fun x1647 y1652 I1648 J1649 hB1650 p1651 => ?_)
            intro o1653
            have hh1654 := Hid.i p1651
            clear p1651
            have f1655 : Fr pT (uI (uI I1607 102 (Int32.toNatClampNeg (v1 + 1)) x1606) 102 (Int32.toNatClampNeg (v1 + 7)) 0) I1648 := (Hid.o hh1654).2.2.2.2.1
            have f1656 : Fr (pW v1.toInt) I I1648 := Fr.tr f1646 f1655 (fun _ _ => trivial)
            have m1657 : PMp (uI (uI I1607 102 (Int32.toNatClampNeg (v1 + 1)) x1606) 102 (Int32.toNatClampNeg (v1 + 7)) 0) I1648 := (PMp.keep (Hid.o hh1654).1 (Hid.o hh1654).2.2.1 (Hid.o hh1654).2.2.2.1)
            have q1658 : (60 : Int32).toInt = 60 := rfl
            have e1659 : (((uI (uI I1607 102 (Int32.toNatClampNeg (v1 + 1)) x1606) 102 (Int32.toNatClampNeg (v1 + 7)) 0) 97 14) : Int32).toInt = (I1607 97 14).toInt := Eq.trans (congrArg Int32.toInt (Eq.trans (rd_ne (by omega)) (rd_ne (by omega)))) rfl
            have i1660 := i32 x1647
            refine ⟨fun c1661 => ?_, fun c1661 => ?_⟩
            · skip
              have d1662 : ¬ ((x1647.toInt) : Int) = (0) := ci_ne rfl rfl c1661
              refine sp_X12_must hB1650 hR0 (fun x1663 y1668 I1664 J1665 hB1666 p1667 => ?_)
              have hh1669 := Hid.i p1667
              clear p1667
              have f1670 : Fr pT I1648 I1664 := (Hid.o hh1669).2.1
              have f1671 : Fr (pW v1.toInt) I I1664 := Fr.tr f1656 f1670 (fun _ _ => trivial)
              have m1672 : PMp I1648 I1664 := (PMp.mk (Hid.o hh1669).2.2.1 (Hid.o hh1669).2.2.2.1)
              have q1673 : (1 : Int32).toInt = 1 := rfl
              have e1674 : ((I1648 97 12) : Int32).toInt = (I1607 97 12).toInt := Eq.trans (congrArg Int32.toInt (Eq.trans (Eq.trans (Hid.o hh1654).1 (rd_ne (by omega))) (rd_ne (by omega)))) rfl
              have e1675 : ((I1648 97 14) : Int32).toInt = (I1607 97 14).toInt := Eq.trans (congrArg Int32.toInt (Eq.trans (Eq.trans (Hid.o hh1654).2.2.1 (rd_ne (by omega))) (rd_ne (by omega)))) rfl
              have e1676 : ((I1648 97 16) : Int32).toInt = (I1607 97 16).toInt := Eq.trans (congrArg Int32.toInt (Eq.trans (Eq.trans (Hid.o hh1654).2.2.2.1 (rd_ne (by omega))) (rd_ne (by omega)))) rfl
              have b1677 := Bd.o hB1666 (show isO 112 97 12 = true from rfl) (show bnd 12 12 = some _ from rfl)
              have b1678 := Bd.o hB1666 (show isO 112 97 12 = true from rfl) (show bnd 12 14 = some _ from rfl)
              have b1679 := Bd.o hB1666 (show isO 112 97 12 = true from rfl) (show bnd 12 16 = some _ from rfl)
              refine sp_X12_count hB1666 hR0 (fun x1680 y1685 I1681 J1682 hB1683 p1684 => ?_)
              have hh1686 := Hid.i p1684
              clear p1684
              have f1687 : Fr pT I1664 I1681 := (Hid.o hh1686).2.1
              have f1688 : Fr (pW v1.toInt) I I1681 := Fr.tr f1671 f1687 (fun _ _ => trivial)
              have m1689 : PMp I1664 I1681 := (PMp.mk (Hid.o hh1686).2.2.1 (Hid.o hh1686).2.2.2.1)
              have wr1690 := Or.imp (fun z => z.2) (fun z => And.intro z.1 z.2.1) (Hid.o hh1686).2.2.2.2
              have q1691 : (0 : Int32).toInt = 0 := rfl
              have q1692 : (99 : Int32).toInt = 99 := rfl
              have b1693 := Bd.o hB1683 (show isO 112 97 12 = true from rfl) (show bnd 12 12 = some _ from rfl)
              have b1694 := Bd.o hB1683 (show isO 112 97 12 = true from rfl) (show bnd 12 14 = some _ from rfl)
              have b1695 := Bd.o hB1683 (show isO 112 97 12 = true from rfl) (show bnd 12 16 = some _ from rfl)
              have i1696 := i32 x1680
              have e1697 : ((v1 + 6) : Int32).toInt = (v1.toInt) + (6) := ti_add rfl rfl (by omega)
              refine ⟨vp_of (a := (v1.toInt + 6)) e1697 (by omega) (by omega), ?_⟩
              have hB1698 : Bd (uI I1681 102 (Int32.toNatClampNeg (v1 + 6)) x1680) := Bd.cnew hB1683 (show ((v1 + 6) : Int32).toInt = (v1.toInt + 6) from e1697) (show (x1680 : Int32).toInt = x1680.toInt from rfl) (by omega) (by omega) (by omega) 
              have f1699 : Fr (pW v1.toInt) I (uI I1681 102 (Int32.toNatClampNeg (v1 + 6)) x1680) := Fr.w f1688 (show ((v1 + 6) : Int32).toInt = (v1.toInt + 6) from e1697) (by omega) (fun j hj hp => by unfold pW at hp; omega)
              have e1700 : (((uI I1681 102 (Int32.toNatClampNeg (v1 + 6)) x1680) 102 (Int32.toNatClampNeg (v1 + 1))) : Int32).toInt = x1606.toInt := Eq.trans (congrArg Int32.toInt (Eq.trans (Eq.trans (Eq.trans (Eq.trans (Eq.trans (rd_k (fun z => by have z1 := tn_of (show ((v1 + 1) : Int32).toInt = (v1.toInt + 1) from e1626) (by omega); have z2 := tn_of (show ((v1 + 6) : Int32).toInt = (v1.toInt + 6) from e1697) (by omega); omega)) (f1687.1 (Int32.toNatClampNeg (v1 + 1)) trivial)) (f1670.1 (Int32.toNatClampNeg (v1 + 1)) trivial)) (f1655.1 (Int32.toNatClampNeg (v1 + 1)) trivial)) (rd_k (fun z => by have z1 := tn_of (show ((v1 + 1) : Int32).toInt = (v1.toInt + 1) from e1626) (by omega); have z2 := tn_of (show ((v1 + 7) : Int32).toInt = (v1.toInt + 7) from e1644) (by omega); omega))) rd_eq)) rfl
              have fl1701 : (((uI I1681 102 (Int32.toNatClampNeg (v1 + 6)) x1680) 102 (Int32.toNatClampNeg (v1 + 1))) : Int32).toInt = x1606.toInt := e1700
              have e1702 : (((uI I1681 102 (Int32.toNatClampNeg (v1 + 6)) x1680) 102 (Int32.toNatClampNeg (v1 + 5))) : Int32).toInt = x1.toInt := Eq.trans (congrArg Int32.toInt (Eq.trans (Eq.trans (Eq.trans (Eq.trans (Eq.trans (Eq.trans (Eq.trans (rd_k (fun z => by have z1 := tn_of (show ((v1 + 5) : Int32).toInt = (v1.toInt + 5) from e1080) (by omega); have z2 := tn_of (show ((v1 + 6) : Int32).toInt = (v1.toInt + 6) from e1697) (by omega); omega)) (f1687.1 (Int32.toNatClampNeg (v1 + 5)) trivial)) (f1670.1 (Int32.toNatClampNeg (v1 + 5)) trivial)) (f1655.1 (Int32.toNatClampNeg (v1 + 5)) trivial)) (rd_k (fun z => by have z1 := tn_of (show ((v1 + 5) : Int32).toInt = (v1.toInt + 5) from e1080) (by omega); have z2 := tn_of (show ((v1 + 7) : Int32).toInt = (v1.toInt + 7) from e1644) (by omega); omega))) (rd_k (fun z => by have z1 := tn_of (show ((v1 + 5) : Int32).toInt = (v1.toInt + 5) from e1080) (by omega); have z2 := tn_of (show ((v1 + 1) : Int32).toInt = (v1.toInt + 1) from e1626) (by omega); omega))) (f1613.1 (Int32.toNatClampNeg (v1 + 5)) trivial)) rd_eq)) rfl
              have fl1703 : (((uI I1681 102 (Int32.toNatClampNeg (v1 + 6)) x1680) 102 (Int32.toNatClampNeg (v1 + 5))) : Int32).toInt = x1.toInt := e1702
              have e1704 : (((uI I1681 102 (Int32.toNatClampNeg (v1 + 6)) x1680) 97 12) : Int32).toInt = (I1681 97 12).toInt := Eq.trans (congrArg Int32.toInt (rd_ne (by omega))) rfl
              have fl1705 : (((uI I1681 102 (Int32.toNatClampNeg (v1 + 6)) x1680) 97 12) : Int32).toInt = (I1681 97 12).toInt := e1704
              exact hQ _ _ _ _ hB1698 ⟨f1699, (PMp.o (PMp.tr (PMp.tr (PMp.tr (PMp.o (PMp.o (PMp.tr (PMp.o (PMp.tr (PMp.tr (PMp.refl I) m10) m1069) (by decide)) m1615) (by decide)) (by decide)) m1657) m1672) m1689) (by decide)), (fun hz => by have op0 := Or.resolve_left (Hid.o hh1612).2.2.2.2 (fun z => by have b := PMp.bad (PMp.o (PMp.tr (PMp.tr (PMp.tr (PMp.o (PMp.o (PMp.refl I1607) (by decide)) (by decide)) m1657) m1672) m1689) (by decide)) hz; omega); have op1 := Or.resolve_left (Hid.o hh1686).2.2.2.2 (fun z => by have b := PMp.bad (PMp.o (PMp.refl I1681) (by decide)) hz; omega); omega)⟩
            · skip
              have d1706 : ((x1647.toInt) : Int) = (0) := ci_eq rfl rfl c1661
              refine sp_X12_isSign hB1650 hR0 (fun x1707 y1712 I1708 J1709 hB1710 p1711 => ?_)
              intro o1713
              have hh1714 := Hid.i p1711
              clear p1711
              have f1715 : Fr pT I1648 I1708 := (Hid.o hh1714).2.2.2.2.1
              have f1716 : Fr (pW v1.toInt) I I1708 := Fr.tr f1656 f1715 (fun _ _ => trivial)
              have m1717 : PMp I1648 I1708 := (PMp.keep (Hid.o hh1714).1 (Hid.o hh1714).2.2.1 (Hid.o hh1714).2.2.2.1)
              have q1718 : (62 : Int32).toInt = 62 := rfl
              have e1719 : ((I1648 97 14) : Int32).toInt = (I1607 97 14).toInt := Eq.trans (congrArg Int32.toInt (Eq.trans (Eq.trans (Hid.o hh1654).2.2.1 (rd_ne (by omega))) (rd_ne (by omega)))) rfl
              have i1720 := i32 x1707
              refine ⟨fun c1721 => ?_, fun c1721 => ?_⟩
              · skip
                have d1722 : ¬ ((x1707.toInt) : Int) = (0) := ci_ne rfl rfl c1721
                refine sp_X12_must hB1710 hR0 (fun x1723 y1728 I1724 J1725 hB1726 p1727 => ?_)
                have hh1729 := Hid.i p1727
                clear p1727
                have f1730 : Fr pT I1708 I1724 := (Hid.o hh1729).2.1
                have f1731 : Fr (pW v1.toInt) I I1724 := Fr.tr f1716 f1730 (fun _ _ => trivial)
                have m1732 : PMp I1708 I1724 := (PMp.mk (Hid.o hh1729).2.2.1 (Hid.o hh1729).2.2.2.1)
                have q1733 : (1 : Int32).toInt = 1 := rfl
                have e1734 : ((I1708 97 12) : Int32).toInt = (I1607 97 12).toInt := Eq.trans (congrArg Int32.toInt (Eq.trans (Eq.trans (Eq.trans (Hid.o hh1714).1 (Hid.o hh1654).1) (rd_ne (by omega))) (rd_ne (by omega)))) rfl
                have e1735 : ((I1708 97 14) : Int32).toInt = (I1607 97 14).toInt := Eq.trans (congrArg Int32.toInt (Eq.trans (Eq.trans (Eq.trans (Hid.o hh1714).2.2.1 (Hid.o hh1654).2.2.1) (rd_ne (by omega))) (rd_ne (by omega)))) rfl
                have e1736 : ((I1708 97 16) : Int32).toInt = (I1607 97 16).toInt := Eq.trans (congrArg Int32.toInt (Eq.trans (Eq.trans (Eq.trans (Hid.o hh1714).2.2.2.1 (Hid.o hh1654).2.2.2.1) (rd_ne (by omega))) (rd_ne (by omega)))) rfl
                have b1737 := Bd.o hB1726 (show isO 112 97 12 = true from rfl) (show bnd 12 12 = some _ from rfl)
                have b1738 := Bd.o hB1726 (show isO 112 97 12 = true from rfl) (show bnd 12 14 = some _ from rfl)
                have b1739 := Bd.o hB1726 (show isO 112 97 12 = true from rfl) (show bnd 12 16 = some _ from rfl)
                refine sp_X12_count hB1726 hR0 (fun x1740 y1745 I1741 J1742 hB1743 p1744 => ?_)
                have hh1746 := Hid.i p1744
                clear p1744
                have f1747 : Fr pT I1724 I1741 := (Hid.o hh1746).2.1
                have f1748 : Fr (pW v1.toInt) I I1741 := Fr.tr f1731 f1747 (fun _ _ => trivial)
                have m1749 : PMp I1724 I1741 := (PMp.mk (Hid.o hh1746).2.2.1 (Hid.o hh1746).2.2.2.1)
                have wr1750 := Or.imp (fun z => z.2) (fun z => And.intro z.1 z.2.1) (Hid.o hh1746).2.2.2.2
                have q1751 : (0 : Int32).toInt = 0 := rfl
                have q1752 : (99 : Int32).toInt = 99 := rfl
                have b1753 := Bd.o hB1743 (show isO 112 97 12 = true from rfl) (show bnd 12 12 = some _ from rfl)
                have b1754 := Bd.o hB1743 (show isO 112 97 12 = true from rfl) (show bnd 12 14 = some _ from rfl)
                have b1755 := Bd.o hB1743 (show isO 112 97 12 = true from rfl) (show bnd 12 16 = some _ from rfl)
                have i1756 := i32 x1740
                have e1757 : ((v1 + 6) : Int32).toInt = (v1.toInt) + (6) := ti_add rfl rfl (by omega)
                refine ⟨vp_of (a := (v1.toInt + 6)) e1757 (by omega) (by omega), ?_⟩
                have hB1758 : Bd (uI I1741 102 (Int32.toNatClampNeg (v1 + 6)) x1740) := Bd.cnew hB1743 (show ((v1 + 6) : Int32).toInt = (v1.toInt + 6) from e1757) (show (x1740 : Int32).toInt = x1740.toInt from rfl) (by omega) (by omega) (by omega) 
                have f1759 : Fr (pW v1.toInt) I (uI I1741 102 (Int32.toNatClampNeg (v1 + 6)) x1740) := Fr.w f1748 (show ((v1 + 6) : Int32).toInt = (v1.toInt + 6) from e1757) (by omega) (fun j hj hp => by unfold pW at hp; omega)
                have e1760 : (((uI I1741 102 (Int32.toNatClampNeg (v1 + 6)) x1740) 102 (Int32.toNatClampNeg (v1 + 1))) : Int32).toInt = x1606.toInt := Eq.trans (congrArg Int32.toInt (Eq.trans (Eq.trans (Eq.trans (Eq.trans (Eq.trans (Eq.trans (rd_k (fun z => by have z1 := tn_of (show ((v1 + 1) : Int32).toInt = (v1.toInt + 1) from e1626) (by omega); have z2 := tn_of (show ((v1 + 6) : Int32).toInt = (v1.toInt + 6) from e1757) (by omega); omega)) (f1747.1 (Int32.toNatClampNeg (v1 + 1)) trivial)) (f1730.1 (Int32.toNatClampNeg (v1 + 1)) trivial)) (f1715.1 (Int32.toNatClampNeg (v1 + 1)) trivial)) (f1655.1 (Int32.toNatClampNeg (v1 + 1)) trivial)) (rd_k (fun z => by have z1 := tn_of (show ((v1 + 1) : Int32).toInt = (v1.toInt + 1) from e1626) (by omega); have z2 := tn_of (show ((v1 + 7) : Int32).toInt = (v1.toInt + 7) from e1644) (by omega); omega))) rd_eq)) rfl
                have fl1761 : (((uI I1741 102 (Int32.toNatClampNeg (v1 + 6)) x1740) 102 (Int32.toNatClampNeg (v1 + 1))) : Int32).toInt = x1606.toInt := e1760
                have e1762 : (((uI I1741 102 (Int32.toNatClampNeg (v1 + 6)) x1740) 102 (Int32.toNatClampNeg (v1 + 5))) : Int32).toInt = x1.toInt := Eq.trans (congrArg Int32.toInt (Eq.trans (Eq.trans (Eq.trans (Eq.trans (Eq.trans (Eq.trans (Eq.trans (Eq.trans (rd_k (fun z => by have z1 := tn_of (show ((v1 + 5) : Int32).toInt = (v1.toInt + 5) from e1080) (by omega); have z2 := tn_of (show ((v1 + 6) : Int32).toInt = (v1.toInt + 6) from e1757) (by omega); omega)) (f1747.1 (Int32.toNatClampNeg (v1 + 5)) trivial)) (f1730.1 (Int32.toNatClampNeg (v1 + 5)) trivial)) (f1715.1 (Int32.toNatClampNeg (v1 + 5)) trivial)) (f1655.1 (Int32.toNatClampNeg (v1 + 5)) trivial)) (rd_k (fun z => by have z1 := tn_of (show ((v1 + 5) : Int32).toInt = (v1.toInt + 5) from e1080) (by omega); have z2 := tn_of (show ((v1 + 7) : Int32).toInt = (v1.toInt + 7) from e1644) (by omega); omega))) (rd_k (fun z => by have z1 := tn_of (show ((v1 + 5) : Int32).toInt = (v1.toInt + 5) from e1080) (by omega); have z2 := tn_of (show ((v1 + 1) : Int32).toInt = (v1.toInt + 1) from e1626) (by omega); omega))) (f1613.1 (Int32.toNatClampNeg (v1 + 5)) trivial)) rd_eq)) rfl
                have fl1763 : (((uI I1741 102 (Int32.toNatClampNeg (v1 + 6)) x1740) 102 (Int32.toNatClampNeg (v1 + 5))) : Int32).toInt = x1.toInt := e1762
                have e1764 : (((uI I1741 102 (Int32.toNatClampNeg (v1 + 6)) x1740) 97 12) : Int32).toInt = (I1741 97 12).toInt := Eq.trans (congrArg Int32.toInt (rd_ne (by omega))) rfl
                have fl1765 : (((uI I1741 102 (Int32.toNatClampNeg (v1 + 6)) x1740) 97 12) : Int32).toInt = (I1741 97 12).toInt := e1764
                exact hQ _ _ _ _ hB1758 ⟨f1759, (PMp.o (PMp.tr (PMp.tr (PMp.tr (PMp.tr (PMp.o (PMp.o (PMp.tr (PMp.o (PMp.tr (PMp.tr (PMp.refl I) m10) m1069) (by decide)) m1615) (by decide)) (by decide)) m1657) m1717) m1732) m1749) (by decide)), (fun hz => by have op0 := Or.resolve_left (Hid.o hh1612).2.2.2.2 (fun z => by have b := PMp.bad (PMp.o (PMp.tr (PMp.tr (PMp.tr (PMp.tr (PMp.o (PMp.o (PMp.refl I1607) (by decide)) (by decide)) m1657) m1717) m1732) m1749) (by decide)) hz; omega); have op1 := Or.resolve_left (Hid.o hh1746).2.2.2.2 (fun z => by have b := PMp.bad (PMp.o (PMp.refl I1741) (by decide)) hz; omega); omega)⟩
              · skip
                have d1766 : ((x1707.toInt) : Int) = (0) := ci_eq rfl rfl c1721
                refine sp_X12_isSign hB1710 hR0 (fun x1767 y1772 I1768 J1769 hB1770 p1771 => ?_)
                intro o1773
                have hh1774 := Hid.i p1771
                clear p1771
                have f1775 : Fr pT I1708 I1768 := (Hid.o hh1774).2.2.2.2.1
                have f1776 : Fr (pW v1.toInt) I I1768 := Fr.tr f1716 f1775 (fun _ _ => trivial)
                have m1777 : PMp I1708 I1768 := (PMp.keep (Hid.o hh1774).1 (Hid.o hh1774).2.2.1 (Hid.o hh1774).2.2.2.1)
                have q1778 : (61 : Int32).toInt = 61 := rfl
                have e1779 : ((I1708 97 14) : Int32).toInt = (I1607 97 14).toInt := Eq.trans (congrArg Int32.toInt (Eq.trans (Eq.trans (Eq.trans (Hid.o hh1714).2.2.1 (Hid.o hh1654).2.2.1) (rd_ne (by omega))) (rd_ne (by omega)))) rfl
                have i1780 := i32 x1767
                refine ⟨fun c1781 => ?_, fun c1781 => ?_⟩
                · skip
                  have d1782 : ((x1767.toInt) : Int) = (0) := ci_eq rfl rfl c1781
                  refine sp_X12_must hB1770 hR0 (fun x1783 y1788 I1784 J1785 hB1786 p1787 => ?_)
                  have hh1789 := Hid.i p1787
                  clear p1787
                  have f1790 : Fr pT I1768 I1784 := (Hid.o hh1789).2.1
                  have f1791 : Fr (pW v1.toInt) I I1784 := Fr.tr f1776 f1790 (fun _ _ => trivial)
                  have m1792 : PMp I1768 I1784 := (PMp.mk (Hid.o hh1789).2.2.1 (Hid.o hh1789).2.2.2.1)
                  have q1793 : (0 : Int32).toInt = 0 := rfl
                  have e1794 : ((I1768 97 12) : Int32).toInt = (I1607 97 12).toInt := Eq.trans (congrArg Int32.toInt (Eq.trans (Eq.trans (Eq.trans (Eq.trans (Hid.o hh1774).1 (Hid.o hh1714).1) (Hid.o hh1654).1) (rd_ne (by omega))) (rd_ne (by omega)))) rfl
                  have e1795 : ((I1768 97 14) : Int32).toInt = (I1607 97 14).toInt := Eq.trans (congrArg Int32.toInt (Eq.trans (Eq.trans (Eq.trans (Eq.trans (Hid.o hh1774).2.2.1 (Hid.o hh1714).2.2.1) (Hid.o hh1654).2.2.1) (rd_ne (by omega))) (rd_ne (by omega)))) rfl
                  have e1796 : ((I1768 97 16) : Int32).toInt = (I1607 97 16).toInt := Eq.trans (congrArg Int32.toInt (Eq.trans (Eq.trans (Eq.trans (Eq.trans (Hid.o hh1774).2.2.2.1 (Hid.o hh1714).2.2.2.1) (Hid.o hh1654).2.2.2.1) (rd_ne (by omega))) (rd_ne (by omega)))) rfl
                  have b1797 := Bd.o hB1786 (show isO 112 97 12 = true from rfl) (show bnd 12 12 = some _ from rfl)
                  have b1798 := Bd.o hB1786 (show isO 112 97 12 = true from rfl) (show bnd 12 14 = some _ from rfl)
                  have b1799 := Bd.o hB1786 (show isO 112 97 12 = true from rfl) (show bnd 12 16 = some _ from rfl)
                  refine sp_X12_count hB1786 hR0 (fun x1800 y1805 I1801 J1802 hB1803 p1804 => ?_)
                  have hh1806 := Hid.i p1804
                  clear p1804
                  have f1807 : Fr pT I1784 I1801 := (Hid.o hh1806).2.1
                  have f1808 : Fr (pW v1.toInt) I I1801 := Fr.tr f1791 f1807 (fun _ _ => trivial)
                  have m1809 : PMp I1784 I1801 := (PMp.mk (Hid.o hh1806).2.2.1 (Hid.o hh1806).2.2.2.1)
                  have wr1810 := Or.imp (fun z => z.2) (fun z => And.intro z.1 z.2.1) (Hid.o hh1806).2.2.2.2
                  have q1811 : (0 : Int32).toInt = 0 := rfl
                  have q1812 : (99 : Int32).toInt = 99 := rfl
                  have b1813 := Bd.o hB1803 (show isO 112 97 12 = true from rfl) (show bnd 12 12 = some _ from rfl)
                  have b1814 := Bd.o hB1803 (show isO 112 97 12 = true from rfl) (show bnd 12 14 = some _ from rfl)
                  have b1815 := Bd.o hB1803 (show isO 112 97 12 = true from rfl) (show bnd 12 16 = some _ from rfl)
                  have i1816 := i32 x1800
                  have e1817 : ((v1 + 6) : Int32).toInt = (v1.toInt) + (6) := ti_add rfl rfl (by omega)
                  refine ⟨vp_of (a := (v1.toInt + 6)) e1817 (by omega) (by omega), ?_⟩
                  have hB1818 : Bd (uI I1801 102 (Int32.toNatClampNeg (v1 + 6)) x1800) := Bd.cnew hB1803 (show ((v1 + 6) : Int32).toInt = (v1.toInt + 6) from e1817) (show (x1800 : Int32).toInt = x1800.toInt from rfl) (by omega) (by omega) (by omega) 
                  have f1819 : Fr (pW v1.toInt) I (uI I1801 102 (Int32.toNatClampNeg (v1 + 6)) x1800) := Fr.w f1808 (show ((v1 + 6) : Int32).toInt = (v1.toInt + 6) from e1817) (by omega) (fun j hj hp => by unfold pW at hp; omega)
                  have e1820 : (((uI I1801 102 (Int32.toNatClampNeg (v1 + 6)) x1800) 102 (Int32.toNatClampNeg (v1 + 1))) : Int32).toInt = x1606.toInt := Eq.trans (congrArg Int32.toInt (Eq.trans (Eq.trans (Eq.trans (Eq.trans (Eq.trans (Eq.trans (Eq.trans (rd_k (fun z => by have z1 := tn_of (show ((v1 + 1) : Int32).toInt = (v1.toInt + 1) from e1626) (by omega); have z2 := tn_of (show ((v1 + 6) : Int32).toInt = (v1.toInt + 6) from e1817) (by omega); omega)) (f1807.1 (Int32.toNatClampNeg (v1 + 1)) trivial)) (f1790.1 (Int32.toNatClampNeg (v1 + 1)) trivial)) (f1775.1 (Int32.toNatClampNeg (v1 + 1)) trivial)) (f1715.1 (Int32.toNatClampNeg (v1 + 1)) trivial)) (f1655.1 (Int32.toNatClampNeg (v1 + 1)) trivial)) (rd_k (fun z => by have z1 := tn_of (show ((v1 + 1) : Int32).toInt = (v1.toInt + 1) from e1626) (by omega); have z2 := tn_of (show ((v1 + 7) : Int32).toInt = (v1.toInt + 7) from e1644) (by omega); omega))) rd_eq)) rfl
                  have fl1821 : (((uI I1801 102 (Int32.toNatClampNeg (v1 + 6)) x1800) 102 (Int32.toNatClampNeg (v1 + 1))) : Int32).toInt = x1606.toInt := e1820
                  have e1822 : (((uI I1801 102 (Int32.toNatClampNeg (v1 + 6)) x1800) 102 (Int32.toNatClampNeg (v1 + 5))) : Int32).toInt = x1.toInt := Eq.trans (congrArg Int32.toInt (Eq.trans (Eq.trans (Eq.trans (Eq.trans (Eq.trans (Eq.trans (Eq.trans (Eq.trans (Eq.trans (rd_k (fun z => by have z1 := tn_of (show ((v1 + 5) : Int32).toInt = (v1.toInt + 5) from e1080) (by omega); have z2 := tn_of (show ((v1 + 6) : Int32).toInt = (v1.toInt + 6) from e1817) (by omega); omega)) (f1807.1 (Int32.toNatClampNeg (v1 + 5)) trivial)) (f1790.1 (Int32.toNatClampNeg (v1 + 5)) trivial)) (f1775.1 (Int32.toNatClampNeg (v1 + 5)) trivial)) (f1715.1 (Int32.toNatClampNeg (v1 + 5)) trivial)) (f1655.1 (Int32.toNatClampNeg (v1 + 5)) trivial)) (rd_k (fun z => by have z1 := tn_of (show ((v1 + 5) : Int32).toInt = (v1.toInt + 5) from e1080) (by omega); have z2 := tn_of (show ((v1 + 7) : Int32).toInt = (v1.toInt + 7) from e1644) (by omega); omega))) (rd_k (fun z => by have z1 := tn_of (show ((v1 + 5) : Int32).toInt = (v1.toInt + 5) from e1080) (by omega); have z2 := tn_of (show ((v1 + 1) : Int32).toInt = (v1.toInt + 1) from e1626) (by omega); omega))) (f1613.1 (Int32.toNatClampNeg (v1 + 5)) trivial)) rd_eq)) rfl
                  have fl1823 : (((uI I1801 102 (Int32.toNatClampNeg (v1 + 6)) x1800) 102 (Int32.toNatClampNeg (v1 + 5))) : Int32).toInt = x1.toInt := e1822
                  have e1824 : (((uI I1801 102 (Int32.toNatClampNeg (v1 + 6)) x1800) 97 12) : Int32).toInt = (I1801 97 12).toInt := Eq.trans (congrArg Int32.toInt (rd_ne (by omega))) rfl
                  have fl1825 : (((uI I1801 102 (Int32.toNatClampNeg (v1 + 6)) x1800) 97 12) : Int32).toInt = (I1801 97 12).toInt := e1824
                  exact hQ _ _ _ _ hB1818 ⟨f1819, (PMp.o (PMp.tr (PMp.tr (PMp.tr (PMp.tr (PMp.tr (PMp.o (PMp.o (PMp.tr (PMp.o (PMp.tr (PMp.tr (PMp.refl I) m10) m1069) (by decide)) m1615) (by decide)) (by decide)) m1657) m1717) m1777) m1792) m1809) (by decide)), (fun hz => by have op0 := Or.resolve_left (Hid.o hh1612).2.2.2.2 (fun z => by have b := PMp.bad (PMp.o (PMp.tr (PMp.tr (PMp.tr (PMp.tr (PMp.tr (PMp.o (PMp.o (PMp.refl I1607) (by decide)) (by decide)) m1657) m1717) m1777) m1792) m1809) (by decide)) hz; omega); have op1 := Or.resolve_left (Hid.o hh1806).2.2.2.2 (fun z => by have b := PMp.bad (PMp.o (PMp.refl I1801) (by decide)) hz; omega); omega)⟩
                · skip
                  have d1826 : ¬ ((x1767.toInt) : Int) = (0) := ci_ne rfl rfl c1781
                  refine sp_X12_must hB1770 hR0 (fun x1827 y1832 I1828 J1829 hB1830 p1831 => ?_)
                  have hh1833 := Hid.i p1831
                  clear p1831
                  have f1834 : Fr pT I1768 I1828 := (Hid.o hh1833).2.1
                  have f1835 : Fr (pW v1.toInt) I I1828 := Fr.tr f1776 f1834 (fun _ _ => trivial)
                  have m1836 : PMp I1768 I1828 := (PMp.mk (Hid.o hh1833).2.2.1 (Hid.o hh1833).2.2.2.1)
                  have q1837 : (1 : Int32).toInt = 1 := rfl
                  have e1838 : ((I1768 97 12) : Int32).toInt = (I1607 97 12).toInt := Eq.trans (congrArg Int32.toInt (Eq.trans (Eq.trans (Eq.trans (Eq.trans (Hid.o hh1774).1 (Hid.o hh1714).1) (Hid.o hh1654).1) (rd_ne (by omega))) (rd_ne (by omega)))) rfl
                  have e1839 : ((I1768 97 14) : Int32).toInt = (I1607 97 14).toInt := Eq.trans (congrArg Int32.toInt (Eq.trans (Eq.trans (Eq.trans (Eq.trans (Hid.o hh1774).2.2.1 (Hid.o hh1714).2.2.1) (Hid.o hh1654).2.2.1) (rd_ne (by omega))) (rd_ne (by omega)))) rfl
                  have e1840 : ((I1768 97 16) : Int32).toInt = (I1607 97 16).toInt := Eq.trans (congrArg Int32.toInt (Eq.trans (Eq.trans (Eq.trans (Eq.trans (Hid.o hh1774).2.2.2.1 (Hid.o hh1714).2.2.2.1) (Hid.o hh1654).2.2.2.1) (rd_ne (by omega))) (rd_ne (by omega)))) rfl
                  have b1841 := Bd.o hB1830 (show isO 112 97 12 = true from rfl) (show bnd 12 12 = some _ from rfl)
                  have b1842 := Bd.o hB1830 (show isO 112 97 12 = true from rfl) (show bnd 12 14 = some _ from rfl)
                  have b1843 := Bd.o hB1830 (show isO 112 97 12 = true from rfl) (show bnd 12 16 = some _ from rfl)
                  refine sp_X12_count hB1830 hR0 (fun x1844 y1849 I1845 J1846 hB1847 p1848 => ?_)
                  have hh1850 := Hid.i p1848
                  clear p1848
                  have f1851 : Fr pT I1828 I1845 := (Hid.o hh1850).2.1
                  have f1852 : Fr (pW v1.toInt) I I1845 := Fr.tr f1835 f1851 (fun _ _ => trivial)
                  have m1853 : PMp I1828 I1845 := (PMp.mk (Hid.o hh1850).2.2.1 (Hid.o hh1850).2.2.2.1)
                  have wr1854 := Or.imp (fun z => z.2) (fun z => And.intro z.1 z.2.1) (Hid.o hh1850).2.2.2.2
                  have q1855 : (0 : Int32).toInt = 0 := rfl
                  have q1856 : (99 : Int32).toInt = 99 := rfl
                  have b1857 := Bd.o hB1847 (show isO 112 97 12 = true from rfl) (show bnd 12 12 = some _ from rfl)
                  have b1858 := Bd.o hB1847 (show isO 112 97 12 = true from rfl) (show bnd 12 14 = some _ from rfl)
                  have b1859 := Bd.o hB1847 (show isO 112 97 12 = true from rfl) (show bnd 12 16 = some _ from rfl)
                  have i1860 := i32 x1844
                  have e1861 : ((v1 + 6) : Int32).toInt = (v1.toInt) + (6) := ti_add rfl rfl (by omega)
                  refine ⟨vp_of (a := (v1.toInt + 6)) e1861 (by omega) (by omega), ?_⟩
                  have hB1862 : Bd (uI I1845 102 (Int32.toNatClampNeg (v1 + 6)) x1844) := Bd.cnew hB1847 (show ((v1 + 6) : Int32).toInt = (v1.toInt + 6) from e1861) (show (x1844 : Int32).toInt = x1844.toInt from rfl) (by omega) (by omega) (by omega) 
                  have f1863 : Fr (pW v1.toInt) I (uI I1845 102 (Int32.toNatClampNeg (v1 + 6)) x1844) := Fr.w f1852 (show ((v1 + 6) : Int32).toInt = (v1.toInt + 6) from e1861) (by omega) (fun j hj hp => by unfold pW at hp; omega)
                  have e1864 : (((uI I1845 102 (Int32.toNatClampNeg (v1 + 6)) x1844) 102 (Int32.toNatClampNeg (v1 + 1))) : Int32).toInt = x1606.toInt := Eq.trans (congrArg Int32.toInt (Eq.trans (Eq.trans (Eq.trans (Eq.trans (Eq.trans (Eq.trans (Eq.trans (rd_k (fun z => by have z1 := tn_of (show ((v1 + 1) : Int32).toInt = (v1.toInt + 1) from e1626) (by omega); have z2 := tn_of (show ((v1 + 6) : Int32).toInt = (v1.toInt + 6) from e1861) (by omega); omega)) (f1851.1 (Int32.toNatClampNeg (v1 + 1)) trivial)) (f1834.1 (Int32.toNatClampNeg (v1 + 1)) trivial)) (f1775.1 (Int32.toNatClampNeg (v1 + 1)) trivial)) (f1715.1 (Int32.toNatClampNeg (v1 + 1)) trivial)) (f1655.1 (Int32.toNatClampNeg (v1 + 1)) trivial)) (rd_k (fun z => by have z1 := tn_of (show ((v1 + 1) : Int32).toInt = (v1.toInt + 1) from e1626) (by omega); have z2 := tn_of (show ((v1 + 7) : Int32).toInt = (v1.toInt + 7) from e1644) (by omega); omega))) rd_eq)) rfl
                  have fl1865 : (((uI I1845 102 (Int32.toNatClampNeg (v1 + 6)) x1844) 102 (Int32.toNatClampNeg (v1 + 1))) : Int32).toInt = x1606.toInt := e1864
                  have e1866 : (((uI I1845 102 (Int32.toNatClampNeg (v1 + 6)) x1844) 102 (Int32.toNatClampNeg (v1 + 5))) : Int32).toInt = x1.toInt := Eq.trans (congrArg Int32.toInt (Eq.trans (Eq.trans (Eq.trans (Eq.trans (Eq.trans (Eq.trans (Eq.trans (Eq.trans (Eq.trans (rd_k (fun z => by have z1 := tn_of (show ((v1 + 5) : Int32).toInt = (v1.toInt + 5) from e1080) (by omega); have z2 := tn_of (show ((v1 + 6) : Int32).toInt = (v1.toInt + 6) from e1861) (by omega); omega)) (f1851.1 (Int32.toNatClampNeg (v1 + 5)) trivial)) (f1834.1 (Int32.toNatClampNeg (v1 + 5)) trivial)) (f1775.1 (Int32.toNatClampNeg (v1 + 5)) trivial)) (f1715.1 (Int32.toNatClampNeg (v1 + 5)) trivial)) (f1655.1 (Int32.toNatClampNeg (v1 + 5)) trivial)) (rd_k (fun z => by have z1 := tn_of (show ((v1 + 5) : Int32).toInt = (v1.toInt + 5) from e1080) (by omega); have z2 := tn_of (show ((v1 + 7) : Int32).toInt = (v1.toInt + 7) from e1644) (by omega); omega))) (rd_k (fun z => by have z1 := tn_of (show ((v1 + 5) : Int32).toInt = (v1.toInt + 5) from e1080) (by omega); have z2 := tn_of (show ((v1 + 1) : Int32).toInt = (v1.toInt + 1) from e1626) (by omega); omega))) (f1613.1 (Int32.toNatClampNeg (v1 + 5)) trivial)) rd_eq)) rfl
                  have fl1867 : (((uI I1845 102 (Int32.toNatClampNeg (v1 + 6)) x1844) 102 (Int32.toNatClampNeg (v1 + 5))) : Int32).toInt = x1.toInt := e1866
                  have e1868 : (((uI I1845 102 (Int32.toNatClampNeg (v1 + 6)) x1844) 97 12) : Int32).toInt = (I1845 97 12).toInt := Eq.trans (congrArg Int32.toInt (rd_ne (by omega))) rfl
                  have fl1869 : (((uI I1845 102 (Int32.toNatClampNeg (v1 + 6)) x1844) 97 12) : Int32).toInt = (I1845 97 12).toInt := e1868
                  exact hQ _ _ _ _ hB1862 ⟨f1863, (PMp.o (PMp.tr (PMp.tr (PMp.tr (PMp.tr (PMp.tr (PMp.o (PMp.o (PMp.tr (PMp.o (PMp.tr (PMp.tr (PMp.refl I) m10) m1069) (by decide)) m1615) (by decide)) (by decide)) m1657) m1717) m1777) m1836) m1853) (by decide)), (fun hz => by have op0 := Or.resolve_left (Hid.o hh1612).2.2.2.2 (fun z => by have b := PMp.bad (PMp.o (PMp.tr (PMp.tr (PMp.tr (PMp.tr (PMp.tr (PMp.o (PMp.o (PMp.refl I1607) (by decide)) (by decide)) m1657) m1717) m1777) m1836) m1853) (by decide)) hz; omega); have op1 := Or.resolve_left (Hid.o hh1850).2.2.2.2 (fun z => by have b := PMp.bad (PMp.o (PMp.refl I1845) (by decide)) hz; omega); omega)⟩
          · skip
            have e1870 : (((uI I1607 102 (Int32.toNatClampNeg (v1 + 1)) x1606) 97 14) : Int32).toInt = (I1607 97 14).toInt := Eq.trans (congrArg Int32.toInt (rd_ne (by omega))) rfl
            have d1871 : (((I1607 97 14).toInt) : Int) = (3) := ci_eq e1870 rfl c1641
            have e1872 : ((v1 + 7) : Int32).toInt = (v1.toInt) + (7) := ti_add rfl rfl (by omega)
            refine ⟨vp_of (a := (v1.toInt + 7)) e1872 (by omega) (by omega), ?_⟩
            have e1874 : (((uI I1607 102 (Int32.toNatClampNeg (v1 + 1)) x1606) 97 17) : Int32).toInt = (I1607 97 17).toInt := Eq.trans (congrArg Int32.toInt (rd_ne (by omega))) rfl
            have hB1873 : Bd (uI (uI I1607 102 (Int32.toNatClampNeg (v1 + 1)) x1606) 102 (Int32.toNatClampNeg (v1 + 7)) ((uI I1607 102 (Int32.toNatClampNeg (v1 + 1)) x1606) 97 17)) := Bd.cnew hB1627 (show ((v1 + 7) : Int32).toInt = (v1.toInt + 7) from e1872) (show (((uI I1607 102 (Int32.toNatClampNeg (v1 + 1)) x1606) 97 17) : Int32).toInt = (I1607 97 17).toInt from e1874) (by omega) (by omega) (by omega) 
            have f1875 : Fr (pW v1.toInt) I (uI (uI I1607 102 (Int32.toNatClampNeg (v1 + 1)) x1606) 102 (Int32.toNatClampNeg (v1 + 7)) ((uI I1607 102 (Int32.toNatClampNeg (v1 + 1)) x1606) 97 17)) := Fr.w f1628 (show ((v1 + 7) : Int32).toInt = (v1.toInt + 7) from e1872) (by omega) (fun j hj hp => by unfold pW at hp; omega)
            refine sp_X12_isSign hB1873 hR0 (fun x1876 y1881 I1877 J1878 hB1879 p1880 => ?_)
            intro o1882
            have hh1883 := Hid.i p1880
            clear p1880
            have f1884 : Fr pT (uI (uI I1607 102 (Int32.toNatClampNeg (v1 + 1)) x1606) 102 (Int32.toNatClampNeg (v1 + 7)) ((uI I1607 102 (Int32.toNatClampNeg (v1 + 1)) x1606) 97 17)) I1877 := (Hid.o hh1883).2.2.2.2.1
            have f1885 : Fr (pW v1.toInt) I I1877 := Fr.tr f1875 f1884 (fun _ _ => trivial)
            have m1886 : PMp (uI (uI I1607 102 (Int32.toNatClampNeg (v1 + 1)) x1606) 102 (Int32.toNatClampNeg (v1 + 7)) ((uI I1607 102 (Int32.toNatClampNeg (v1 + 1)) x1606) 97 17)) I1877 := (PMp.keep (Hid.o hh1883).1 (Hid.o hh1883).2.2.1 (Hid.o hh1883).2.2.2.1)
            have q1887 : (60 : Int32).toInt = 60 := rfl
            have e1888 : (((uI (uI I1607 102 (Int32.toNatClampNeg (v1 + 1)) x1606) 102 (Int32.toNatClampNeg (v1 + 7)) ((uI I1607 102 (Int32.toNatClampNeg (v1 + 1)) x1606) 97 17)) 97 14) : Int32).toInt = (I1607 97 14).toInt := Eq.trans (congrArg Int32.toInt (Eq.trans (rd_ne (by omega)) (rd_ne (by omega)))) rfl
            have i1889 := i32 x1876
            refine ⟨fun c1890 => ?_, fun c1890 => ?_⟩
            · skip
              have d1891 : ¬ ((x1876.toInt) : Int) = (0) := ci_ne rfl rfl c1890
              refine sp_X12_must hB1879 hR0 (fun x1892 y1897 I1893 J1894 hB1895 p1896 => ?_)
              have hh1898 := Hid.i p1896
              clear p1896
              have f1899 : Fr pT I1877 I1893 := (Hid.o hh1898).2.1
              have f1900 : Fr (pW v1.toInt) I I1893 := Fr.tr f1885 f1899 (fun _ _ => trivial)
              have m1901 : PMp I1877 I1893 := (PMp.mk (Hid.o hh1898).2.2.1 (Hid.o hh1898).2.2.2.1)
              have q1902 : (1 : Int32).toInt = 1 := rfl
              have e1903 : ((I1877 97 12) : Int32).toInt = (I1607 97 12).toInt := Eq.trans (congrArg Int32.toInt (Eq.trans (Eq.trans (Hid.o hh1883).1 (rd_ne (by omega))) (rd_ne (by omega)))) rfl
              have e1904 : ((I1877 97 14) : Int32).toInt = (I1607 97 14).toInt := Eq.trans (congrArg Int32.toInt (Eq.trans (Eq.trans (Hid.o hh1883).2.2.1 (rd_ne (by omega))) (rd_ne (by omega)))) rfl
              have e1905 : ((I1877 97 16) : Int32).toInt = (I1607 97 16).toInt := Eq.trans (congrArg Int32.toInt (Eq.trans (Eq.trans (Hid.o hh1883).2.2.2.1 (rd_ne (by omega))) (rd_ne (by omega)))) rfl
              have b1906 := Bd.o hB1895 (show isO 112 97 12 = true from rfl) (show bnd 12 12 = some _ from rfl)
              have b1907 := Bd.o hB1895 (show isO 112 97 12 = true from rfl) (show bnd 12 14 = some _ from rfl)
              have b1908 := Bd.o hB1895 (show isO 112 97 12 = true from rfl) (show bnd 12 16 = some _ from rfl)
              refine sp_X12_count hB1895 hR0 (fun x1909 y1914 I1910 J1911 hB1912 p1913 => ?_)
              have hh1915 := Hid.i p1913
              clear p1913
              have f1916 : Fr pT I1893 I1910 := (Hid.o hh1915).2.1
              have f1917 : Fr (pW v1.toInt) I I1910 := Fr.tr f1900 f1916 (fun _ _ => trivial)
              have m1918 : PMp I1893 I1910 := (PMp.mk (Hid.o hh1915).2.2.1 (Hid.o hh1915).2.2.2.1)
              have wr1919 := Or.imp (fun z => z.2) (fun z => And.intro z.1 z.2.1) (Hid.o hh1915).2.2.2.2
              have q1920 : (0 : Int32).toInt = 0 := rfl
              have q1921 : (99 : Int32).toInt = 99 := rfl
              have b1922 := Bd.o hB1912 (show isO 112 97 12 = true from rfl) (show bnd 12 12 = some _ from rfl)
              have b1923 := Bd.o hB1912 (show isO 112 97 12 = true from rfl) (show bnd 12 14 = some _ from rfl)
              have b1924 := Bd.o hB1912 (show isO 112 97 12 = true from rfl) (show bnd 12 16 = some _ from rfl)
              have i1925 := i32 x1909
              have e1926 : ((v1 + 6) : Int32).toInt = (v1.toInt) + (6) := ti_add rfl rfl (by omega)
              refine ⟨vp_of (a := (v1.toInt + 6)) e1926 (by omega) (by omega), ?_⟩
              have hB1927 : Bd (uI I1910 102 (Int32.toNatClampNeg (v1 + 6)) x1909) := Bd.cnew hB1912 (show ((v1 + 6) : Int32).toInt = (v1.toInt + 6) from e1926) (show (x1909 : Int32).toInt = x1909.toInt from rfl) (by omega) (by omega) (by omega) 
              have f1928 : Fr (pW v1.toInt) I (uI I1910 102 (Int32.toNatClampNeg (v1 + 6)) x1909) := Fr.w f1917 (show ((v1 + 6) : Int32).toInt = (v1.toInt + 6) from e1926) (by omega) (fun j hj hp => by unfold pW at hp; omega)
              have e1929 : (((uI I1910 102 (Int32.toNatClampNeg (v1 + 6)) x1909) 102 (Int32.toNatClampNeg (v1 + 1))) : Int32).toInt = x1606.toInt := Eq.trans (congrArg Int32.toInt (Eq.trans (Eq.trans (Eq.trans (Eq.trans (Eq.trans (rd_k (fun z => by have z1 := tn_of (show ((v1 + 1) : Int32).toInt = (v1.toInt + 1) from e1626) (by omega); have z2 := tn_of (show ((v1 + 6) : Int32).toInt = (v1.toInt + 6) from e1926) (by omega); omega)) (f1916.1 (Int32.toNatClampNeg (v1 + 1)) trivial)) (f1899.1 (Int32.toNatClampNeg (v1 + 1)) trivial)) (f1884.1 (Int32.toNatClampNeg (v1 + 1)) trivial)) (rd_k (fun z => by have z1 := tn_of (show ((v1 + 1) : Int32).toInt = (v1.toInt + 1) from e1626) (by omega); have z2 := tn_of (show ((v1 + 7) : Int32).toInt = (v1.toInt + 7) from e1872) (by omega); omega))) rd_eq)) rfl
              have fl1930 : (((uI I1910 102 (Int32.toNatClampNeg (v1 + 6)) x1909) 102 (Int32.toNatClampNeg (v1 + 1))) : Int32).toInt = x1606.toInt := e1929
              have e1931 : (((uI I1910 102 (Int32.toNatClampNeg (v1 + 6)) x1909) 102 (Int32.toNatClampNeg (v1 + 5))) : Int32).toInt = x1.toInt := Eq.trans (congrArg Int32.toInt (Eq.trans (Eq.trans (Eq.trans (Eq.trans (Eq.trans (Eq.trans (Eq.trans (rd_k (fun z => by have z1 := tn_of (show ((v1 + 5) : Int32).toInt = (v1.toInt + 5) from e1080) (by omega); have z2 := tn_of (show ((v1 + 6) : Int32).toInt = (v1.toInt + 6) from e1926) (by omega); omega)) (f1916.1 (Int32.toNatClampNeg (v1 + 5)) trivial)) (f1899.1 (Int32.toNatClampNeg (v1 + 5)) trivial)) (f1884.1 (Int32.toNatClampNeg (v1 + 5)) trivial)) (rd_k (fun z => by have z1 := tn_of (show ((v1 + 5) : Int32).toInt = (v1.toInt + 5) from e1080) (by omega); have z2 := tn_of (show ((v1 + 7) : Int32).toInt = (v1.toInt + 7) from e1872) (by omega); omega))) (rd_k (fun z => by have z1 := tn_of (show ((v1 + 5) : Int32).toInt = (v1.toInt + 5) from e1080) (by omega); have z2 := tn_of (show ((v1 + 1) : Int32).toInt = (v1.toInt + 1) from e1626) (by omega); omega))) (f1613.1 (Int32.toNatClampNeg (v1 + 5)) trivial)) rd_eq)) rfl
              have fl1932 : (((uI I1910 102 (Int32.toNatClampNeg (v1 + 6)) x1909) 102 (Int32.toNatClampNeg (v1 + 5))) : Int32).toInt = x1.toInt := e1931
              have e1933 : (((uI I1910 102 (Int32.toNatClampNeg (v1 + 6)) x1909) 97 12) : Int32).toInt = (I1910 97 12).toInt := Eq.trans (congrArg Int32.toInt (rd_ne (by omega))) rfl
              have fl1934 : (((uI I1910 102 (Int32.toNatClampNeg (v1 + 6)) x1909) 97 12) : Int32).toInt = (I1910 97 12).toInt := e1933
              exact hQ _ _ _ _ hB1927 ⟨f1928, (PMp.o (PMp.tr (PMp.tr (PMp.tr (PMp.o (PMp.o (PMp.tr (PMp.o (PMp.tr (PMp.tr (PMp.refl I) m10) m1069) (by decide)) m1615) (by decide)) (by decide)) m1886) m1901) m1918) (by decide)), (fun hz => by have op0 := Or.resolve_left (Hid.o hh1612).2.2.2.2 (fun z => by have b := PMp.bad (PMp.o (PMp.tr (PMp.tr (PMp.tr (PMp.o (PMp.o (PMp.refl I1607) (by decide)) (by decide)) m1886) m1901) m1918) (by decide)) hz; omega); have op1 := Or.resolve_left (Hid.o hh1915).2.2.2.2 (fun z => by have b := PMp.bad (PMp.o (PMp.refl I1910) (by decide)) hz; omega); omega)⟩
            · skip
              have d1935 : ((x1876.toInt) : Int) = (0) := ci_eq rfl rfl c1890
              refine sp_X12_isSign hB1879 hR0 (fun x1936 y1941 I1937 J1938 hB1939 p1940 => ?_)
              intro o1942
              have hh1943 := Hid.i p1940
              clear p1940
              have f1944 : Fr pT I1877 I1937 := (Hid.o hh1943).2.2.2.2.1
              have f1945 : Fr (pW v1.toInt) I I1937 := Fr.tr f1885 f1944 (fun _ _ => trivial)
              have m1946 : PMp I1877 I1937 := (PMp.keep (Hid.o hh1943).1 (Hid.o hh1943).2.2.1 (Hid.o hh1943).2.2.2.1)
              have q1947 : (62 : Int32).toInt = 62 := rfl
              have e1948 : ((I1877 97 14) : Int32).toInt = (I1607 97 14).toInt := Eq.trans (congrArg Int32.toInt (Eq.trans (Eq.trans (Hid.o hh1883).2.2.1 (rd_ne (by omega))) (rd_ne (by omega)))) rfl
              have i1949 := i32 x1936
              refine ⟨fun c1950 => ?_, fun c1950 => ?_⟩
              · skip
                have d1951 : ¬ ((x1936.toInt) : Int) = (0) := ci_ne rfl rfl c1950
                refine sp_X12_must hB1939 hR0 (fun x1952 y1957 I1953 J1954 hB1955 p1956 => ?_)
                have hh1958 := Hid.i p1956
                clear p1956
                have f1959 : Fr pT I1937 I1953 := (Hid.o hh1958).2.1
                have f1960 : Fr (pW v1.toInt) I I1953 := Fr.tr f1945 f1959 (fun _ _ => trivial)
                have m1961 : PMp I1937 I1953 := (PMp.mk (Hid.o hh1958).2.2.1 (Hid.o hh1958).2.2.2.1)
                have q1962 : (1 : Int32).toInt = 1 := rfl
                have e1963 : ((I1937 97 12) : Int32).toInt = (I1607 97 12).toInt := Eq.trans (congrArg Int32.toInt (Eq.trans (Eq.trans (Eq.trans (Hid.o hh1943).1 (Hid.o hh1883).1) (rd_ne (by omega))) (rd_ne (by omega)))) rfl
                have e1964 : ((I1937 97 14) : Int32).toInt = (I1607 97 14).toInt := Eq.trans (congrArg Int32.toInt (Eq.trans (Eq.trans (Eq.trans (Hid.o hh1943).2.2.1 (Hid.o hh1883).2.2.1) (rd_ne (by omega))) (rd_ne (by omega)))) rfl
                have e1965 : ((I1937 97 16) : Int32).toInt = (I1607 97 16).toInt := Eq.trans (congrArg Int32.toInt (Eq.trans (Eq.trans (Eq.trans (Hid.o hh1943).2.2.2.1 (Hid.o hh1883).2.2.2.1) (rd_ne (by omega))) (rd_ne (by omega)))) rfl
                have b1966 := Bd.o hB1955 (show isO 112 97 12 = true from rfl) (show bnd 12 12 = some _ from rfl)
                have b1967 := Bd.o hB1955 (show isO 112 97 12 = true from rfl) (show bnd 12 14 = some _ from rfl)
                have b1968 := Bd.o hB1955 (show isO 112 97 12 = true from rfl) (show bnd 12 16 = some _ from rfl)
                refine sp_X12_count hB1955 hR0 (fun x1969 y1974 I1970 J1971 hB1972 p1973 => ?_)
                have hh1975 := Hid.i p1973
                clear p1973
                have f1976 : Fr pT I1953 I1970 := (Hid.o hh1975).2.1
                have f1977 : Fr (pW v1.toInt) I I1970 := Fr.tr f1960 f1976 (fun _ _ => trivial)
                have m1978 : PMp I1953 I1970 := (PMp.mk (Hid.o hh1975).2.2.1 (Hid.o hh1975).2.2.2.1)
                have wr1979 := Or.imp (fun z => z.2) (fun z => And.intro z.1 z.2.1) (Hid.o hh1975).2.2.2.2
                have q1980 : (0 : Int32).toInt = 0 := rfl
                have q1981 : (99 : Int32).toInt = 99 := rfl
                have b1982 := Bd.o hB1972 (show isO 112 97 12 = true from rfl) (show bnd 12 12 = some _ from rfl)
                have b1983 := Bd.o hB1972 (show isO 112 97 12 = true from rfl) (show bnd 12 14 = some _ from rfl)
                have b1984 := Bd.o hB1972 (show isO 112 97 12 = true from rfl) (show bnd 12 16 = some _ from rfl)
                have i1985 := i32 x1969
                have e1986 : ((v1 + 6) : Int32).toInt = (v1.toInt) + (6) := ti_add rfl rfl (by omega)
                refine ⟨vp_of (a := (v1.toInt + 6)) e1986 (by omega) (by omega), ?_⟩
                have hB1987 : Bd (uI I1970 102 (Int32.toNatClampNeg (v1 + 6)) x1969) := Bd.cnew hB1972 (show ((v1 + 6) : Int32).toInt = (v1.toInt + 6) from e1986) (show (x1969 : Int32).toInt = x1969.toInt from rfl) (by omega) (by omega) (by omega) 
                have f1988 : Fr (pW v1.toInt) I (uI I1970 102 (Int32.toNatClampNeg (v1 + 6)) x1969) := Fr.w f1977 (show ((v1 + 6) : Int32).toInt = (v1.toInt + 6) from e1986) (by omega) (fun j hj hp => by unfold pW at hp; omega)
                have e1989 : (((uI I1970 102 (Int32.toNatClampNeg (v1 + 6)) x1969) 102 (Int32.toNatClampNeg (v1 + 1))) : Int32).toInt = x1606.toInt := Eq.trans (congrArg Int32.toInt (Eq.trans (Eq.trans (Eq.trans (Eq.trans (Eq.trans (Eq.trans (rd_k (fun z => by have z1 := tn_of (show ((v1 + 1) : Int32).toInt = (v1.toInt + 1) from e1626) (by omega); have z2 := tn_of (show ((v1 + 6) : Int32).toInt = (v1.toInt + 6) from e1986) (by omega); omega)) (f1976.1 (Int32.toNatClampNeg (v1 + 1)) trivial)) (f1959.1 (Int32.toNatClampNeg (v1 + 1)) trivial)) (f1944.1 (Int32.toNatClampNeg (v1 + 1)) trivial)) (f1884.1 (Int32.toNatClampNeg (v1 + 1)) trivial)) (rd_k (fun z => by have z1 := tn_of (show ((v1 + 1) : Int32).toInt = (v1.toInt + 1) from e1626) (by omega); have z2 := tn_of (show ((v1 + 7) : Int32).toInt = (v1.toInt + 7) from e1872) (by omega); omega))) rd_eq)) rfl
                have fl1990 : (((uI I1970 102 (Int32.toNatClampNeg (v1 + 6)) x1969) 102 (Int32.toNatClampNeg (v1 + 1))) : Int32).toInt = x1606.toInt := e1989
                have e1991 : (((uI I1970 102 (Int32.toNatClampNeg (v1 + 6)) x1969) 102 (Int32.toNatClampNeg (v1 + 5))) : Int32).toInt = x1.toInt := Eq.trans (congrArg Int32.toInt (Eq.trans (Eq.trans (Eq.trans (Eq.trans (Eq.trans (Eq.trans (Eq.trans (Eq.trans (rd_k (fun z => by have z1 := tn_of (show ((v1 + 5) : Int32).toInt = (v1.toInt + 5) from e1080) (by omega); have z2 := tn_of (show ((v1 + 6) : Int32).toInt = (v1.toInt + 6) from e1986) (by omega); omega)) (f1976.1 (Int32.toNatClampNeg (v1 + 5)) trivial)) (f1959.1 (Int32.toNatClampNeg (v1 + 5)) trivial)) (f1944.1 (Int32.toNatClampNeg (v1 + 5)) trivial)) (f1884.1 (Int32.toNatClampNeg (v1 + 5)) trivial)) (rd_k (fun z => by have z1 := tn_of (show ((v1 + 5) : Int32).toInt = (v1.toInt + 5) from e1080) (by omega); have z2 := tn_of (show ((v1 + 7) : Int32).toInt = (v1.toInt + 7) from e1872) (by omega); omega))) (rd_k (fun z => by have z1 := tn_of (show ((v1 + 5) : Int32).toInt = (v1.toInt + 5) from e1080) (by omega); have z2 := tn_of (show ((v1 + 1) : Int32).toInt = (v1.toInt + 1) from e1626) (by omega); omega))) (f1613.1 (Int32.toNatClampNeg (v1 + 5)) trivial)) rd_eq)) rfl
                have fl1992 : (((uI I1970 102 (Int32.toNatClampNeg (v1 + 6)) x1969) 102 (Int32.toNatClampNeg (v1 + 5))) : Int32).toInt = x1.toInt := e1991
                have e1993 : (((uI I1970 102 (Int32.toNatClampNeg (v1 + 6)) x1969) 97 12) : Int32).toInt = (I1970 97 12).toInt := Eq.trans (congrArg Int32.toInt (rd_ne (by omega))) rfl
                have fl1994 : (((uI I1970 102 (Int32.toNatClampNeg (v1 + 6)) x1969) 97 12) : Int32).toInt = (I1970 97 12).toInt := e1993
                exact hQ _ _ _ _ hB1987 ⟨f1988, (PMp.o (PMp.tr (PMp.tr (PMp.tr (PMp.tr (PMp.o (PMp.o (PMp.tr (PMp.o (PMp.tr (PMp.tr (PMp.refl I) m10) m1069) (by decide)) m1615) (by decide)) (by decide)) m1886) m1946) m1961) m1978) (by decide)), (fun hz => by have op0 := Or.resolve_left (Hid.o hh1612).2.2.2.2 (fun z => by have b := PMp.bad (PMp.o (PMp.tr (PMp.tr (PMp.tr (PMp.tr (PMp.o (PMp.o (PMp.refl I1607) (by decide)) (by decide)) m1886) m1946) m1961) m1978) (by decide)) hz; omega); have op1 := Or.resolve_left (Hid.o hh1975).2.2.2.2 (fun z => by have b := PMp.bad (PMp.o (PMp.refl I1970) (by decide)) hz; omega); omega)⟩
              · skip
                have d1995 : ((x1936.toInt) : Int) = (0) := ci_eq rfl rfl c1950
                refine sp_X12_isSign hB1939 hR0 (fun x1996 y2001 I1997 J1998 hB1999 p2000 => ?_)
                intro o2002
                have hh2003 := Hid.i p2000
                clear p2000
                have f2004 : Fr pT I1937 I1997 := (Hid.o hh2003).2.2.2.2.1
                have f2005 : Fr (pW v1.toInt) I I1997 := Fr.tr f1945 f2004 (fun _ _ => trivial)
                have m2006 : PMp I1937 I1997 := (PMp.keep (Hid.o hh2003).1 (Hid.o hh2003).2.2.1 (Hid.o hh2003).2.2.2.1)
                have q2007 : (61 : Int32).toInt = 61 := rfl
                have e2008 : ((I1937 97 14) : Int32).toInt = (I1607 97 14).toInt := Eq.trans (congrArg Int32.toInt (Eq.trans (Eq.trans (Eq.trans (Hid.o hh1943).2.2.1 (Hid.o hh1883).2.2.1) (rd_ne (by omega))) (rd_ne (by omega)))) rfl
                have i2009 := i32 x1996
                refine ⟨fun c2010 => ?_, fun c2010 => ?_⟩
                · skip
                  have d2011 : ((x1996.toInt) : Int) = (0) := ci_eq rfl rfl c2010
                  refine sp_X12_must hB1999 hR0 (fun x2012 y2017 I2013 J2014 hB2015 p2016 => ?_)
                  have hh2018 := Hid.i p2016
                  clear p2016
                  have f2019 : Fr pT I1997 I2013 := (Hid.o hh2018).2.1
                  have f2020 : Fr (pW v1.toInt) I I2013 := Fr.tr f2005 f2019 (fun _ _ => trivial)
                  have m2021 : PMp I1997 I2013 := (PMp.mk (Hid.o hh2018).2.2.1 (Hid.o hh2018).2.2.2.1)
                  have q2022 : (0 : Int32).toInt = 0 := rfl
                  have e2023 : ((I1997 97 12) : Int32).toInt = (I1607 97 12).toInt := Eq.trans (congrArg Int32.toInt (Eq.trans (Eq.trans (Eq.trans (Eq.trans (Hid.o hh2003).1 (Hid.o hh1943).1) (Hid.o hh1883).1) (rd_ne (by omega))) (rd_ne (by omega)))) rfl
                  have e2024 : ((I1997 97 14) : Int32).toInt = (I1607 97 14).toInt := Eq.trans (congrArg Int32.toInt (Eq.trans (Eq.trans (Eq.trans (Eq.trans (Hid.o hh2003).2.2.1 (Hid.o hh1943).2.2.1) (Hid.o hh1883).2.2.1) (rd_ne (by omega))) (rd_ne (by omega)))) rfl
                  have e2025 : ((I1997 97 16) : Int32).toInt = (I1607 97 16).toInt := Eq.trans (congrArg Int32.toInt (Eq.trans (Eq.trans (Eq.trans (Eq.trans (Hid.o hh2003).2.2.2.1 (Hid.o hh1943).2.2.2.1) (Hid.o hh1883).2.2.2.1) (rd_ne (by omega))) (rd_ne (by omega)))) rfl
                  have b2026 := Bd.o hB2015 (show isO 112 97 12 = true from rfl) (show bnd 12 12 = some _ from rfl)
                  have b2027 := Bd.o hB2015 (show isO 112 97 12 = true from rfl) (show bnd 12 14 = some _ from rfl)
                  have b2028 := Bd.o hB2015 (show isO 112 97 12 = true from rfl) (show bnd 12 16 = some _ from rfl)
                  refine sp_X12_count hB2015 hR0 (fun x2029 y2034 I2030 J2031 hB2032 p2033 => ?_)
                  have hh2035 := Hid.i p2033
                  clear p2033
                  have f2036 : Fr pT I2013 I2030 := (Hid.o hh2035).2.1
                  have f2037 : Fr (pW v1.toInt) I I2030 := Fr.tr f2020 f2036 (fun _ _ => trivial)
                  have m2038 : PMp I2013 I2030 := (PMp.mk (Hid.o hh2035).2.2.1 (Hid.o hh2035).2.2.2.1)
                  have wr2039 := Or.imp (fun z => z.2) (fun z => And.intro z.1 z.2.1) (Hid.o hh2035).2.2.2.2
                  have q2040 : (0 : Int32).toInt = 0 := rfl
                  have q2041 : (99 : Int32).toInt = 99 := rfl
                  have b2042 := Bd.o hB2032 (show isO 112 97 12 = true from rfl) (show bnd 12 12 = some _ from rfl)
                  have b2043 := Bd.o hB2032 (show isO 112 97 12 = true from rfl) (show bnd 12 14 = some _ from rfl)
                  have b2044 := Bd.o hB2032 (show isO 112 97 12 = true from rfl) (show bnd 12 16 = some _ from rfl)
                  have i2045 := i32 x2029
                  have e2046 : ((v1 + 6) : Int32).toInt = (v1.toInt) + (6) := ti_add rfl rfl (by omega)
                  refine ⟨vp_of (a := (v1.toInt + 6)) e2046 (by omega) (by omega), ?_⟩
                  have hB2047 : Bd (uI I2030 102 (Int32.toNatClampNeg (v1 + 6)) x2029) := Bd.cnew hB2032 (show ((v1 + 6) : Int32).toInt = (v1.toInt + 6) from e2046) (show (x2029 : Int32).toInt = x2029.toInt from rfl) (by omega) (by omega) (by omega) 
                  have f2048 : Fr (pW v1.toInt) I (uI I2030 102 (Int32.toNatClampNeg (v1 + 6)) x2029) := Fr.w f2037 (show ((v1 + 6) : Int32).toInt = (v1.toInt + 6) from e2046) (by omega) (fun j hj hp => by unfold pW at hp; omega)
                  have e2049 : (((uI I2030 102 (Int32.toNatClampNeg (v1 + 6)) x2029) 102 (Int32.toNatClampNeg (v1 + 1))) : Int32).toInt = x1606.toInt := Eq.trans (congrArg Int32.toInt (Eq.trans (Eq.trans (Eq.trans (Eq.trans (Eq.trans (Eq.trans (Eq.trans (rd_k (fun z => by have z1 := tn_of (show ((v1 + 1) : Int32).toInt = (v1.toInt + 1) from e1626) (by omega); have z2 := tn_of (show ((v1 + 6) : Int32).toInt = (v1.toInt + 6) from e2046) (by omega); omega)) (f2036.1 (Int32.toNatClampNeg (v1 + 1)) trivial)) (f2019.1 (Int32.toNatClampNeg (v1 + 1)) trivial)) (f2004.1 (Int32.toNatClampNeg (v1 + 1)) trivial)) (f1944.1 (Int32.toNatClampNeg (v1 + 1)) trivial)) (f1884.1 (Int32.toNatClampNeg (v1 + 1)) trivial)) (rd_k (fun z => by have z1 := tn_of (show ((v1 + 1) : Int32).toInt = (v1.toInt + 1) from e1626) (by omega); have z2 := tn_of (show ((v1 + 7) : Int32).toInt = (v1.toInt + 7) from e1872) (by omega); omega))) rd_eq)) rfl
                  have fl2050 : (((uI I2030 102 (Int32.toNatClampNeg (v1 + 6)) x2029) 102 (Int32.toNatClampNeg (v1 + 1))) : Int32).toInt = x1606.toInt := e2049
                  have e2051 : (((uI I2030 102 (Int32.toNatClampNeg (v1 + 6)) x2029) 102 (Int32.toNatClampNeg (v1 + 5))) : Int32).toInt = x1.toInt := Eq.trans (congrArg Int32.toInt (Eq.trans (Eq.trans (Eq.trans (Eq.trans (Eq.trans (Eq.trans (Eq.trans (Eq.trans (Eq.trans (rd_k (fun z => by have z1 := tn_of (show ((v1 + 5) : Int32).toInt = (v1.toInt + 5) from e1080) (by omega); have z2 := tn_of (show ((v1 + 6) : Int32).toInt = (v1.toInt + 6) from e2046) (by omega); omega)) (f2036.1 (Int32.toNatClampNeg (v1 + 5)) trivial)) (f2019.1 (Int32.toNatClampNeg (v1 + 5)) trivial)) (f2004.1 (Int32.toNatClampNeg (v1 + 5)) trivial)) (f1944.1 (Int32.toNatClampNeg (v1 + 5)) trivial)) (f1884.1 (Int32.toNatClampNeg (v1 + 5)) trivial)) (rd_k (fun z => by have z1 := tn_of (show ((v1 + 5) : Int32).toInt = (v1.toInt + 5) from e1080) (by omega); have z2 := tn_of (show ((v1 + 7) : Int32).toInt = (v1.toInt + 7) from e1872) (by omega); omega))) (rd_k (fun z => by have z1 := tn_of (show ((v1 + 5) : Int32).toInt = (v1.toInt + 5) from e1080) (by omega); have z2 := tn_of (show ((v1 + 1) : Int32).toInt = (v1.toInt + 1) from e1626) (by omega); omega))) (f1613.1 (Int32.toNatClampNeg (v1 + 5)) trivial)) rd_eq)) rfl
                  have fl2052 : (((uI I2030 102 (Int32.toNatClampNeg (v1 + 6)) x2029) 102 (Int32.toNatClampNeg (v1 + 5))) : Int32).toInt = x1.toInt := e2051
                  have e2053 : (((uI I2030 102 (Int32.toNatClampNeg (v1 + 6)) x2029) 97 12) : Int32).toInt = (I2030 97 12).toInt := Eq.trans (congrArg Int32.toInt (rd_ne (by omega))) rfl
                  have fl2054 : (((uI I2030 102 (Int32.toNatClampNeg (v1 + 6)) x2029) 97 12) : Int32).toInt = (I2030 97 12).toInt := e2053
                  exact hQ _ _ _ _ hB2047 ⟨f2048, (PMp.o (PMp.tr (PMp.tr (PMp.tr (PMp.tr (PMp.tr (PMp.o (PMp.o (PMp.tr (PMp.o (PMp.tr (PMp.tr (PMp.refl I) m10) m1069) (by decide)) m1615) (by decide)) (by decide)) m1886) m1946) m2006) m2021) m2038) (by decide)), (fun hz => by have op0 := Or.resolve_left (Hid.o hh1612).2.2.2.2 (fun z => by have b := PMp.bad (PMp.o (PMp.tr (PMp.tr (PMp.tr (PMp.tr (PMp.tr (PMp.o (PMp.o (PMp.refl I1607) (by decide)) (by decide)) m1886) m1946) m2006) m2021) m2038) (by decide)) hz; omega); have op1 := Or.resolve_left (Hid.o hh2035).2.2.2.2 (fun z => by have b := PMp.bad (PMp.o (PMp.refl I2030) (by decide)) hz; omega); omega)⟩
                · skip
                  have d2055 : ¬ ((x1996.toInt) : Int) = (0) := ci_ne rfl rfl c2010
                  refine sp_X12_must hB1999 hR0 (fun x2056 y2061 I2057 J2058 hB2059 p2060 => ?_)
                  have hh2062 := Hid.i p2060
                  clear p2060
                  have f2063 : Fr pT I1997 I2057 := (Hid.o hh2062).2.1
                  have f2064 : Fr (pW v1.toInt) I I2057 := Fr.tr f2005 f2063 (fun _ _ => trivial)
                  have m2065 : PMp I1997 I2057 := (PMp.mk (Hid.o hh2062).2.2.1 (Hid.o hh2062).2.2.2.1)
                  have q2066 : (1 : Int32).toInt = 1 := rfl
                  have e2067 : ((I1997 97 12) : Int32).toInt = (I1607 97 12).toInt := Eq.trans (congrArg Int32.toInt (Eq.trans (Eq.trans (Eq.trans (Eq.trans (Hid.o hh2003).1 (Hid.o hh1943).1) (Hid.o hh1883).1) (rd_ne (by omega))) (rd_ne (by omega)))) rfl
                  have e2068 : ((I1997 97 14) : Int32).toInt = (I1607 97 14).toInt := Eq.trans (congrArg Int32.toInt (Eq.trans (Eq.trans (Eq.trans (Eq.trans (Hid.o hh2003).2.2.1 (Hid.o hh1943).2.2.1) (Hid.o hh1883).2.2.1) (rd_ne (by omega))) (rd_ne (by omega)))) rfl
                  have e2069 : ((I1997 97 16) : Int32).toInt = (I1607 97 16).toInt := Eq.trans (congrArg Int32.toInt (Eq.trans (Eq.trans (Eq.trans (Eq.trans (Hid.o hh2003).2.2.2.1 (Hid.o hh1943).2.2.2.1) (Hid.o hh1883).2.2.2.1) (rd_ne (by omega))) (rd_ne (by omega)))) rfl
                  have b2070 := Bd.o hB2059 (show isO 112 97 12 = true from rfl) (show bnd 12 12 = some _ from rfl)
                  have b2071 := Bd.o hB2059 (show isO 112 97 12 = true from rfl) (show bnd 12 14 = some _ from rfl)
                  have b2072 := Bd.o hB2059 (show isO 112 97 12 = true from rfl) (show bnd 12 16 = some _ from rfl)
                  refine sp_X12_count hB2059 hR0 (fun x2073 y2078 I2074 J2075 hB2076 p2077 => ?_)
                  have hh2079 := Hid.i p2077
                  clear p2077
                  have f2080 : Fr pT I2057 I2074 := (Hid.o hh2079).2.1
                  have f2081 : Fr (pW v1.toInt) I I2074 := Fr.tr f2064 f2080 (fun _ _ => trivial)
                  have m2082 : PMp I2057 I2074 := (PMp.mk (Hid.o hh2079).2.2.1 (Hid.o hh2079).2.2.2.1)
                  have wr2083 := Or.imp (fun z => z.2) (fun z => And.intro z.1 z.2.1) (Hid.o hh2079).2.2.2.2
                  have q2084 : (0 : Int32).toInt = 0 := rfl
                  have q2085 : (99 : Int32).toInt = 99 := rfl
                  have b2086 := Bd.o hB2076 (show isO 112 97 12 = true from rfl) (show bnd 12 12 = some _ from rfl)
                  have b2087 := Bd.o hB2076 (show isO 112 97 12 = true from rfl) (show bnd 12 14 = some _ from rfl)
                  have b2088 := Bd.o hB2076 (show isO 112 97 12 = true from rfl) (show bnd 12 16 = some _ from rfl)
                  have i2089 := i32 x2073
                  have e2090 : ((v1 + 6) : Int32).toInt = (v1.toInt) + (6) := ti_add rfl rfl (by omega)
                  refine ⟨vp_of (a := (v1.toInt + 6)) e2090 (by omega) (by omega), ?_⟩
                  have hB2091 : Bd (uI I2074 102 (Int32.toNatClampNeg (v1 + 6)) x2073) := Bd.cnew hB2076 (show ((v1 + 6) : Int32).toInt = (v1.toInt + 6) from e2090) (show (x2073 : Int32).toInt = x2073.toInt from rfl) (by omega) (by omega) (by omega) 
                  have f2092 : Fr (pW v1.toInt) I (uI I2074 102 (Int32.toNatClampNeg (v1 + 6)) x2073) := Fr.w f2081 (show ((v1 + 6) : Int32).toInt = (v1.toInt + 6) from e2090) (by omega) (fun j hj hp => by unfold pW at hp; omega)
                  have e2093 : (((uI I2074 102 (Int32.toNatClampNeg (v1 + 6)) x2073) 102 (Int32.toNatClampNeg (v1 + 1))) : Int32).toInt = x1606.toInt := Eq.trans (congrArg Int32.toInt (Eq.trans (Eq.trans (Eq.trans (Eq.trans (Eq.trans (Eq.trans (Eq.trans (rd_k (fun z => by have z1 := tn_of (show ((v1 + 1) : Int32).toInt = (v1.toInt + 1) from e1626) (by omega); have z2 := tn_of (show ((v1 + 6) : Int32).toInt = (v1.toInt + 6) from e2090) (by omega); omega)) (f2080.1 (Int32.toNatClampNeg (v1 + 1)) trivial)) (f2063.1 (Int32.toNatClampNeg (v1 + 1)) trivial)) (f2004.1 (Int32.toNatClampNeg (v1 + 1)) trivial)) (f1944.1 (Int32.toNatClampNeg (v1 + 1)) trivial)) (f1884.1 (Int32.toNatClampNeg (v1 + 1)) trivial)) (rd_k (fun z => by have z1 := tn_of (show ((v1 + 1) : Int32).toInt = (v1.toInt + 1) from e1626) (by omega); have z2 := tn_of (show ((v1 + 7) : Int32).toInt = (v1.toInt + 7) from e1872) (by omega); omega))) rd_eq)) rfl
                  have fl2094 : (((uI I2074 102 (Int32.toNatClampNeg (v1 + 6)) x2073) 102 (Int32.toNatClampNeg (v1 + 1))) : Int32).toInt = x1606.toInt := e2093
                  have e2095 : (((uI I2074 102 (Int32.toNatClampNeg (v1 + 6)) x2073) 102 (Int32.toNatClampNeg (v1 + 5))) : Int32).toInt = x1.toInt := Eq.trans (congrArg Int32.toInt (Eq.trans (Eq.trans (Eq.trans (Eq.trans (Eq.trans (Eq.trans (Eq.trans (Eq.trans (Eq.trans (rd_k (fun z => by have z1 := tn_of (show ((v1 + 5) : Int32).toInt = (v1.toInt + 5) from e1080) (by omega); have z2 := tn_of (show ((v1 + 6) : Int32).toInt = (v1.toInt + 6) from e2090) (by omega); omega)) (f2080.1 (Int32.toNatClampNeg (v1 + 5)) trivial)) (f2063.1 (Int32.toNatClampNeg (v1 + 5)) trivial)) (f2004.1 (Int32.toNatClampNeg (v1 + 5)) trivial)) (f1944.1 (Int32.toNatClampNeg (v1 + 5)) trivial)) (f1884.1 (Int32.toNatClampNeg (v1 + 5)) trivial)) (rd_k (fun z => by have z1 := tn_of (show ((v1 + 5) : Int32).toInt = (v1.toInt + 5) from e1080) (by omega); have z2 := tn_of (show ((v1 + 7) : Int32).toInt = (v1.toInt + 7) from e1872) (by omega); omega))) (rd_k (fun z => by have z1 := tn_of (show ((v1 + 5) : Int32).toInt = (v1.toInt + 5) from e1080) (by omega); have z2 := tn_of (show ((v1 + 1) : Int32).toInt = (v1.toInt + 1) from e1626) (by omega); omega))) (f1613.1 (Int32.toNatClampNeg (v1 + 5)) trivial)) rd_eq)) rfl
                  have fl2096 : (((uI I2074 102 (Int32.toNatClampNeg (v1 + 6)) x2073) 102 (Int32.toNatClampNeg (v1 + 5))) : Int32).toInt = x1.toInt := e2095
                  have e2097 : (((uI I2074 102 (Int32.toNatClampNeg (v1 + 6)) x2073) 97 12) : Int32).toInt = (I2074 97 12).toInt := Eq.trans (congrArg Int32.toInt (rd_ne (by omega))) rfl
                  have fl2098 : (((uI I2074 102 (Int32.toNatClampNeg (v1 + 6)) x2073) 97 12) : Int32).toInt = (I2074 97 12).toInt := e2097
                  exact hQ _ _ _ _ hB2091 ⟨f2092, (PMp.o (PMp.tr (PMp.tr (PMp.tr (PMp.tr (PMp.tr (PMp.o (PMp.o (PMp.tr (PMp.o (PMp.tr (PMp.tr (PMp.refl I) m10) m1069) (by decide)) m1615) (by decide)) (by decide)) m1886) m1946) m2006) m2065) m2082) (by decide)), (fun hz => by have op0 := Or.resolve_left (Hid.o hh1612).2.2.2.2 (fun z => by have b := PMp.bad (PMp.o (PMp.tr (PMp.tr (PMp.tr (PMp.tr (PMp.tr (PMp.o (PMp.o (PMp.refl I1607) (by decide)) (by decide)) m1886) m1946) m2006) m2065) m2082) (by decide)) hz; omega); have op1 := Or.resolve_left (Hid.o hh2079).2.2.2.2 (fun z => by have b := PMp.bad (PMp.o (PMp.refl I2074) (by decide)) hz; omega); omega)⟩
        · skip
          have d2099 : ((x1.toInt) : Int) = (0) := ci_eq rfl rfl c1639
          have e2100 : (((uI I1607 102 (Int32.toNatClampNeg (v1 + 1)) x1606) 102 (Int32.toNatClampNeg (v1 + 1))) : Int32).toInt = x1606.toInt := Eq.trans (congrArg Int32.toInt rd_eq) rfl
          have fl2101 : (((uI I1607 102 (Int32.toNatClampNeg (v1 + 1)) x1606) 102 (Int32.toNatClampNeg (v1 + 1))) : Int32).toInt = x1606.toInt := e2100
          have e2102 : (((uI I1607 102 (Int32.toNatClampNeg (v1 + 1)) x1606) 102 (Int32.toNatClampNeg (v1 + 5))) : Int32).toInt = x1.toInt := Eq.trans (congrArg Int32.toInt (Eq.trans (Eq.trans (rd_k (fun z => by have z1 := tn_of (show ((v1 + 5) : Int32).toInt = (v1.toInt + 5) from e1080) (by omega); have z2 := tn_of (show ((v1 + 1) : Int32).toInt = (v1.toInt + 1) from e1626) (by omega); omega)) (f1613.1 (Int32.toNatClampNeg (v1 + 5)) trivial)) rd_eq)) rfl
          have fl2103 : (((uI I1607 102 (Int32.toNatClampNeg (v1 + 1)) x1606) 102 (Int32.toNatClampNeg (v1 + 5))) : Int32).toInt = x1.toInt := e2102
          have fl2104 : (((uI I1607 102 (Int32.toNatClampNeg (v1 + 1)) x1606) 97 12) : Int32).toInt = (I1607 97 12).toInt := e1637
          exact hQ _ _ _ _ hB1627 ⟨f1628, (PMp.o (PMp.tr (PMp.o (PMp.tr (PMp.tr (PMp.refl I) m10) m1069) (by decide)) m1615) (by decide)), (fun hz => by have op0 := Or.resolve_left (Hid.o hh1612).2.2.2.2 (fun z => by have b := PMp.bad (PMp.o (PMp.refl I1607) (by decide)) hz; omega); omega)⟩
set_option maxHeartbeats 2000000 in
theorem sp_X12_readRest {d : Nat} {Q : Qt} {v1 : Int32} {I : Im} {J : Jm} {R : Rm} (hB0 : Bd I) (hR0 : RI R) (hv1 : 1350 ≤ v1.toInt ∧ v1.toInt ≤ 1611 ∧ (v1.toInt - 1350) % 9 = 0) (hQ : ∀ (x : Int32) (y : Int64) (I2 : Im) (J2 : Jm), Bd I2 → (Fr (pW v1.toInt) I I2 ∧ PMp I I2 ∧ (((I2 97 12).toInt = 0 → RF (I2 102) v1 (I 102 0).toInt))) → Q x y I2 J2 R) : AM (d + 7) 235 112 [.ref 97, .int v1] I J R Q := by
  have i_v1 := i32 v1
  refine am_X12_readRest (fun P hc => ?_)
  have L : ∀ n : Nat, (∀ (v3 : Int32) (M : Im) (JM : Jm), Bd M → Fr (pW v1.toInt) I M → PMp I M → ((1 : Int) = 0) → 1 < (n : Int) → P 13 112 [(0, .ref 97), (1, .int v1), (3, .int v3)] [] M JM R) ∧ (∀ (M : Im) (JM : Jm), Bd M → Fr (pW v1.toInt) I M → PMp I M → (((M 102 v1.toNatClampNeg).toInt = 2 ∨ (M 102 v1.toNatClampNeg).toInt = 3)) → 1 < (n : Int) → P 90 112 [(0, .ref 97), (1, .int v1)] [] M JM R) := by
    intro n
    induction n with
    | zero =>
      exact ⟨fun v3 M J _ _ _ hi hm => absurd hm (by omega), fun  M J _ _ _ hi hm => absurd hm (by omega)⟩
    | succ n ih =>
      refine ⟨?_, ?_⟩
      · skip
        intro v3 M JM hB hf hpm hi hm
        have i_v1 := i32 v1
        have i_v3 := i32 v3
        refine sg_X12_readRest_13 hc _ _ _ _ _ ?_
        refine ⟨fun c1 => ?_, fun c1 => ?_⟩
        · skip
          have d2 : ((4) : Int) ≤ (v3.toInt) := ci_le rfl rfl c1
          have fl3 : ((M 102 (Int32.toNatClampNeg v1)) : Int32).toInt = (M 102 (Int32.toNatClampNeg v1)).toInt := rfl
          have fl4 : ((M 102 (Int32.toNatClampNeg (v1 + 1))) : Int32).toInt = (M 102 (Int32.toNatClampNeg (v1 + 1))).toInt := rfl
          have fl5 : ((M 102 (Int32.toNatClampNeg (v1 + 2))) : Int32).toInt = (M 102 (Int32.toNatClampNeg (v1 + 2))).toInt := rfl
          have fl6 : ((M 102 (Int32.toNatClampNeg (v1 + 3))) : Int32).toInt = (M 102 (Int32.toNatClampNeg (v1 + 3))).toInt := rfl
          have fl7 : ((M 102 (Int32.toNatClampNeg (v1 + 5))) : Int32).toInt = (M 102 (Int32.toNatClampNeg (v1 + 5))).toInt := rfl
          have b8 := Bd.o hB (show isO 112 97 12 = true from rfl) (show bnd 12 12 = some _ from rfl)
          have fl9 : ((M 97 12) : Int32).toInt = (M 97 12).toInt := rfl
          exact hQ _ _ _ _ hB ⟨hf, hpm, (fun hz => by unfold RF; omega)⟩
        · skip
          have d10 : ((v3.toInt) : Int) < (4) := ci_nle rfl rfl c1
          refine sp_X12_count hB hR0 (fun x11 y16 I12 J13 hB14 p15 => ?_)
          have hh17 := Hid.i p15
          clear p15
          have f18 : Fr pT M I12 := (Hid.o hh17).2.1
          have f19 : Fr (pW v1.toInt) I I12 := Fr.tr hf f18 (fun _ _ => trivial)
          have m20 : PMp M I12 := (PMp.mk (Hid.o hh17).2.2.1 (Hid.o hh17).2.2.2.1)
          have wr21 := Or.imp (fun z => z.2) (fun z => And.intro z.1 z.2.1) (Hid.o hh17).2.2.2.2
          have q22 : (1 : Int32).toInt = 1 := rfl
          have q23 : (30 : Int32).toInt = 30 := rfl
          have b24 := Bd.o hB (show isO 112 97 12 = true from rfl) (show bnd 12 12 = some _ from rfl)
          have b25 := Bd.o hB (show isO 112 97 12 = true from rfl) (show bnd 12 14 = some _ from rfl)
          have b26 := Bd.o hB (show isO 112 97 12 = true from rfl) (show bnd 12 16 = some _ from rfl)
          have b27 := Bd.o hB14 (show isO 112 97 12 = true from rfl) (show bnd 12 12 = some _ from rfl)
          have b28 := Bd.o hB14 (show isO 112 97 12 = true from rfl) (show bnd 12 14 = some _ from rfl)
          have b29 := Bd.o hB14 (show isO 112 97 12 = true from rfl) (show bnd 12 16 = some _ from rfl)
          have i30 := i32 x11
          refine ⟨vp_of (a := ((v1 + v3) : Int32).toInt) rfl (by omega) (by omega), ?_⟩
          have hB31 : Bd (uI I12 102 (Int32.toNatClampNeg (v1 + v3)) x11) := Bd.cnew hB14 (show ((v1 + v3) : Int32).toInt = ((v1 + v3) : Int32).toInt from rfl) (show (x11 : Int32).toInt = x11.toInt from rfl) (by omega) (by omega) (by omega) 
          have f32 : Fr (pW v1.toInt) I (uI I12 102 (Int32.toNatClampNeg (v1 + v3)) x11) := Fr.w f19 (show ((v1 + v3) : Int32).toInt = ((v1 + v3) : Int32).toInt from rfl) (by omega) (fun j hj hp => by unfold pW at hp; omega)
          have cb33 := ((PMp.o (PMp.tr (PMp.refl M) m20) (by decide))).2
          exact ih.1 _ _ _ hB31 f32 (PMp.o (PMp.tr hpm m20) (by decide)) (by omega) (by omega)
      · skip
        intro  M JM hB hf hpm hi hm
        have i_v1 := i32 v1
        refine sg_X12_readRest_90 hc _ _ _ _ ?_
        refine sp_X12_readTold hB hR0 (by have z : (0 : Int32).toInt = 0 := rfl; omega) (fun x34 y39 I35 J36 hB37 p38 => ?_)
        have hh40 := Hid.i p38
        clear p38
        have f41 : Fr pT M I35 := (Hid.o hh40).2.1
        have f42 : Fr (pW v1.toInt) I I35 := Fr.tr hf f41 (fun _ _ => trivial)
        have m43 : PMp M I35 := (PMp.mk (Hid.o hh40).2.2.1.1 (Hid.o hh40).2.2.1.2.1)
        have wr44 := (Hid.o hh40).2.2.1.2.2
        have q45 : (0 : Int32).toInt = 0 := rfl
        have b46 := (Bd.c hB0 (j := 0) (z := 0) rfl).1 (by decide)
        have e47 : ((M 102 0) : Int32).toInt = (I 102 0).toInt := Eq.trans (congrArg Int32.toInt (hf.1 0 (by unfold pW; omega))) rfl
        have b48 := Bd.o hB (show isO 112 97 12 = true from rfl) (show bnd 12 12 = some _ from rfl)
        have b49 := Bd.o hB (show isO 112 97 12 = true from rfl) (show bnd 12 14 = some _ from rfl)
        have b50 := Bd.o hB (show isO 112 97 12 = true from rfl) (show bnd 12 16 = some _ from rfl)
        have b51 := Bd.o hB37 (show isO 112 97 12 = true from rfl) (show bnd 12 12 = some _ from rfl)
        have b52 := Bd.o hB37 (show isO 112 97 12 = true from rfl) (show bnd 12 14 = some _ from rfl)
        have b53 := Bd.o hB37 (show isO 112 97 12 = true from rfl) (show bnd 12 16 = some _ from rfl)
        have i54 := i32 x34
        have e55 : ((v1 + 1) : Int32).toInt = (v1.toInt) + (1) := ti_add rfl rfl (by omega)
        refine ⟨vp_of (a := (v1.toInt + 1)) e55 (by omega) (by omega), ?_⟩
        have hB56 : Bd (uI I35 102 (Int32.toNatClampNeg (v1 + 1)) x34) := Bd.cnew hB37 (show ((v1 + 1) : Int32).toInt = (v1.toInt + 1) from e55) (show (x34 : Int32).toInt = x34.toInt from rfl) (by omega) (by omega) (by omega) 
        have f57 : Fr (pW v1.toInt) I (uI I35 102 (Int32.toNatClampNeg (v1 + 1)) x34) := Fr.w f42 (show ((v1 + 1) : Int32).toInt = (v1.toInt + 1) from e55) (by omega) (fun j hj hp => by unfold pW at hp; omega)
        refine sp_X12_count hB56 hR0 (fun x58 y63 I59 J60 hB61 p62 => ?_)
        have hh64 := Hid.i p62
        clear p62
        have f65 : Fr pT (uI I35 102 (Int32.toNatClampNeg (v1 + 1)) x34) I59 := (Hid.o hh64).2.1
        have f66 : Fr (pW v1.toInt) I I59 := Fr.tr f57 f65 (fun _ _ => trivial)
        have m67 : PMp (uI I35 102 (Int32.toNatClampNeg (v1 + 1)) x34) I59 := (PMp.mk (Hid.o hh64).2.2.1 (Hid.o hh64).2.2.2.1)
        have wr68 := Or.imp (fun z => z.2) (fun z => And.intro z.1 z.2.1) (Hid.o hh64).2.2.2.2
        have q69 : (1 : Int32).toInt = 1 := rfl
        have q70 : (30 : Int32).toInt = 30 := rfl
        have e71 : (((uI I35 102 (Int32.toNatClampNeg (v1 + 1)) x34) 97 12) : Int32).toInt = (I35 97 12).toInt := Eq.trans (congrArg Int32.toInt (rd_ne (by omega))) rfl
        have e72 : (((uI I35 102 (Int32.toNatClampNeg (v1 + 1)) x34) 97 14) : Int32).toInt = (I35 97 14).toInt := Eq.trans (congrArg Int32.toInt (rd_ne (by omega))) rfl
        have e73 : (((uI I35 102 (Int32.toNatClampNeg (v1 + 1)) x34) 97 16) : Int32).toInt = (I35 97 16).toInt := Eq.trans (congrArg Int32.toInt (rd_ne (by omega))) rfl
        have b74 := Bd.o hB61 (show isO 112 97 12 = true from rfl) (show bnd 12 12 = some _ from rfl)
        have b75 := Bd.o hB61 (show isO 112 97 12 = true from rfl) (show bnd 12 14 = some _ from rfl)
        have b76 := Bd.o hB61 (show isO 112 97 12 = true from rfl) (show bnd 12 16 = some _ from rfl)
        have i77 := i32 x58
        have e78 : ((v1 + 2) : Int32).toInt = (v1.toInt) + (2) := ti_add rfl rfl (by omega)
        refine ⟨vp_of (a := (v1.toInt + 2)) e78 (by omega) (by omega), ?_⟩
        have hB79 : Bd (uI I59 102 (Int32.toNatClampNeg (v1 + 2)) x58) := Bd.cnew hB61 (show ((v1 + 2) : Int32).toInt = (v1.toInt + 2) from e78) (show (x58 : Int32).toInt = x58.toInt from rfl) (by omega) (by omega) (by omega) 
        have f80 : Fr (pW v1.toInt) I (uI I59 102 (Int32.toNatClampNeg (v1 + 2)) x58) := Fr.w f66 (show ((v1 + 2) : Int32).toInt = (v1.toInt + 2) from e78) (by omega) (fun j hj hp => by unfold pW at hp; omega)
        have td81 : ((I35 97 12) : Int32).toInt = (I35 97 12).toInt := rfl
        have td82 : ((I35 97 12)).toInt = 0 → x34.toInt < ((I 102 0)).toInt := fun hz => by have z := (Hid.o hh40).2.2.2 hz rfl; rw [show ((M 102 0)) = (I 102 0) from (hf.1 0 (by unfold pW; omega))] at z; exact z
        have e83 : (((uI I59 102 (Int32.toNatClampNeg (v1 + 2)) x58) 102 (Int32.toNatClampNeg v1)) : Int32).toInt = (M 102 (Int32.toNatClampNeg v1)).toInt := Eq.trans (congrArg Int32.toInt (Eq.trans (Eq.trans (Eq.trans (rd_k (fun z => by have z1 := tn_of (show (v1 : Int32).toInt = v1.toInt from rfl) (by omega); have z2 := tn_of (show ((v1 + 2) : Int32).toInt = (v1.toInt + 2) from e78) (by omega); omega)) (f65.1 (Int32.toNatClampNeg v1) trivial)) (rd_k (fun z => by have z1 := tn_of (show (v1 : Int32).toInt = v1.toInt from rfl) (by omega); have z2 := tn_of (show ((v1 + 1) : Int32).toInt = (v1.toInt + 1) from e55) (by omega); omega))) (f41.1 (Int32.toNatClampNeg v1) trivial))) rfl
        have fl84 : (((uI I59 102 (Int32.toNatClampNeg (v1 + 2)) x58) 102 (Int32.toNatClampNeg v1)) : Int32).toInt = (M 102 (Int32.toNatClampNeg v1)).toInt := e83
        have e85 : (((uI I59 102 (Int32.toNatClampNeg (v1 + 2)) x58) 102 (Int32.toNatClampNeg (v1 + 1))) : Int32).toInt = x34.toInt := Eq.trans (congrArg Int32.toInt (Eq.trans (Eq.trans (rd_k (fun z => by have z1 := tn_of (show ((v1 + 1) : Int32).toInt = (v1.toInt + 1) from e55) (by omega); have z2 := tn_of (show ((v1 + 2) : Int32).toInt = (v1.toInt + 2) from e78) (by omega); omega)) (f65.1 (Int32.toNatClampNeg (v1 + 1)) trivial)) rd_eq)) rfl
        have fl86 : (((uI I59 102 (Int32.toNatClampNeg (v1 + 2)) x58) 102 (Int32.toNatClampNeg (v1 + 1))) : Int32).toInt = x34.toInt := e85
        have e87 : (((uI I59 102 (Int32.toNatClampNeg (v1 + 2)) x58) 102 (Int32.toNatClampNeg (v1 + 2))) : Int32).toInt = x58.toInt := Eq.trans (congrArg Int32.toInt rd_eq) rfl
        have fl88 : (((uI I59 102 (Int32.toNatClampNeg (v1 + 2)) x58) 102 (Int32.toNatClampNeg (v1 + 2))) : Int32).toInt = x58.toInt := e87
        have fl89 : (((uI I59 102 (Int32.toNatClampNeg (v1 + 2)) x58) 102 (Int32.toNatClampNeg (v1 + 3))) : Int32).toInt = ((uI I59 102 (Int32.toNatClampNeg (v1 + 2)) x58) 102 (Int32.toNatClampNeg (v1 + 3))).toInt := rfl
        have fl90 : (((uI I59 102 (Int32.toNatClampNeg (v1 + 2)) x58) 102 (Int32.toNatClampNeg (v1 + 5))) : Int32).toInt = ((uI I59 102 (Int32.toNatClampNeg (v1 + 2)) x58) 102 (Int32.toNatClampNeg (v1 + 5))).toInt := rfl
        have e91 : (((uI I59 102 (Int32.toNatClampNeg (v1 + 2)) x58) 97 12) : Int32).toInt = (I59 97 12).toInt := Eq.trans (congrArg Int32.toInt (rd_ne (by omega))) rfl
        have fl92 : (((uI I59 102 (Int32.toNatClampNeg (v1 + 2)) x58) 97 12) : Int32).toInt = (I59 97 12).toInt := e91
        exact hQ _ _ _ _ hB79 ⟨f80, (PMp.o (PMp.tr (PMp.o (PMp.tr hpm m43) (by decide)) m67) (by decide)), (fun hz => by have op0 := Or.resolve_left (Or.inr True.intro : (1 : Int) ≤ 0 ∨ True) (fun z => by have b := PMp.bad (PMp.o (PMp.tr (PMp.o (PMp.refl I35) (by decide)) m67) (by decide)) hz; omega); have op1 := Or.resolve_left (Hid.o hh64).2.2.2.2 (fun z => by have b := PMp.bad (PMp.o (PMp.refl I59) (by decide)) hz; omega); unfold RF; omega)⟩
  refine sg_X12_readRest_0 hc _ _ _ _ ?_
  refine ⟨vp_of (a := v1.toInt) rfl (by omega) (by omega), ?_⟩
  refine ⟨fun c93 => ?_, fun c93 => ?_⟩
  · skip
    have d94 : ¬ (((I 102 (Int32.toNatClampNeg v1)).toInt) : Int) = (0) := ci_ne rfl rfl c93
    refine ⟨fun c95 => ?_, fun c95 => ?_⟩
    · skip
      have d96 : ¬ (((I 102 (Int32.toNatClampNeg v1)).toInt) : Int) = (1) := ci_ne rfl rfl c95
      refine ⟨fun c97 => ?_, fun c97 => ?_⟩
      · skip
        have d98 : (((I 102 (Int32.toNatClampNeg v1)).toInt) : Int) = (2) := ci_eq rfl rfl c97
        have cb99 := ((PMp.refl I)).2
        exact (L 1000000).2 _ _ hB0 (Fr.refl _ _) (PMp.refl I) (by omega) (by omega)
      · skip
        have d100 : ¬ (((I 102 (Int32.toNatClampNeg v1)).toInt) : Int) = (2) := ci_ne rfl rfl c97
        refine ⟨fun c101 => ?_, fun c101 => ?_⟩
        · skip
          have d102 : ¬ (((I 102 (Int32.toNatClampNeg v1)).toInt) : Int) = (3) := ci_ne rfl rfl c101
          refine ⟨fun c103 => ?_, fun c103 => ?_⟩
          · skip
            have d104 : ¬ (((I 102 (Int32.toNatClampNeg v1)).toInt) : Int) = (4) := ci_ne rfl rfl c103
            refine ⟨fun c105 => ?_, fun c105 => ?_⟩
            · skip
              have d106 : ¬ (((I 102 (Int32.toNatClampNeg v1)).toInt) : Int) = (7) := ci_ne rfl rfl c105
              refine ⟨fun c107 => ?_, fun c107 => ?_⟩
              · skip
                have d108 : ¬ (((I 102 (Int32.toNatClampNeg v1)).toInt) : Int) = (6) := ci_ne rfl rfl c107
                have fl109 : ((I 102 (Int32.toNatClampNeg v1)) : Int32).toInt = (I 102 (Int32.toNatClampNeg v1)).toInt := rfl
                have fl110 : ((I 102 (Int32.toNatClampNeg (v1 + 1))) : Int32).toInt = (I 102 (Int32.toNatClampNeg (v1 + 1))).toInt := rfl
                have fl111 : ((I 102 (Int32.toNatClampNeg (v1 + 2))) : Int32).toInt = (I 102 (Int32.toNatClampNeg (v1 + 2))).toInt := rfl
                have fl112 : ((I 102 (Int32.toNatClampNeg (v1 + 3))) : Int32).toInt = (I 102 (Int32.toNatClampNeg (v1 + 3))).toInt := rfl
                have fl113 : ((I 102 (Int32.toNatClampNeg (v1 + 5))) : Int32).toInt = (I 102 (Int32.toNatClampNeg (v1 + 5))).toInt := rfl
                have b114 := Bd.o hB0 (show isO 112 97 12 = true from rfl) (show bnd 12 12 = some _ from rfl)
                have fl115 : ((I 97 12) : Int32).toInt = (I 97 12).toInt := rfl
                exact hQ _ _ _ _ hB0 ⟨(Fr.refl _ _), (PMp.refl I), (fun hz => by unfold RF; omega)⟩
              · skip
                have d116 : (((I 102 (Int32.toNatClampNeg v1)).toInt) : Int) = (6) := ci_eq rfl rfl c107
                refine sp_X12_readTest hB0 hR0 (by have z1 : (v1 : Int32).toInt = v1.toInt := rfl; omega) (fun x117 y122 I118 J119 hB120 p121 => ?_)
                have hh123 := Hid.i p121
                clear p121
                have f124 : Fr (pW v1.toInt) I I118 := (Hid.o hh123).1
                have f125 : Fr (pW v1.toInt) I I118 := Fr.tr (Fr.refl _ _) f124 (fun _ z => z)
                have m126 : PMp I I118 := (Hid.o hh123).2.1
                have b127 := (Bd.c hB0 (j := 0) (z := 0) rfl).1 (by decide)
                have b128 := Bd.o hB120 (show isO 112 97 12 = true from rfl) (show bnd 12 12 = some _ from rfl)
                have fl129 : ((I118 102 (Int32.toNatClampNeg v1)) : Int32).toInt = (I118 102 (Int32.toNatClampNeg v1)).toInt := rfl
                have fl130 : ((I118 102 (Int32.toNatClampNeg (v1 + 1))) : Int32).toInt = (I118 102 (Int32.toNatClampNeg (v1 + 1))).toInt := rfl
                have fl131 : ((I118 102 (Int32.toNatClampNeg (v1 + 2))) : Int32).toInt = (I118 102 (Int32.toNatClampNeg (v1 + 2))).toInt := rfl
                have fl132 : ((I118 102 (Int32.toNatClampNeg (v1 + 3))) : Int32).toInt = (I118 102 (Int32.toNatClampNeg (v1 + 3))).toInt := rfl
                have fl133 : ((I118 102 (Int32.toNatClampNeg (v1 + 5))) : Int32).toInt = (I118 102 (Int32.toNatClampNeg (v1 + 5))).toInt := rfl
                have fl134 : ((I118 97 12) : Int32).toInt = (I118 97 12).toInt := rfl
                exact hQ _ _ _ _ hB120 ⟨f125, (PMp.tr (PMp.refl I) m126), (fun hz => by unfold RF; omega)⟩
            · skip
              have d135 : (((I 102 (Int32.toNatClampNeg v1)).toInt) : Int) = (7) := ci_eq rfl rfl c105
              refine sp_X12_count hB0 hR0 (fun x136 y141 I137 J138 hB139 p140 => ?_)
              have hh142 := Hid.i p140
              clear p140
              have f143 : Fr pT I I137 := (Hid.o hh142).2.1
              have f144 : Fr (pW v1.toInt) I I137 := Fr.tr (Fr.refl _ _) f143 (fun _ _ => trivial)
              have m145 : PMp I I137 := (PMp.mk (Hid.o hh142).2.2.1 (Hid.o hh142).2.2.2.1)
              have wr146 := Or.imp (fun z => z.2) (fun z => And.intro z.1 z.2.1) (Hid.o hh142).2.2.2.2
              have q147 : (1 : Int32).toInt = 1 := rfl
              have q148 : (99 : Int32).toInt = 99 := rfl
              have b149 := Bd.o hB0 (show isO 112 97 12 = true from rfl) (show bnd 12 12 = some _ from rfl)
              have b150 := Bd.o hB0 (show isO 112 97 12 = true from rfl) (show bnd 12 14 = some _ from rfl)
              have b151 := Bd.o hB0 (show isO 112 97 12 = true from rfl) (show bnd 12 16 = some _ from rfl)
              have b152 := Bd.o hB139 (show isO 112 97 12 = true from rfl) (show bnd 12 12 = some _ from rfl)
              have b153 := Bd.o hB139 (show isO 112 97 12 = true from rfl) (show bnd 12 14 = some _ from rfl)
              have b154 := Bd.o hB139 (show isO 112 97 12 = true from rfl) (show bnd 12 16 = some _ from rfl)
              have i155 := i32 x136
              have e156 : ((v1 + 1) : Int32).toInt = (v1.toInt) + (1) := ti_add rfl rfl (by omega)
              refine ⟨vp_of (a := (v1.toInt + 1)) e156 (by omega) (by omega), ?_⟩
              have hB157 : Bd (uI I137 102 (Int32.toNatClampNeg (v1 + 1)) x136) := Bd.cnew hB139 (show ((v1 + 1) : Int32).toInt = (v1.toInt + 1) from e156) (show (x136 : Int32).toInt = x136.toInt from rfl) (by omega) (by omega) (by omega) 
              have f158 : Fr (pW v1.toInt) I (uI I137 102 (Int32.toNatClampNeg (v1 + 1)) x136) := Fr.w f144 (show ((v1 + 1) : Int32).toInt = (v1.toInt + 1) from e156) (by omega) (fun j hj hp => by unfold pW at hp; omega)
              have e159 : (((uI I137 102 (Int32.toNatClampNeg (v1 + 1)) x136) 102 (Int32.toNatClampNeg v1)) : Int32).toInt = (I 102 (Int32.toNatClampNeg v1)).toInt := Eq.trans (congrArg Int32.toInt (Eq.trans (rd_k (fun z => by have z1 := tn_of (show (v1 : Int32).toInt = v1.toInt from rfl) (by omega); have z2 := tn_of (show ((v1 + 1) : Int32).toInt = (v1.toInt + 1) from e156) (by omega); omega)) (f143.1 (Int32.toNatClampNeg v1) trivial))) rfl
              have fl160 : (((uI I137 102 (Int32.toNatClampNeg (v1 + 1)) x136) 102 (Int32.toNatClampNeg v1)) : Int32).toInt = (I 102 (Int32.toNatClampNeg v1)).toInt := e159
              have e161 : (((uI I137 102 (Int32.toNatClampNeg (v1 + 1)) x136) 102 (Int32.toNatClampNeg (v1 + 1))) : Int32).toInt = x136.toInt := Eq.trans (congrArg Int32.toInt rd_eq) rfl
              have fl162 : (((uI I137 102 (Int32.toNatClampNeg (v1 + 1)) x136) 102 (Int32.toNatClampNeg (v1 + 1))) : Int32).toInt = x136.toInt := e161
              have fl163 : (((uI I137 102 (Int32.toNatClampNeg (v1 + 1)) x136) 102 (Int32.toNatClampNeg (v1 + 2))) : Int32).toInt = ((uI I137 102 (Int32.toNatClampNeg (v1 + 1)) x136) 102 (Int32.toNatClampNeg (v1 + 2))).toInt := rfl
              have fl164 : (((uI I137 102 (Int32.toNatClampNeg (v1 + 1)) x136) 102 (Int32.toNatClampNeg (v1 + 3))) : Int32).toInt = ((uI I137 102 (Int32.toNatClampNeg (v1 + 1)) x136) 102 (Int32.toNatClampNeg (v1 + 3))).toInt := rfl
              have fl165 : (((uI I137 102 (Int32.toNatClampNeg (v1 + 1)) x136) 102 (Int32.toNatClampNeg (v1 + 5))) : Int32).toInt = ((uI I137 102 (Int32.toNatClampNeg (v1 + 1)) x136) 102 (Int32.toNatClampNeg (v1 + 5))).toInt := rfl
              have e166 : (((uI I137 102 (Int32.toNatClampNeg (v1 + 1)) x136) 97 12) : Int32).toInt = (I137 97 12).toInt := Eq.trans (congrArg Int32.toInt (rd_ne (by omega))) rfl
              have fl167 : (((uI I137 102 (Int32.toNatClampNeg (v1 + 1)) x136) 97 12) : Int32).toInt = (I137 97 12).toInt := e166
              exact hQ _ _ _ _ hB157 ⟨f158, (PMp.o (PMp.tr (PMp.refl I) m145) (by decide)), (fun hz => by have op0 := Or.resolve_left (Hid.o hh142).2.2.2.2 (fun z => by have b := PMp.bad (PMp.o (PMp.refl I137) (by decide)) hz; omega); unfold RF; omega)⟩
          · skip
            have d168 : (((I 102 (Int32.toNatClampNeg v1)).toInt) : Int) = (4) := ci_eq rfl rfl c103
            refine sp_X12_count hB0 hR0 (fun x169 y174 I170 J171 hB172 p173 => ?_)
            have hh175 := Hid.i p173
            clear p173
            have f176 : Fr pT I I170 := (Hid.o hh175).2.1
            have f177 : Fr (pW v1.toInt) I I170 := Fr.tr (Fr.refl _ _) f176 (fun _ _ => trivial)
            have m178 : PMp I I170 := (PMp.mk (Hid.o hh175).2.2.1 (Hid.o hh175).2.2.2.1)
            have wr179 := Or.imp (fun z => z.2) (fun z => And.intro z.1 z.2.1) (Hid.o hh175).2.2.2.2
            have q180 : (1 : Int32).toInt = 1 := rfl
            have q181 : (9 : Int32).toInt = 9 := rfl
            have b182 := Bd.o hB0 (show isO 112 97 12 = true from rfl) (show bnd 12 12 = some _ from rfl)
            have b183 := Bd.o hB0 (show isO 112 97 12 = true from rfl) (show bnd 12 14 = some _ from rfl)
            have b184 := Bd.o hB0 (show isO 112 97 12 = true from rfl) (show bnd 12 16 = some _ from rfl)
            have b185 := Bd.o hB172 (show isO 112 97 12 = true from rfl) (show bnd 12 12 = some _ from rfl)
            have b186 := Bd.o hB172 (show isO 112 97 12 = true from rfl) (show bnd 12 14 = some _ from rfl)
            have b187 := Bd.o hB172 (show isO 112 97 12 = true from rfl) (show bnd 12 16 = some _ from rfl)
            have i188 := i32 x169
            have e189 : ((v1 + 1) : Int32).toInt = (v1.toInt) + (1) := ti_add rfl rfl (by omega)
            refine ⟨vp_of (a := (v1.toInt + 1)) e189 (by omega) (by omega), ?_⟩
            have hB190 : Bd (uI I170 102 (Int32.toNatClampNeg (v1 + 1)) x169) := Bd.cnew hB172 (show ((v1 + 1) : Int32).toInt = (v1.toInt + 1) from e189) (show (x169 : Int32).toInt = x169.toInt from rfl) (by omega) (by omega) (by omega) 
            have f191 : Fr (pW v1.toInt) I (uI I170 102 (Int32.toNatClampNeg (v1 + 1)) x169) := Fr.w f177 (show ((v1 + 1) : Int32).toInt = (v1.toInt + 1) from e189) (by omega) (fun j hj hp => by unfold pW at hp; omega)
            have e192 : (((uI I170 102 (Int32.toNatClampNeg (v1 + 1)) x169) 102 (Int32.toNatClampNeg v1)) : Int32).toInt = (I 102 (Int32.toNatClampNeg v1)).toInt := Eq.trans (congrArg Int32.toInt (Eq.trans (rd_k (fun z => by have z1 := tn_of (show (v1 : Int32).toInt = v1.toInt from rfl) (by omega); have z2 := tn_of (show ((v1 + 1) : Int32).toInt = (v1.toInt + 1) from e189) (by omega); omega)) (f176.1 (Int32.toNatClampNeg v1) trivial))) rfl
            have fl193 : (((uI I170 102 (Int32.toNatClampNeg (v1 + 1)) x169) 102 (Int32.toNatClampNeg v1)) : Int32).toInt = (I 102 (Int32.toNatClampNeg v1)).toInt := e192
            have e194 : (((uI I170 102 (Int32.toNatClampNeg (v1 + 1)) x169) 102 (Int32.toNatClampNeg (v1 + 1))) : Int32).toInt = x169.toInt := Eq.trans (congrArg Int32.toInt rd_eq) rfl
            have fl195 : (((uI I170 102 (Int32.toNatClampNeg (v1 + 1)) x169) 102 (Int32.toNatClampNeg (v1 + 1))) : Int32).toInt = x169.toInt := e194
            have fl196 : (((uI I170 102 (Int32.toNatClampNeg (v1 + 1)) x169) 102 (Int32.toNatClampNeg (v1 + 2))) : Int32).toInt = ((uI I170 102 (Int32.toNatClampNeg (v1 + 1)) x169) 102 (Int32.toNatClampNeg (v1 + 2))).toInt := rfl
            have fl197 : (((uI I170 102 (Int32.toNatClampNeg (v1 + 1)) x169) 102 (Int32.toNatClampNeg (v1 + 3))) : Int32).toInt = ((uI I170 102 (Int32.toNatClampNeg (v1 + 1)) x169) 102 (Int32.toNatClampNeg (v1 + 3))).toInt := rfl
            have fl198 : (((uI I170 102 (Int32.toNatClampNeg (v1 + 1)) x169) 102 (Int32.toNatClampNeg (v1 + 5))) : Int32).toInt = ((uI I170 102 (Int32.toNatClampNeg (v1 + 1)) x169) 102 (Int32.toNatClampNeg (v1 + 5))).toInt := rfl
            have e199 : (((uI I170 102 (Int32.toNatClampNeg (v1 + 1)) x169) 97 12) : Int32).toInt = (I170 97 12).toInt := Eq.trans (congrArg Int32.toInt (rd_ne (by omega))) rfl
            have fl200 : (((uI I170 102 (Int32.toNatClampNeg (v1 + 1)) x169) 97 12) : Int32).toInt = (I170 97 12).toInt := e199
            exact hQ _ _ _ _ hB190 ⟨f191, (PMp.o (PMp.tr (PMp.refl I) m178) (by decide)), (fun hz => by have op0 := Or.resolve_left (Hid.o hh175).2.2.2.2 (fun z => by have b := PMp.bad (PMp.o (PMp.refl I170) (by decide)) hz; omega); unfold RF; omega)⟩
        · skip
          have d201 : (((I 102 (Int32.toNatClampNeg v1)).toInt) : Int) = (3) := ci_eq rfl rfl c101
          have cb202 := ((PMp.refl I)).2
          exact (L 1000000).2 _ _ hB0 (Fr.refl _ _) (PMp.refl I) (by omega) (by omega)
    · skip
      have d203 : (((I 102 (Int32.toNatClampNeg v1)).toInt) : Int) = (1) := ci_eq rfl rfl c95
      refine sp_X12_count hB0 hR0 (fun x204 y209 I205 J206 hB207 p208 => ?_)
      have hh210 := Hid.i p208
      clear p208
      have f211 : Fr pT I I205 := (Hid.o hh210).2.1
      have f212 : Fr (pW v1.toInt) I I205 := Fr.tr (Fr.refl _ _) f211 (fun _ _ => trivial)
      have m213 : PMp I I205 := (PMp.mk (Hid.o hh210).2.2.1 (Hid.o hh210).2.2.2.1)
      have wr214 := Or.imp (fun z => z.2) (fun z => And.intro z.1 z.2.1) (Hid.o hh210).2.2.2.2
      have q215 : (1 : Int32).toInt = 1 := rfl
      have q216 : (30 : Int32).toInt = 30 := rfl
      have b217 := Bd.o hB0 (show isO 112 97 12 = true from rfl) (show bnd 12 12 = some _ from rfl)
      have b218 := Bd.o hB0 (show isO 112 97 12 = true from rfl) (show bnd 12 14 = some _ from rfl)
      have b219 := Bd.o hB0 (show isO 112 97 12 = true from rfl) (show bnd 12 16 = some _ from rfl)
      have b220 := Bd.o hB207 (show isO 112 97 12 = true from rfl) (show bnd 12 12 = some _ from rfl)
      have b221 := Bd.o hB207 (show isO 112 97 12 = true from rfl) (show bnd 12 14 = some _ from rfl)
      have b222 := Bd.o hB207 (show isO 112 97 12 = true from rfl) (show bnd 12 16 = some _ from rfl)
      have i223 := i32 x204
      have e224 : ((v1 + 1) : Int32).toInt = (v1.toInt) + (1) := ti_add rfl rfl (by omega)
      refine ⟨vp_of (a := (v1.toInt + 1)) e224 (by omega) (by omega), ?_⟩
      have hB225 : Bd (uI I205 102 (Int32.toNatClampNeg (v1 + 1)) x204) := Bd.cnew hB207 (show ((v1 + 1) : Int32).toInt = (v1.toInt + 1) from e224) (show (x204 : Int32).toInt = x204.toInt from rfl) (by omega) (by omega) (by omega) 
      have f226 : Fr (pW v1.toInt) I (uI I205 102 (Int32.toNatClampNeg (v1 + 1)) x204) := Fr.w f212 (show ((v1 + 1) : Int32).toInt = (v1.toInt + 1) from e224) (by omega) (fun j hj hp => by unfold pW at hp; omega)
      refine sp_X12_count hB225 hR0 (fun x227 y232 I228 J229 hB230 p231 => ?_)
      have hh233 := Hid.i p231
      clear p231
      have f234 : Fr pT (uI I205 102 (Int32.toNatClampNeg (v1 + 1)) x204) I228 := (Hid.o hh233).2.1
      have f235 : Fr (pW v1.toInt) I I228 := Fr.tr f226 f234 (fun _ _ => trivial)
      have m236 : PMp (uI I205 102 (Int32.toNatClampNeg (v1 + 1)) x204) I228 := (PMp.mk (Hid.o hh233).2.2.1 (Hid.o hh233).2.2.2.1)
      have wr237 := Or.imp (fun z => z.2) (fun z => And.intro z.1 z.2.1) (Hid.o hh233).2.2.2.2
      have q238 : (2 : Int32).toInt = 2 := rfl
      have q239 : (30 : Int32).toInt = 30 := rfl
      have e240 : (((uI I205 102 (Int32.toNatClampNeg (v1 + 1)) x204) 97 12) : Int32).toInt = (I205 97 12).toInt := Eq.trans (congrArg Int32.toInt (rd_ne (by omega))) rfl
      have e241 : (((uI I205 102 (Int32.toNatClampNeg (v1 + 1)) x204) 97 14) : Int32).toInt = (I205 97 14).toInt := Eq.trans (congrArg Int32.toInt (rd_ne (by omega))) rfl
      have e242 : (((uI I205 102 (Int32.toNatClampNeg (v1 + 1)) x204) 97 16) : Int32).toInt = (I205 97 16).toInt := Eq.trans (congrArg Int32.toInt (rd_ne (by omega))) rfl
      have b243 := Bd.o hB230 (show isO 112 97 12 = true from rfl) (show bnd 12 12 = some _ from rfl)
      have b244 := Bd.o hB230 (show isO 112 97 12 = true from rfl) (show bnd 12 14 = some _ from rfl)
      have b245 := Bd.o hB230 (show isO 112 97 12 = true from rfl) (show bnd 12 16 = some _ from rfl)
      have i246 := i32 x227
      have e247 : ((v1 + 2) : Int32).toInt = (v1.toInt) + (2) := ti_add rfl rfl (by omega)
      refine ⟨vp_of (a := (v1.toInt + 2)) e247 (by omega) (by omega), ?_⟩
      have hB248 : Bd (uI I228 102 (Int32.toNatClampNeg (v1 + 2)) x227) := Bd.cnew hB230 (show ((v1 + 2) : Int32).toInt = (v1.toInt + 2) from e247) (show (x227 : Int32).toInt = x227.toInt from rfl) (by omega) (by omega) (by omega) 
      have f249 : Fr (pW v1.toInt) I (uI I228 102 (Int32.toNatClampNeg (v1 + 2)) x227) := Fr.w f235 (show ((v1 + 2) : Int32).toInt = (v1.toInt + 2) from e247) (by omega) (fun j hj hp => by unfold pW at hp; omega)
      have e250 : (((uI I228 102 (Int32.toNatClampNeg (v1 + 2)) x227) 102 (Int32.toNatClampNeg v1)) : Int32).toInt = (I 102 (Int32.toNatClampNeg v1)).toInt := Eq.trans (congrArg Int32.toInt (Eq.trans (Eq.trans (Eq.trans (rd_k (fun z => by have z1 := tn_of (show (v1 : Int32).toInt = v1.toInt from rfl) (by omega); have z2 := tn_of (show ((v1 + 2) : Int32).toInt = (v1.toInt + 2) from e247) (by omega); omega)) (f234.1 (Int32.toNatClampNeg v1) trivial)) (rd_k (fun z => by have z1 := tn_of (show (v1 : Int32).toInt = v1.toInt from rfl) (by omega); have z2 := tn_of (show ((v1 + 1) : Int32).toInt = (v1.toInt + 1) from e224) (by omega); omega))) (f211.1 (Int32.toNatClampNeg v1) trivial))) rfl
      have fl251 : (((uI I228 102 (Int32.toNatClampNeg (v1 + 2)) x227) 102 (Int32.toNatClampNeg v1)) : Int32).toInt = (I 102 (Int32.toNatClampNeg v1)).toInt := e250
      have e252 : (((uI I228 102 (Int32.toNatClampNeg (v1 + 2)) x227) 102 (Int32.toNatClampNeg (v1 + 1))) : Int32).toInt = x204.toInt := Eq.trans (congrArg Int32.toInt (Eq.trans (Eq.trans (rd_k (fun z => by have z1 := tn_of (show ((v1 + 1) : Int32).toInt = (v1.toInt + 1) from e224) (by omega); have z2 := tn_of (show ((v1 + 2) : Int32).toInt = (v1.toInt + 2) from e247) (by omega); omega)) (f234.1 (Int32.toNatClampNeg (v1 + 1)) trivial)) rd_eq)) rfl
      have fl253 : (((uI I228 102 (Int32.toNatClampNeg (v1 + 2)) x227) 102 (Int32.toNatClampNeg (v1 + 1))) : Int32).toInt = x204.toInt := e252
      have e254 : (((uI I228 102 (Int32.toNatClampNeg (v1 + 2)) x227) 102 (Int32.toNatClampNeg (v1 + 2))) : Int32).toInt = x227.toInt := Eq.trans (congrArg Int32.toInt rd_eq) rfl
      have fl255 : (((uI I228 102 (Int32.toNatClampNeg (v1 + 2)) x227) 102 (Int32.toNatClampNeg (v1 + 2))) : Int32).toInt = x227.toInt := e254
      have fl256 : (((uI I228 102 (Int32.toNatClampNeg (v1 + 2)) x227) 102 (Int32.toNatClampNeg (v1 + 3))) : Int32).toInt = ((uI I228 102 (Int32.toNatClampNeg (v1 + 2)) x227) 102 (Int32.toNatClampNeg (v1 + 3))).toInt := rfl
      have fl257 : (((uI I228 102 (Int32.toNatClampNeg (v1 + 2)) x227) 102 (Int32.toNatClampNeg (v1 + 5))) : Int32).toInt = ((uI I228 102 (Int32.toNatClampNeg (v1 + 2)) x227) 102 (Int32.toNatClampNeg (v1 + 5))).toInt := rfl
      have e258 : (((uI I228 102 (Int32.toNatClampNeg (v1 + 2)) x227) 97 12) : Int32).toInt = (I228 97 12).toInt := Eq.trans (congrArg Int32.toInt (rd_ne (by omega))) rfl
      have fl259 : (((uI I228 102 (Int32.toNatClampNeg (v1 + 2)) x227) 97 12) : Int32).toInt = (I228 97 12).toInt := e258
      exact hQ _ _ _ _ hB248 ⟨f249, (PMp.o (PMp.tr (PMp.o (PMp.tr (PMp.refl I) m213) (by decide)) m236) (by decide)), (fun hz => by have op0 := Or.resolve_left (Hid.o hh210).2.2.2.2 (fun z => by have b := PMp.bad (PMp.o (PMp.tr (PMp.o (PMp.refl I205) (by decide)) m236) (by decide)) hz; omega); have op1 := Or.resolve_left (Hid.o hh233).2.2.2.2 (fun z => by have b := PMp.bad (PMp.o (PMp.refl I228) (by decide)) hz; omega); unfold RF; omega)⟩
  · skip
    have d260 : (((I 102 (Int32.toNatClampNeg v1)).toInt) : Int) = (0) := ci_eq rfl rfl c93
    have cb261 := ((PMp.refl I)).2
    refine sg_X12_readRest_13 hc _ _ _ _ _ ?_
    refine ⟨fun c262 => ?_, fun c262 => ?_⟩
    · exact absurd c262 (by decide)
    · skip
      refine sp_X12_count hB0 hR0 (fun x263 y268 I264 J265 hB266 p267 => ?_)
      have hh269 := Hid.i p267
      clear p267
      have f270 : Fr pT I I264 := (Hid.o hh269).2.1
      have f271 : Fr (pW v1.toInt) I I264 := Fr.tr (Fr.refl _ _) f270 (fun _ _ => trivial)
      have m272 : PMp I I264 := (PMp.mk (Hid.o hh269).2.2.1 (Hid.o hh269).2.2.2.1)
      have wr273 := Or.imp (fun z => z.2) (fun z => And.intro z.1 z.2.1) (Hid.o hh269).2.2.2.2
      have q274 : (1 : Int32).toInt = 1 := rfl
      have q275 : (30 : Int32).toInt = 30 := rfl
      have b276 := Bd.o hB0 (show isO 112 97 12 = true from rfl) (show bnd 12 12 = some _ from rfl)
      have b277 := Bd.o hB0 (show isO 112 97 12 = true from rfl) (show bnd 12 14 = some _ from rfl)
      have b278 := Bd.o hB0 (show isO 112 97 12 = true from rfl) (show bnd 12 16 = some _ from rfl)
      have b279 := Bd.o hB266 (show isO 112 97 12 = true from rfl) (show bnd 12 12 = some _ from rfl)
      have b280 := Bd.o hB266 (show isO 112 97 12 = true from rfl) (show bnd 12 14 = some _ from rfl)
      have b281 := Bd.o hB266 (show isO 112 97 12 = true from rfl) (show bnd 12 16 = some _ from rfl)
      have i282 := i32 x263
      have e283 : ((v1 + 1) : Int32).toInt = (v1.toInt) + (1) := ti_add rfl rfl (by omega)
      refine ⟨vp_of (a := (v1.toInt + 1)) e283 (by omega) (by omega), ?_⟩
      have hB284 : Bd (uI I264 102 (Int32.toNatClampNeg (v1 + 1)) x263) := Bd.cnew hB266 (show ((v1 + 1) : Int32).toInt = (v1.toInt + 1) from e283) (show (x263 : Int32).toInt = x263.toInt from rfl) (by omega) (by omega) (by omega) 
      have f285 : Fr (pW v1.toInt) I (uI I264 102 (Int32.toNatClampNeg (v1 + 1)) x263) := Fr.w f271 (show ((v1 + 1) : Int32).toInt = (v1.toInt + 1) from e283) (by omega) (fun j hj hp => by unfold pW at hp; omega)
      have cb286 := ((PMp.o (PMp.tr (PMp.refl I) m272) (by decide))).2
      refine sg_X12_readRest_13 hc _ _ _ _ _ ?_
      refine ⟨fun c287 => ?_, fun c287 => ?_⟩
      · exact absurd c287 (by decide)
      · skip
        refine sp_X12_count hB284 hR0 (fun x288 y293 I289 J290 hB291 p292 => ?_)
        have hh294 := Hid.i p292
        clear p292
        have f295 : Fr pT (uI I264 102 (Int32.toNatClampNeg (v1 + 1)) x263) I289 := (Hid.o hh294).2.1
        have f296 : Fr (pW v1.toInt) I I289 := Fr.tr f285 f295 (fun _ _ => trivial)
        have m297 : PMp (uI I264 102 (Int32.toNatClampNeg (v1 + 1)) x263) I289 := (PMp.mk (Hid.o hh294).2.2.1 (Hid.o hh294).2.2.2.1)
        have wr298 := Or.imp (fun z => z.2) (fun z => And.intro z.1 z.2.1) (Hid.o hh294).2.2.2.2
        have q299 : (1 : Int32).toInt = 1 := rfl
        have q300 : (30 : Int32).toInt = 30 := rfl
        have e301 : (((uI I264 102 (Int32.toNatClampNeg (v1 + 1)) x263) 97 12) : Int32).toInt = (I264 97 12).toInt := Eq.trans (congrArg Int32.toInt (rd_ne (by omega))) rfl
        have e302 : (((uI I264 102 (Int32.toNatClampNeg (v1 + 1)) x263) 97 14) : Int32).toInt = (I264 97 14).toInt := Eq.trans (congrArg Int32.toInt (rd_ne (by omega))) rfl
        have e303 : (((uI I264 102 (Int32.toNatClampNeg (v1 + 1)) x263) 97 16) : Int32).toInt = (I264 97 16).toInt := Eq.trans (congrArg Int32.toInt (rd_ne (by omega))) rfl
        have b304 := Bd.o hB291 (show isO 112 97 12 = true from rfl) (show bnd 12 12 = some _ from rfl)
        have b305 := Bd.o hB291 (show isO 112 97 12 = true from rfl) (show bnd 12 14 = some _ from rfl)
        have b306 := Bd.o hB291 (show isO 112 97 12 = true from rfl) (show bnd 12 16 = some _ from rfl)
        have i307 := i32 x288
        have e308 : ((1 + 1) : Int32).toInt = (1) + (1) := ti_add rfl rfl (by omega)
        have e309 : ((v1 + (1 + 1)) : Int32).toInt = (v1.toInt) + ((1 + 1)) := ti_add rfl e308 (by omega)
        refine ⟨vp_of (a := (v1.toInt + (1 + 1))) e309 (by omega) (by omega), ?_⟩
        have hB310 : Bd (uI I289 102 (Int32.toNatClampNeg (v1 + (1 + 1))) x288) := Bd.cnew hB291 (show ((v1 + (1 + 1)) : Int32).toInt = (v1.toInt + (1 + 1)) from e309) (show (x288 : Int32).toInt = x288.toInt from rfl) (by omega) (by omega) (by omega) 
        have f311 : Fr (pW v1.toInt) I (uI I289 102 (Int32.toNatClampNeg (v1 + (1 + 1))) x288) := Fr.w f296 (show ((v1 + (1 + 1)) : Int32).toInt = (v1.toInt + (1 + 1)) from e309) (by omega) (fun j hj hp => by unfold pW at hp; omega)
        have cb312 := ((PMp.o (PMp.tr (PMp.o (PMp.tr (PMp.refl I) m272) (by decide)) m297) (by decide))).2
        refine sg_X12_readRest_13 hc _ _ _ _ _ ?_
        refine ⟨fun c313 => ?_, fun c313 => ?_⟩
        · exact absurd c313 (by decide)
        · skip
          refine sp_X12_count hB310 hR0 (fun x314 y319 I315 J316 hB317 p318 => ?_)
          have hh320 := Hid.i p318
          clear p318
          have f321 : Fr pT (uI I289 102 (Int32.toNatClampNeg (v1 + (1 + 1))) x288) I315 := (Hid.o hh320).2.1
          have f322 : Fr (pW v1.toInt) I I315 := Fr.tr f311 f321 (fun _ _ => trivial)
          have m323 : PMp (uI I289 102 (Int32.toNatClampNeg (v1 + (1 + 1))) x288) I315 := (PMp.mk (Hid.o hh320).2.2.1 (Hid.o hh320).2.2.2.1)
          have wr324 := Or.imp (fun z => z.2) (fun z => And.intro z.1 z.2.1) (Hid.o hh320).2.2.2.2
          have q325 : (1 : Int32).toInt = 1 := rfl
          have q326 : (30 : Int32).toInt = 30 := rfl
          have e327 : (((uI I289 102 (Int32.toNatClampNeg (v1 + (1 + 1))) x288) 97 12) : Int32).toInt = (I289 97 12).toInt := Eq.trans (congrArg Int32.toInt (rd_ne (by omega))) rfl
          have e328 : (((uI I289 102 (Int32.toNatClampNeg (v1 + (1 + 1))) x288) 97 14) : Int32).toInt = (I289 97 14).toInt := Eq.trans (congrArg Int32.toInt (rd_ne (by omega))) rfl
          have e329 : (((uI I289 102 (Int32.toNatClampNeg (v1 + (1 + 1))) x288) 97 16) : Int32).toInt = (I289 97 16).toInt := Eq.trans (congrArg Int32.toInt (rd_ne (by omega))) rfl
          have b330 := Bd.o hB317 (show isO 112 97 12 = true from rfl) (show bnd 12 12 = some _ from rfl)
          have b331 := Bd.o hB317 (show isO 112 97 12 = true from rfl) (show bnd 12 14 = some _ from rfl)
          have b332 := Bd.o hB317 (show isO 112 97 12 = true from rfl) (show bnd 12 16 = some _ from rfl)
          have i333 := i32 x314
          have e334 : (((1 + 1) + 1) : Int32).toInt = ((1 + 1)) + (1) := ti_add e308 rfl (by omega)
          have e335 : ((v1 + ((1 + 1) + 1)) : Int32).toInt = (v1.toInt) + (((1 + 1) + 1)) := ti_add rfl e334 (by omega)
          refine ⟨vp_of (a := (v1.toInt + ((1 + 1) + 1))) e335 (by omega) (by omega), ?_⟩
          have hB336 : Bd (uI I315 102 (Int32.toNatClampNeg (v1 + ((1 + 1) + 1))) x314) := Bd.cnew hB317 (show ((v1 + ((1 + 1) + 1)) : Int32).toInt = (v1.toInt + ((1 + 1) + 1)) from e335) (show (x314 : Int32).toInt = x314.toInt from rfl) (by omega) (by omega) (by omega) 
          have f337 : Fr (pW v1.toInt) I (uI I315 102 (Int32.toNatClampNeg (v1 + ((1 + 1) + 1))) x314) := Fr.w f322 (show ((v1 + ((1 + 1) + 1)) : Int32).toInt = (v1.toInt + ((1 + 1) + 1)) from e335) (by omega) (fun j hj hp => by unfold pW at hp; omega)
          have cb338 := ((PMp.o (PMp.tr (PMp.o (PMp.tr (PMp.o (PMp.tr (PMp.refl I) m272) (by decide)) m297) (by decide)) m323) (by decide))).2
          refine sg_X12_readRest_13 hc _ _ _ _ _ ?_
          refine ⟨fun c339 => ?_, fun c339 => ?_⟩
          · skip
            have e340 : (((uI I315 102 (Int32.toNatClampNeg (v1 + ((1 + 1) + 1))) x314) 102 (Int32.toNatClampNeg v1)) : Int32).toInt = (I 102 (Int32.toNatClampNeg v1)).toInt := Eq.trans (congrArg Int32.toInt (Eq.trans (Eq.trans (Eq.trans (Eq.trans (Eq.trans (rd_k (fun z => by have z1 := tn_of (show (v1 : Int32).toInt = v1.toInt from rfl) (by omega); have z2 := tn_of (show ((v1 + ((1 + 1) + 1)) : Int32).toInt = (v1.toInt + ((1 + 1) + 1)) from e335) (by omega); omega)) (f321.1 (Int32.toNatClampNeg v1) trivial)) (rd_k (fun z => by have z1 := tn_of (show (v1 : Int32).toInt = v1.toInt from rfl) (by omega); have z2 := tn_of (show ((v1 + (1 + 1)) : Int32).toInt = (v1.toInt + (1 + 1)) from e309) (by omega); omega))) (f295.1 (Int32.toNatClampNeg v1) trivial)) (rd_k (fun z => by have z1 := tn_of (show (v1 : Int32).toInt = v1.toInt from rfl) (by omega); have z2 := tn_of (show ((v1 + 1) : Int32).toInt = (v1.toInt + 1) from e283) (by omega); omega))) (f270.1 (Int32.toNatClampNeg v1) trivial))) rfl
            have fl341 : (((uI I315 102 (Int32.toNatClampNeg (v1 + ((1 + 1) + 1))) x314) 102 (Int32.toNatClampNeg v1)) : Int32).toInt = (I 102 (Int32.toNatClampNeg v1)).toInt := e340
            have e342 : (((uI I315 102 (Int32.toNatClampNeg (v1 + ((1 + 1) + 1))) x314) 102 (Int32.toNatClampNeg (v1 + 1))) : Int32).toInt = x263.toInt := Eq.trans (congrArg Int32.toInt (Eq.trans (Eq.trans (Eq.trans (Eq.trans (rd_k (fun z => by have z1 := tn_of (show ((v1 + 1) : Int32).toInt = (v1.toInt + 1) from e283) (by omega); have z2 := tn_of (show ((v1 + ((1 + 1) + 1)) : Int32).toInt = (v1.toInt + ((1 + 1) + 1)) from e335) (by omega); omega)) (f321.1 (Int32.toNatClampNeg (v1 + 1)) trivial)) (rd_k (fun z => by have z1 := tn_of (show ((v1 + 1) : Int32).toInt = (v1.toInt + 1) from e283) (by omega); have z2 := tn_of (show ((v1 + (1 + 1)) : Int32).toInt = (v1.toInt + (1 + 1)) from e309) (by omega); omega))) (f295.1 (Int32.toNatClampNeg (v1 + 1)) trivial)) rd_eq)) rfl
            have fl343 : (((uI I315 102 (Int32.toNatClampNeg (v1 + ((1 + 1) + 1))) x314) 102 (Int32.toNatClampNeg (v1 + 1))) : Int32).toInt = x263.toInt := e342
            have fl344 : (((uI I315 102 (Int32.toNatClampNeg (v1 + ((1 + 1) + 1))) x314) 102 (Int32.toNatClampNeg (v1 + 2))) : Int32).toInt = ((uI I315 102 (Int32.toNatClampNeg (v1 + ((1 + 1) + 1))) x314) 102 (Int32.toNatClampNeg (v1 + 2))).toInt := rfl
            have fl345 : (((uI I315 102 (Int32.toNatClampNeg (v1 + ((1 + 1) + 1))) x314) 102 (Int32.toNatClampNeg (v1 + 3))) : Int32).toInt = ((uI I315 102 (Int32.toNatClampNeg (v1 + ((1 + 1) + 1))) x314) 102 (Int32.toNatClampNeg (v1 + 3))).toInt := rfl
            have fl346 : (((uI I315 102 (Int32.toNatClampNeg (v1 + ((1 + 1) + 1))) x314) 102 (Int32.toNatClampNeg (v1 + 5))) : Int32).toInt = ((uI I315 102 (Int32.toNatClampNeg (v1 + ((1 + 1) + 1))) x314) 102 (Int32.toNatClampNeg (v1 + 5))).toInt := rfl
            have e347 : (((uI I315 102 (Int32.toNatClampNeg (v1 + ((1 + 1) + 1))) x314) 97 12) : Int32).toInt = (I315 97 12).toInt := Eq.trans (congrArg Int32.toInt (rd_ne (by omega))) rfl
            have fl348 : (((uI I315 102 (Int32.toNatClampNeg (v1 + ((1 + 1) + 1))) x314) 97 12) : Int32).toInt = (I315 97 12).toInt := e347
            exact hQ _ _ _ _ hB336 ⟨f337, (PMp.o (PMp.tr (PMp.o (PMp.tr (PMp.o (PMp.tr (PMp.refl I) m272) (by decide)) m297) (by decide)) m323) (by decide)), (fun hz => by have op0 := Or.resolve_left (Hid.o hh269).2.2.2.2 (fun z => by have b := PMp.bad (PMp.o (PMp.tr (PMp.o (PMp.tr (PMp.o (PMp.refl I264) (by decide)) m297) (by decide)) m323) (by decide)) hz; omega); have op1 := Or.resolve_left (Hid.o hh294).2.2.2.2 (fun z => by have b := PMp.bad (PMp.o (PMp.tr (PMp.o (PMp.refl I289) (by decide)) m323) (by decide)) hz; omega); have op2 := Or.resolve_left (Hid.o hh320).2.2.2.2 (fun z => by have b := PMp.bad (PMp.o (PMp.refl I315) (by decide)) hz; omega); unfold RF; omega)⟩
          · exact absurd c339 (by decide)
