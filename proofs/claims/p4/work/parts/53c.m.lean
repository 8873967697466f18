set_option maxHeartbeats 2000000 in
theorem sp_X12_readTest {d : Nat} {Q : Qt} {v1 : Int32} {I : Im} {J : Jm} {R : Rm} (hB0 : Bd I) (hR0 : RI R) (hv1 : 1350 ≤ v1.toInt ∧ v1.toInt ≤ 1611 ∧ (v1.toInt - 1350) % 9 = 0) (hQ : ∀ (x : Int32) (y : Int64) (I2 : Im) (J2 : Jm), Bd I2 → (I2 97 27 = I 97 27 ∧ Fr (pW v1.toInt) I I2 ∧ PMp I I2 ∧ ((I2 97 12).toInt = 0 → ((I2 102 (v1 + 5).toNatClampNeg).toInt = 1 → 1 ≤ (I2 102 (v1 + 1).toNatClampNeg).toInt ∧ (I2 102 (v1 + 1).toNatClampNeg).toInt ≤ 30) ∧ (¬ (I2 102 (v1 + 5).toNatClampNeg).toInt = 1 → 0 ≤ (I2 102 (v1 + 1).toNatClampNeg).toInt ∧ (I2 102 (v1 + 1).toNatClampNeg).toInt < (I 102 0).toInt))) → Q x y I2 J2 R) : AM (d + 6) 234 112 [.ref 97, .int v1] I J R Q := by
  have i_v1 := i32 v1
  refine w_X12_readTest ?_
  refine sp_X12_testWord hB0 hR0 (fun x1 y6 I2 J3 hB4 p5 => ?_)
  have hh7 := Hid.i p5
  clear p5
  have f8 : Fr pT I I2 := (Hid.o hh7).2.2.2.2.1
  have f9 : Fr (pW v1.toInt) I I2 := Fr.tr (Fr.refl _ _) f8 (fun _ _ => trivial)
  have m10 : PMp I I2 := (PMp.keep (Hid.o hh7).1 (Hid.o hh7).2.2.1 (Hid.o hh7).2.2.2.1)
  have i11 := i32 x1
  refine ⟨fun c12 => ?_, fun c12 => ?_⟩
  · skip
    have d13 : ((x1.toInt) : Int) < (0) := ci_lt rfl rfl c12
    refine sp_X12_must hB4 hR0 (fun x14 y19 I15 J16 hB17 p18 => ?_)
    have hh20 := Hid.i p18
    clear p18
    have f21 : Fr pT I2 I15 := (Hid.o hh20).2.1
    have f22 : Fr (pW v1.toInt) I I15 := Fr.tr f9 f21 (fun _ _ => trivial)
    have m23 : PMp I2 I15 := (PMp.mk (Hid.o hh20).2.2.1 (Hid.o hh20).2.2.2.1)
    have q24 : (0 : Int32).toInt = 0 := rfl
    have b25 := Bd.o hB0 (show isO 112 97 12 = true from rfl) (show bnd 12 12 = some _ from rfl)
    have e26 : ((I2 97 12) : Int32).toInt = (I 97 12).toInt := Eq.trans (congrArg Int32.toInt (Hid.o hh7).1) rfl
    have b27 := Bd.o hB0 (show isO 112 97 12 = true from rfl) (show bnd 12 14 = some _ from rfl)
    have e28 : ((I2 97 14) : Int32).toInt = (I 97 14).toInt := Eq.trans (congrArg Int32.toInt (Hid.o hh7).2.2.1) rfl
    have b29 := Bd.o hB0 (show isO 112 97 12 = true from rfl) (show bnd 12 16 = some _ from rfl)
    have e30 : ((I2 97 16) : Int32).toInt = (I 97 16).toInt := Eq.trans (congrArg Int32.toInt (Hid.o hh7).2.2.2.1) rfl
    have b31 := Bd.o hB17 (show isO 112 97 12 = true from rfl) (show bnd 12 12 = some _ from rfl)
    have b32 := Bd.o hB17 (show isO 112 97 12 = true from rfl) (show bnd 12 14 = some _ from rfl)
    have b33 := Bd.o hB17 (show isO 112 97 12 = true from rfl) (show bnd 12 16 = some _ from rfl)
    have e34 : ((v1 + 5) : Int32).toInt = (v1.toInt) + (5) := ti_add rfl rfl (by omega)
    refine ⟨vp_of (a := (v1.toInt + 5)) e34 (by omega) (by omega), ?_⟩
    have hB35 : Bd (uI I15 102 (Int32.toNatClampNeg (v1 + 5)) x1) := Bd.cnew hB17 (show ((v1 + 5) : Int32).toInt = (v1.toInt + 5) from e34) (show (x1 : Int32).toInt = x1.toInt from rfl) (by omega) (by omega) (by omega) 
    have f36 : Fr (pW v1.toInt) I (uI I15 102 (Int32.toNatClampNeg (v1 + 5)) x1) := Fr.w f22 (show ((v1 + 5) : Int32).toInt = (v1.toInt + 5) from e34) (by omega) (fun j hj hp => by unfold pW at hp; omega)
    refine ⟨fun c37 => ?_, fun c37 => ?_⟩
    · skip
      have d38 : ¬ ((x1.toInt) : Int) = (1) := ci_ne rfl rfl c37
      refine sp_X12_readTold hB35 hR0 (by have z : (0 : Int32).toInt = 0 := rfl; omega) (fun x39 y44 I40 J41 hB42 p43 => ?_)
      have hh45 := Hid.i p43
      clear p43
      have f46 : Fr pT (uI I15 102 (Int32.toNatClampNeg (v1 + 5)) x1) I40 := (Hid.o hh45).2.1
      have f47 : Fr (pW v1.toInt) I I40 := Fr.tr f36 f46 (fun _ _ => trivial)
      have m48 : PMp (uI I15 102 (Int32.toNatClampNeg (v1 + 5)) x1) I40 := (PMp.mk (Hid.o hh45).2.2.1.1 (Hid.o hh45).2.2.1.2.1)
      have wr49 := (Hid.o hh45).2.2.1.2.2
      have q50 : (0 : Int32).toInt = 0 := rfl
      have b51 := (Bd.c hB0 (j := 0) (z := 0) rfl).1 (by decide)
      have e52 : (((uI I15 102 (Int32.toNatClampNeg (v1 + 5)) x1) 102 0) : Int32).toInt = (I 102 0).toInt := Eq.trans (congrArg Int32.toInt (Eq.trans (Eq.trans (rd_k (fun z => by have z1 := tn_of (show (0 : Int32).toInt = 0 from rfl) (by omega); have z2 := tn_of (show ((v1 + 5) : Int32).toInt = (v1.toInt + 5) from e34) (by omega); have z0 : (0 : Nat) = (Int32.toNatClampNeg (v1 + 5)) := z; have z4 : Int32.toNatClampNeg 0 = 0 := rfl; omega)) (f21.1 0 trivial)) (f8.1 0 trivial))) rfl
      have e53 : (((uI I15 102 (Int32.toNatClampNeg (v1 + 5)) x1) 97 12) : Int32).toInt = (I15 97 12).toInt := Eq.trans (congrArg Int32.toInt (rd_ne (by first | decide | omega))) rfl
      have e54 : (((uI I15 102 (Int32.toNatClampNeg (v1 + 5)) x1) 97 14) : Int32).toInt = (I15 97 14).toInt := Eq.trans (congrArg Int32.toInt (rd_ne (by first | decide | omega))) rfl
      have e55 : (((uI I15 102 (Int32.toNatClampNeg (v1 + 5)) x1) 97 16) : Int32).toInt = (I15 97 16).toInt := Eq.trans (congrArg Int32.toInt (rd_ne (by first | decide | omega))) rfl
      have b56 := Bd.o hB42 (show isO 112 97 12 = true from rfl) (show bnd 12 12 = some _ from rfl)
      have b57 := Bd.o hB42 (show isO 112 97 12 = true from rfl) (show bnd 12 14 = some _ from rfl)
      have b58 := Bd.o hB42 (show isO 112 97 12 = true from rfl) (show bnd 12 16 = some _ from rfl)
      have i59 := i32 x39
      have e60 : ((v1 + 1) : Int32).toInt = (v1.toInt) + (1) := ti_add rfl rfl (by omega)
      refine ⟨vp_of (a := (v1.toInt + 1)) e60 (by omega) (by omega), ?_⟩
      have hB61 : Bd (uI I40 102 (Int32.toNatClampNeg (v1 + 1)) x39) := Bd.cnew hB42 (show ((v1 + 1) : Int32).toInt = (v1.toInt + 1) from e60) (show (x39 : Int32).toInt = x39.toInt from rfl) (by omega) (by omega) (by omega) 
      have f62 : Fr (pW v1.toInt) I (uI I40 102 (Int32.toNatClampNeg (v1 + 1)) x39) := Fr.w f47 (show ((v1 + 1) : Int32).toInt = (v1.toInt + 1) from e60) (by omega) (fun j hj hp => by unfold pW at hp; omega)
      refine ⟨fun c63 => ?_, fun c63 => ?_⟩
      · skip
        have e64 : (((uI I40 102 (Int32.toNatClampNeg (v1 + 1)) x39) 97 12) : Int32).toInt = (I40 97 12).toInt := Eq.trans (congrArg Int32.toInt (rd_ne (by first | decide | omega))) rfl
        have d65 : ((0) : Int) < ((I40 97 12).toInt) := ci_lt rfl e64 c63
        have td66 : (((uI I15 102 (Int32.toNatClampNeg (v1 + 5)) x1) 102 0)).toInt = (I 102 0).toInt := e52
        have e67 : (((uI I40 102 (Int32.toNatClampNeg (v1 + 1)) x39) 102 (Int32.toNatClampNeg (v1 + 1))) : Int32).toInt = x39.toInt := Eq.trans (congrArg Int32.toInt rd_eq) rfl
        have fl68 : (((uI I40 102 (Int32.toNatClampNeg (v1 + 1)) x39) 102 (Int32.toNatClampNeg (v1 + 1))) : Int32).toInt = x39.toInt := e67
        have e69 : (((uI I40 102 (Int32.toNatClampNeg (v1 + 1)) x39) 102 (Int32.toNatClampNeg (v1 + 5))) : Int32).toInt = x1.toInt := Eq.trans (congrArg Int32.toInt (Eq.trans (Eq.trans (rd_k (fun z => by have z1 := tn_of (show ((v1 + 5) : Int32).toInt = (v1.toInt + 5) from e34) (by omega); have z2 := tn_of (show ((v1 + 1) : Int32).toInt = (v1.toInt + 1) from e60) (by omega); omega)) (f46.1 (Int32.toNatClampNeg (v1 + 5)) trivial)) rd_eq)) rfl
        have fl70 : (((uI I40 102 (Int32.toNatClampNeg (v1 + 1)) x39) 102 (Int32.toNatClampNeg (v1 + 5))) : Int32).toInt = x1.toInt := e69
        have fl71 : (((uI I40 102 (Int32.toNatClampNeg (v1 + 1)) x39) 97 12) : Int32).toInt = (I40 97 12).toInt := e64
        exact hQ _ _ _ _ hB61 ⟨(Eq.trans (Eq.trans (Eq.trans (Eq.trans (rd_ne (by first | decide | omega)) (Hid.o hh45).1) (rd_ne (by first | decide | omega))) (Hid.o hh20).1) (Hid.o hh7).2.1), f62, (PMp.o (PMp.tr (PMp.o (PMp.tr (PMp.tr (PMp.refl I) m10) m23) (show ¬ (97 : Nat) = 102 by decide)) m48) (show ¬ (97 : Nat) = 102 by decide)), (fun hz => by have op0 := (Hid.o hh45).2.2.2 (PMp.bad (PMp.o (PMp.refl I40) (show ¬ (97 : Nat) = 102 by decide)) hz) rfl; omega)⟩
      · skip
        have e72 : (((uI I40 102 (Int32.toNatClampNeg (v1 + 1)) x39) 97 12) : Int32).toInt = (I40 97 12).toInt := Eq.trans (congrArg Int32.toInt (rd_ne (by first | decide | omega))) rfl
        have d73 : (((I40 97 12).toInt) : Int) ≤ (0) := ci_nlt rfl e72 c63
        refine ⟨fun c74 => ?_, fun c74 => ?_⟩
        · skip
          have d75 : ¬ ((x1.toInt) : Int) = (0) := ci_ne rfl rfl c74
          refine ⟨fun c76 => ?_, fun c76 => ?_⟩
          · skip
            have e77 : (((uI I40 102 (Int32.toNatClampNeg (v1 + 1)) x39) 97 14) : Int32).toInt = (I40 97 14).toInt := Eq.trans (congrArg Int32.toInt (rd_ne (by first | decide | omega))) rfl
            have d78 : ¬ (((I40 97 14).toInt) : Int) = (3) := ci_ne e77 rfl c76
            have e79 : ((v1 + 7) : Int32).toInt = (v1.toInt) + (7) := ti_add rfl rfl (by omega)
            refine ⟨vp_of (a := (v1.toInt + 7)) e79 (by omega) (by omega), ?_⟩
            have hB80 : Bd (uI (uI I40 102 (Int32.toNatClampNeg (v1 + 1)) x39) 102 (Int32.toNatClampNeg (v1 + 7)) 0) := Bd.cnew hB61 (show ((v1 + 7) : Int32).toInt = (v1.toInt + 7) from e79) (show (0 : Int32).toInt = 0 from rfl) (by omega) (by omega) (by omega) 
            have f81 : Fr (pW v1.toInt) I (uI (uI I40 102 (Int32.toNatClampNeg (v1 + 1)) x39) 102 (Int32.toNatClampNeg (v1 + 7)) 0) := Fr.w f62 (show ((v1 + 7) : Int32).toInt = (v1.toInt + 7) from e79) (by omega) (fun j hj hp => by unfold pW at hp; omega)
            refine sp_X12_isSign hB80 hR0 (fun x82 y87 I83 J84 hB85 p86 => ?_)
            intro o88
            have hh89 := Hid.i p86
            clear p86
            have f90 : Fr pT (uI (uI I40 102 (Int32.toNatClampNeg (v1 + 1)) x39) 102 (Int32.toNatClampNeg (v1 + 7)) 0) I83 := (Hid.o hh89).2.2.2.2.1
            have f91 : Fr (pW v1.toInt) I I83 := Fr.tr f81 f90 (fun _ _ => trivial)
            have m92 : PMp (uI (uI I40 102 (Int32.toNatClampNeg (v1 + 1)) x39) 102 (Int32.toNatClampNeg (v1 + 7)) 0) I83 := (PMp.keep (Hid.o hh89).1 (Hid.o hh89).2.2.1 (Hid.o hh89).2.2.2.1)
            have q93 : (60 : Int32).toInt = 60 := rfl
            have e94 : (((uI (uI I40 102 (Int32.toNatClampNeg (v1 + 1)) x39) 102 (Int32.toNatClampNeg (v1 + 7)) 0) 97 14) : Int32).toInt = (I40 97 14).toInt := Eq.trans (congrArg Int32.toInt (Eq.trans (rd_ne (by first | decide | omega)) (rd_ne (by first | decide | omega)))) rfl
            have i95 := i32 x82
            refine ⟨fun c96 => ?_, fun c96 => ?_⟩
            · skip
              have d97 : ¬ ((x82.toInt) : Int) = (0) := ci_ne rfl rfl c96
              refine sp_X12_must hB85 hR0 (fun x98 y103 I99 J100 hB101 p102 => ?_)
              have hh104 := Hid.i p102
              clear p102
              have f105 : Fr pT I83 I99 := (Hid.o hh104).2.1
              have f106 : Fr (pW v1.toInt) I I99 := Fr.tr f91 f105 (fun _ _ => trivial)
              have m107 : PMp I83 I99 := (PMp.mk (Hid.o hh104).2.2.1 (Hid.o hh104).2.2.2.1)
              have q108 : (1 : Int32).toInt = 1 := rfl
              have e109 : ((I83 97 12) : Int32).toInt = (I40 97 12).toInt := Eq.trans (congrArg Int32.toInt (Eq.trans (Eq.trans (Hid.o hh89).1 (rd_ne (by first | decide | omega))) (rd_ne (by first | decide | omega)))) rfl
              have e110 : ((I83 97 14) : Int32).toInt = (I40 97 14).toInt := Eq.trans (congrArg Int32.toInt (Eq.trans (Eq.trans (Hid.o hh89).2.2.1 (rd_ne (by first | decide | omega))) (rd_ne (by first | decide | omega)))) rfl
              have e111 : ((I83 97 16) : Int32).toInt = (I40 97 16).toInt := Eq.trans (congrArg Int32.toInt (Eq.trans (Eq.trans (Hid.o hh89).2.2.2.1 (rd_ne (by first | decide | omega))) (rd_ne (by first | decide | omega)))) rfl
              have b112 := Bd.o hB101 (show isO 112 97 12 = true from rfl) (show bnd 12 12 = some _ from rfl)
              have b113 := Bd.o hB101 (show isO 112 97 12 = true from rfl) (show bnd 12 14 = some _ from rfl)
              have b114 := Bd.o hB101 (show isO 112 97 12 = true from rfl) (show bnd 12 16 = some _ from rfl)
              refine sp_X12_count hB101 hR0 (fun x115 y120 I116 J117 hB118 p119 => ?_)
              have hh121 := Hid.i p119
              clear p119
              have f122 : Fr pT I99 I116 := (Hid.o hh121).2.1
              have f123 : Fr (pW v1.toInt) I I116 := Fr.tr f106 f122 (fun _ _ => trivial)
              have m124 : PMp I99 I116 := (PMp.mk (Hid.o hh121).2.2.1 (Hid.o hh121).2.2.2.1)
              have wr125 := Or.imp (fun z => z.2) (fun z => And.intro z.1 z.2.1) (Hid.o hh121).2.2.2.2
              have q126 : (0 : Int32).toInt = 0 := rfl
              have q127 : (99 : Int32).toInt = 99 := rfl
              have b128 := Bd.o hB118 (show isO 112 97 12 = true from rfl) (show bnd 12 12 = some _ from rfl)
              have b129 := Bd.o hB118 (show isO 112 97 12 = true from rfl) (show bnd 12 14 = some _ from rfl)
              have b130 := Bd.o hB118 (show isO 112 97 12 = true from rfl) (show bnd 12 16 = some _ from rfl)
              have i131 := i32 x115
              have e132 : ((v1 + 6) : Int32).toInt = (v1.toInt) + (6) := ti_add rfl rfl (by omega)
              refine ⟨vp_of (a := (v1.toInt + 6)) e132 (by omega) (by omega), ?_⟩
              have hB133 : Bd (uI I116 102 (Int32.toNatClampNeg (v1 + 6)) x115) := Bd.cnew hB118 (show ((v1 + 6) : Int32).toInt = (v1.toInt + 6) from e132) (show (x115 : Int32).toInt = x115.toInt from rfl) (by omega) (by omega) (by omega) 
              have f134 : Fr (pW v1.toInt) I (uI I116 102 (Int32.toNatClampNeg (v1 + 6)) x115) := Fr.w f123 (show ((v1 + 6) : Int32).toInt = (v1.toInt + 6) from e132) (by omega) (fun j hj hp => by unfold pW at hp; omega)
              have td135 : (((uI I15 102 (Int32.toNatClampNeg (v1 + 5)) x1) 102 0)).toInt = (I 102 0).toInt := e52
              have e136 : (((uI I116 102 (Int32.toNatClampNeg (v1 + 6)) x115) 102 (Int32.toNatClampNeg (v1 + 1))) : Int32).toInt = x39.toInt := Eq.trans (congrArg Int32.toInt (Eq.trans (Eq.trans (Eq.trans (Eq.trans (Eq.trans (rd_k (fun z => by have z1 := tn_of (show ((v1 + 1) : Int32).toInt = (v1.toInt + 1) from e60) (by omega); have z2 := tn_of (show ((v1 + 6) : Int32).toInt = (v1.toInt + 6) from e132) (by omega); omega)) (f122.1 (Int32.toNatClampNeg (v1 + 1)) trivial)) (f105.1 (Int32.toNatClampNeg (v1 + 1)) trivial)) (f90.1 (Int32.toNatClampNeg (v1 + 1)) trivial)) (rd_k (fun z => by have z1 := tn_of (show ((v1 + 1) : Int32).toInt = (v1.toInt + 1) from e60) (by omega); have z2 := tn_of (show ((v1 + 7) : Int32).toInt = (v1.toInt + 7) from e79) (by omega); omega))) rd_eq)) rfl
              have fl137 : (((uI I116 102 (Int32.toNatClampNeg (v1 + 6)) x115) 102 (Int32.toNatClampNeg (v1 + 1))) : Int32).toInt = x39.toInt := e136
              have e138 : (((uI I116 102 (Int32.toNatClampNeg (v1 + 6)) x115) 102 (Int32.toNatClampNeg (v1 + 5))) : Int32).toInt = x1.toInt := Eq.trans (congrArg Int32.toInt (Eq.trans (Eq.trans (Eq.trans (Eq.trans (Eq.trans (Eq.trans (Eq.trans (rd_k (fun z => by have z1 := tn_of (show ((v1 + 5) : Int32).toInt = (v1.toInt + 5) from e34) (by omega); have z2 := tn_of (show ((v1 + 6) : Int32).toInt = (v1.toInt + 6) from e132) (by omega); omega)) (f122.1 (Int32.toNatClampNeg (v1 + 5)) trivial)) (f105.1 (Int32.toNatClampNeg (v1 + 5)) trivial)) (f90.1 (Int32.toNatClampNeg (v1 + 5)) trivial)) (rd_k (fun z => by have z1 := tn_of (show ((v1 + 5) : Int32).toInt = (v1.toInt + 5) from e34) (by omega); have z2 := tn_of (show ((v1 + 7) : Int32).toInt = (v1.toInt + 7) from e79) (by omega); omega))) (rd_k (fun z => by have z1 := tn_of (show ((v1 + 5) : Int32).toInt = (v1.toInt + 5) from e34) (by omega); have z2 := tn_of (show ((v1 + 1) : Int32).toInt = (v1.toInt + 1) from e60) (by omega); omega))) (f46.1 (Int32.toNatClampNeg (v1 + 5)) trivial)) rd_eq)) rfl
              have fl139 : (((uI I116 102 (Int32.toNatClampNeg (v1 + 6)) x115) 102 (Int32.toNatClampNeg (v1 + 5))) : Int32).toInt = x1.toInt := e138
              have e140 : (((uI I116 102 (Int32.toNatClampNeg (v1 + 6)) x115) 97 12) : Int32).toInt = (I116 97 12).toInt := Eq.trans (congrArg Int32.toInt (rd_ne (by first | decide | omega))) rfl
              have fl141 : (((uI I116 102 (Int32.toNatClampNeg (v1 + 6)) x115) 97 12) : Int32).toInt = (I116 97 12).toInt := e140
              exact hQ _ _ _ _ hB133 ⟨(Eq.trans (Eq.trans (Eq.trans (Eq.trans (Eq.trans (Eq.trans (Eq.trans (Eq.trans (Eq.trans (rd_ne (by first | decide | omega)) (Hid.o hh121).1) (Hid.o hh104).1) (Hid.o hh89).2.1) (rd_ne (by first | decide | omega))) (rd_ne (by first | decide | omega))) (Hid.o hh45).1) (rd_ne (by first | decide | omega))) (Hid.o hh20).1) (Hid.o hh7).2.1), f134, (PMp.o (PMp.tr (PMp.tr (PMp.tr (PMp.o (PMp.o (PMp.tr (PMp.o (PMp.tr (PMp.tr (PMp.refl I) m10) m23) (show ¬ (97 : Nat) = 102 by decide)) m48) (show ¬ (97 : Nat) = 102 by decide)) (show ¬ (97 : Nat) = 102 by decide)) m92) m107) m124) (show ¬ (97 : Nat) = 102 by decide)), (fun hz => by have op0 := (Hid.o hh45).2.2.2 (PMp.bad (PMp.o (PMp.tr (PMp.tr (PMp.tr (PMp.o (PMp.o (PMp.refl I40) (show ¬ (97 : Nat) = 102 by decide)) (show ¬ (97 : Nat) = 102 by decide)) m92) m107) m124) (show ¬ (97 : Nat) = 102 by decide)) hz) rfl; have op1 := Or.resolve_left (Hid.o hh121).2.2.2.2 (fun z => by have b := PMp.bad (PMp.o (PMp.refl I116) (show ¬ (97 : Nat) = 102 by decide)) hz; omega); omega)⟩
            · skip
              have d142 : ((x82.toInt) : Int) = (0) := ci_eq rfl rfl c96
              refine sp_X12_isSign hB85 hR0 (fun x143 y148 I144 J145 hB146 p147 => ?_)
              intro o149
              have hh150 := Hid.i p147
              clear p147
              have f151 : Fr pT I83 I144 := (Hid.o hh150).2.2.2.2.1
              have f152 : Fr (pW v1.toInt) I I144 := Fr.tr f91 f151 (fun _ _ => trivial)
              have m153 : PMp I83 I144 := (PMp.keep (Hid.o hh150).1 (Hid.o hh150).2.2.1 (Hid.o hh150).2.2.2.1)
              have q154 : (62 : Int32).toInt = 62 := rfl
              have e155 : ((I83 97 14) : Int32).toInt = (I40 97 14).toInt := Eq.trans (congrArg Int32.toInt (Eq.trans (Eq.trans (Hid.o hh89).2.2.1 (rd_ne (by first | decide | omega))) (rd_ne (by first | decide | omega)))) rfl
              have i156 := i32 x143
              refine ⟨fun c157 => ?_, fun c157 => ?_⟩
              · skip
                have d158 : ¬ ((x143.toInt) : Int) = (0) := ci_ne rfl rfl c157
                refine sp_X12_must hB146 hR0 (fun x159 y164 I160 J161 hB162 p163 => ?_)
                have hh165 := Hid.i p163
                clear p163
                have f166 : Fr pT I144 I160 := (Hid.o hh165).2.1
                have f167 : Fr (pW v1.toInt) I I160 := Fr.tr f152 f166 (fun _ _ => trivial)
                have m168 : PMp I144 I160 := (PMp.mk (Hid.o hh165).2.2.1 (Hid.o hh165).2.2.2.1)
                have q169 : (1 : Int32).toInt = 1 := rfl
                have e170 : ((I144 97 12) : Int32).toInt = (I40 97 12).toInt := Eq.trans (congrArg Int32.toInt (Eq.trans (Eq.trans (Eq.trans (Hid.o hh150).1 (Hid.o hh89).1) (rd_ne (by first | decide | omega))) (rd_ne (by first | decide | omega)))) rfl
                have e171 : ((I144 97 14) : Int32).toInt = (I40 97 14).toInt := Eq.trans (congrArg Int32.toInt (Eq.trans (Eq.trans (Eq.trans (Hid.o hh150).2.2.1 (Hid.o hh89).2.2.1) (rd_ne (by first | decide | omega))) (rd_ne (by first | decide | omega)))) rfl
                have e172 : ((I144 97 16) : Int32).toInt = (I40 97 16).toInt := Eq.trans (congrArg Int32.toInt (Eq.trans (Eq.trans (Eq.trans (Hid.o hh150).2.2.2.1 (Hid.o hh89).2.2.2.1) (rd_ne (by first | decide | omega))) (rd_ne (by first | decide | omega)))) rfl
                have b173 := Bd.o hB162 (show isO 112 97 12 = true from rfl) (show bnd 12 12 = some _ from rfl)
                have b174 := Bd.o hB162 (show isO 112 97 12 = true from rfl) (show bnd 12 14 = some _ from rfl)
                have b175 := Bd.o hB162 (show isO 112 97 12 = true from rfl) (show bnd 12 16 = some _ from rfl)
                refine sp_X12_count hB162 hR0 (fun x176 y181 I177 J178 hB179 p180 => ?_)
                have hh182 := Hid.i p180
                clear p180
                have f183 : Fr pT I160 I177 := (Hid.o hh182).2.1
                have f184 : Fr (pW v1.toInt) I I177 := Fr.tr f167 f183 (fun _ _ => trivial)
                have m185 : PMp I160 I177 := (PMp.mk (Hid.o hh182).2.2.1 (Hid.o hh182).2.2.2.1)
                have wr186 := Or.imp (fun z => z.2) (fun z => And.intro z.1 z.2.1) (Hid.o hh182).2.2.2.2
                have q187 : (0 : Int32).toInt = 0 := rfl
                have q188 : (99 : Int32).toInt = 99 := rfl
                have b189 := Bd.o hB179 (show isO 112 97 12 = true from rfl) (show bnd 12 12 = some _ from rfl)
                have b190 := Bd.o hB179 (show isO 112 97 12 = true from rfl) (show bnd 12 14 = some _ from rfl)
                have b191 := Bd.o hB179 (show isO 112 97 12 = true from rfl) (show bnd 12 16 = some _ from rfl)
                have i192 := i32 x176
                have e193 : ((v1 + 6) : Int32).toInt = (v1.toInt) + (6) := ti_add rfl rfl (by omega)
                refine ⟨vp_of (a := (v1.toInt + 6)) e193 (by omega) (by omega), ?_⟩
                have hB194 : Bd (uI I177 102 (Int32.toNatClampNeg (v1 + 6)) x176) := Bd.cnew hB179 (show ((v1 + 6) : Int32).toInt = (v1.toInt + 6) from e193) (show (x176 : Int32).toInt = x176.toInt from rfl) (by omega) (by omega) (by omega) 
                have f195 : Fr (pW v1.toInt) I (uI I177 102 (Int32.toNatClampNeg (v1 + 6)) x176) := Fr.w f184 (show ((v1 + 6) : Int32).toInt = (v1.toInt + 6) from e193) (by omega) (fun j hj hp => by unfold pW at hp; omega)
                have td196 : (((uI I15 102 (Int32.toNatClampNeg (v1 + 5)) x1) 102 0)).toInt = (I 102 0).toInt := e52
                have e197 : (((uI I177 102 (Int32.toNatClampNeg (v1 + 6)) x176) 102 (Int32.toNatClampNeg (v1 + 1))) : Int32).toInt = x39.toInt := Eq.trans (congrArg Int32.toInt (Eq.trans (Eq.trans (Eq.trans (Eq.trans (Eq.trans (Eq.trans (rd_k (fun z => by have z1 := tn_of (show ((v1 + 1) : Int32).toInt = (v1.toInt + 1) from e60) (by omega); have z2 := tn_of (show ((v1 + 6) : Int32).toInt = (v1.toInt + 6) from e193) (by omega); omega)) (f183.1 (Int32.toNatClampNeg (v1 + 1)) trivial)) (f166.1 (Int32.toNatClampNeg (v1 + 1)) trivial)) (f151.1 (Int32.toNatClampNeg (v1 + 1)) trivial)) (f90.1 (Int32.toNatClampNeg (v1 + 1)) trivial)) (rd_k (fun z => by have z1 := tn_of (show ((v1 + 1) : Int32).toInt = (v1.toInt + 1) from e60) (by omega); have z2 := tn_of (show ((v1 + 7) : Int32).toInt = (v1.toInt + 7) from e79) (by omega); omega))) rd_eq)) rfl
                have fl198 : (((uI I177 102 (Int32.toNatClampNeg (v1 + 6)) x176) 102 (Int32.toNatClampNeg (v1 + 1))) : Int32).toInt = x39.toInt := e197
                have e199 : (((uI I177 102 (Int32.toNatClampNeg (v1 + 6)) x176) 102 (Int32.toNatClampNeg (v1 + 5))) : Int32).toInt = x1.toInt := Eq.trans (congrArg Int32.toInt (Eq.trans (Eq.trans (Eq.trans (Eq.trans (Eq.trans (Eq.trans (Eq.trans (Eq.trans (rd_k (fun z => by have z1 := tn_of (show ((v1 + 5) : Int32).toInt = (v1.toInt + 5) from e34) (by omega); have z2 := tn_of (show ((v1 + 6) : Int32).toInt = (v1.toInt + 6) from e193) (by omega); omega)) (f183.1 (Int32.toNatClampNeg (v1 + 5)) trivial)) (f166.1 (Int32.toNatClampNeg (v1 + 5)) trivial)) (f151.1 (Int32.toNatClampNeg (v1 + 5)) trivial)) (f90.1 (Int32.toNatClampNeg (v1 + 5)) trivial)) (rd_k (fun z => by have z1 := tn_of (show ((v1 + 5) : Int32).toInt = (v1.toInt + 5) from e34) (by omega); have z2 := tn_of (show ((v1 + 7) : Int32).toInt = (v1.toInt + 7) from e79) (by omega); omega))) (rd_k (fun z => by have z1 := tn_of (show ((v1 + 5) : Int32).toInt = (v1.toInt + 5) from e34) (by omega); have z2 := tn_of (show ((v1 + 1) : Int32).toInt = (v1.toInt + 1) from e60) (by omega); omega))) (f46.1 (Int32.toNatClampNeg (v1 + 5)) trivial)) rd_eq)) rfl
                have fl200 : (((uI I177 102 (Int32.toNatClampNeg (v1 + 6)) x176) 102 (Int32.toNatClampNeg (v1 + 5))) : Int32).toInt = x1.toInt := e199
                have e201 : (((uI I177 102 (Int32.toNatClampNeg (v1 + 6)) x176) 97 12) : Int32).toInt = (I177 97 12).toInt := Eq.trans (congrArg Int32.toInt (rd_ne (by first | decide | omega))) rfl
                have fl202 : (((uI I177 102 (Int32.toNatClampNeg (v1 + 6)) x176) 97 12) : Int32).toInt = (I177 97 12).toInt := e201
                exact hQ _ _ _ _ hB194 ⟨(Eq.trans (Eq.trans (Eq.trans (Eq.trans (Eq.trans (Eq.trans (Eq.trans (Eq.trans (Eq.trans (Eq.trans (rd_ne (by first | decide | omega)) (Hid.o hh182).1) (Hid.o hh165).1) (Hid.o hh150).2.1) (Hid.o hh89).2.1) (rd_ne (by first | decide | omega))) (rd_ne (by first | decide | omega))) (Hid.o hh45).1) (rd_ne (by first | decide | omega))) (Hid.o hh20).1) (Hid.o hh7).2.1), f195, (PMp.o (PMp.tr (PMp.tr (PMp.tr (PMp.tr (PMp.o (PMp.o (PMp.tr (PMp.o (PMp.tr (PMp.tr (PMp.refl I) m10) m23) (show ¬ (97 : Nat) = 102 by decide)) m48) (show ¬ (97 : Nat) = 102 by decide)) (show ¬ (97 : Nat) = 102 by decide)) m92) m153) m168) m185) (show ¬ (97 : Nat) = 102 by decide)), (fun hz => by have op0 := (Hid.o hh45).2.2.2 (PMp.bad (PMp.o (PMp.tr (PMp.tr (PMp.tr (PMp.tr (PMp.o (PMp.o (PMp.refl I40) (show ¬ (97 : Nat) = 102 by decide)) (show ¬ (97 : Nat) = 102 by decide)) m92) m153) m168) m185) (show ¬ (97 : Nat) = 102 by decide)) hz) rfl; have op1 := Or.resolve_left (Hid.o hh182).2.2.2.2 (fun z => by have b := PMp.bad (PMp.o (PMp.refl I177) (show ¬ (97 : Nat) = 102 by decide)) hz; omega); omega)⟩
              · skip
                have d203 : ((x143.toInt) : Int) = (0) := ci_eq rfl rfl c157
                refine sp_X12_isSign hB146 hR0 (fun x204 y209 I205 J206 hB207 p208 => ?_)
                intro o210
                have hh211 := Hid.i p208
                clear p208
                have f212 : Fr pT I144 I205 := (Hid.o hh211).2.2.2.2.1
                have f213 : Fr (pW v1.toInt) I I205 := Fr.tr f152 f212 (fun _ _ => trivial)
                have m214 : PMp I144 I205 := (PMp.keep (Hid.o hh211).1 (Hid.o hh211).2.2.1 (Hid.o hh211).2.2.2.1)
                have q215 : (61 : Int32).toInt = 61 := rfl
                have e216 : ((I144 97 14) : Int32).toInt = (I40 97 14).toInt := Eq.trans (congrArg Int32.toInt (Eq.trans (Eq.trans (Eq.trans (Hid.o hh150).2.2.1 (Hid.o hh89).2.2.1) (rd_ne (by first | decide | omega))) (rd_ne (by first | decide | omega)))) rfl
                have i217 := i32 x204
                refine ⟨fun c218 => ?_, fun c218 => ?_⟩
                · skip
                  have d219 : ((x204.toInt) : Int) = (0) := ci_eq rfl rfl c218
                  refine sp_X12_must hB207 hR0 (fun x220 y225 I221 J222 hB223 p224 => ?_)
                  have hh226 := Hid.i p224
                  clear p224
                  have f227 : Fr pT I205 I221 := (Hid.o hh226).2.1
                  have f228 : Fr (pW v1.toInt) I I221 := Fr.tr f213 f227 (fun _ _ => trivial)
                  have m229 : PMp I205 I221 := (PMp.mk (Hid.o hh226).2.2.1 (Hid.o hh226).2.2.2.1)
                  have q230 : (0 : Int32).toInt = 0 := rfl
                  have e231 : ((I205 97 12) : Int32).toInt = (I40 97 12).toInt := Eq.trans (congrArg Int32.toInt (Eq.trans (Eq.trans (Eq.trans (Eq.trans (Hid.o hh211).1 (Hid.o hh150).1) (Hid.o hh89).1) (rd_ne (by first | decide | omega))) (rd_ne (by first | decide | omega)))) rfl
                  have e232 : ((I205 97 14) : Int32).toInt = (I40 97 14).toInt := Eq.trans (congrArg Int32.toInt (Eq.trans (Eq.trans (Eq.trans (Eq.trans (Hid.o hh211).2.2.1 (Hid.o hh150).2.2.1) (Hid.o hh89).2.2.1) (rd_ne (by first | decide | omega))) (rd_ne (by first | decide | omega)))) rfl
                  have e233 : ((I205 97 16) : Int32).toInt = (I40 97 16).toInt := Eq.trans (congrArg Int32.toInt (Eq.trans (Eq.trans (Eq.trans (Eq.trans (Hid.o hh211).2.2.2.1 (Hid.o hh150).2.2.2.1) (Hid.o hh89).2.2.2.1) (rd_ne (by first | decide | omega))) (rd_ne (by first | decide | omega)))) rfl
                  have b234 := Bd.o hB223 (show isO 112 97 12 = true from rfl) (show bnd 12 12 = some _ from rfl)
                  have b235 := Bd.o hB223 (show isO 112 97 12 = true from rfl) (show bnd 12 14 = some _ from rfl)
                  have b236 := Bd.o hB223 (show isO 112 97 12 = true from rfl) (show bnd 12 16 = some _ from rfl)
                  refine sp_X12_count hB223 hR0 (fun x237 y242 I238 J239 hB240 p241 => ?_)
                  have hh243 := Hid.i p241
                  clear p241
                  have f244 : Fr pT I221 I238 := (Hid.o hh243).2.1
                  have f245 : Fr (pW v1.toInt) I I238 := Fr.tr f228 f244 (fun _ _ => trivial)
                  have m246 : PMp I221 I238 := (PMp.mk (Hid.o hh243).2.2.1 (Hid.o hh243).2.2.2.1)
                  have wr247 := Or.imp (fun z => z.2) (fun z => And.intro z.1 z.2.1) (Hid.o hh243).2.2.2.2
                  have q248 : (0 : Int32).toInt = 0 := rfl
                  have q249 : (99 : Int32).toInt = 99 := rfl
                  have b250 := Bd.o hB240 (show isO 112 97 12 = true from rfl) (show bnd 12 12 = some _ from rfl)
                  have b251 := Bd.o hB240 (show isO 112 97 12 = true from rfl) (show bnd 12 14 = some _ from rfl)
                  have b252 := Bd.o hB240 (show isO 112 97 12 = true from rfl) (show bnd 12 16 = some _ from rfl)
                  have i253 := i32 x237
                  have e254 : ((v1 + 6) : Int32).toInt = (v1.toInt) + (6) := ti_add rfl rfl (by omega)
                  refine ⟨vp_of (a := (v1.toInt + 6)) e254 (by omega) (by omega), ?_⟩
                  have hB255 : Bd (uI I238 102 (Int32.toNatClampNeg (v1 + 6)) x237) := Bd.cnew hB240 (show ((v1 + 6) : Int32).toInt = (v1.toInt + 6) from e254) (show (x237 : Int32).toInt = x237.toInt from rfl) (by omega) (by omega) (by omega) 
                  have f256 : Fr (pW v1.toInt) I (uI I238 102 (Int32.toNatClampNeg (v1 + 6)) x237) := Fr.w f245 (show ((v1 + 6) : Int32).toInt = (v1.toInt + 6) from e254) (by omega) (fun j hj hp => by unfold pW at hp; omega)
                  have td257 : (((uI I15 102 (Int32.toNatClampNeg (v1 + 5)) x1) 102 0)).toInt = (I 102 0).toInt := e52
                  have e258 : (((uI I238 102 (Int32.toNatClampNeg (v1 + 6)) x237) 102 (Int32.toNatClampNeg (v1 + 1))) : Int32).toInt = x39.toInt := Eq.trans (congrArg Int32.toInt (Eq.trans (Eq.trans (Eq.trans (Eq.trans (Eq.trans (Eq.trans (Eq.trans (rd_k (fun z => by have z1 := tn_of (show ((v1 + 1) : Int32).toInt = (v1.toInt + 1) from e60) (by omega); have z2 := tn_of (show ((v1 + 6) : Int32).toInt = (v1.toInt + 6) from e254) (by omega); omega)) (f244.1 (Int32.toNatClampNeg (v1 + 1)) trivial)) (f227.1 (Int32.toNatClampNeg (v1 + 1)) trivial)) (f212.1 (Int32.toNatClampNeg (v1 + 1)) trivial)) (f151.1 (Int32.toNatClampNeg (v1 + 1)) trivial)) (f90.1 (Int32.toNatClampNeg (v1 + 1)) trivial)) (rd_k (fun z => by have z1 := tn_of (show ((v1 + 1) : Int32).toInt = (v1.toInt + 1) from e60) (by omega); have z2 := tn_of (show ((v1 + 7) : Int32).toInt = (v1.toInt + 7) from e79) (by omega); omega))) rd_eq)) rfl
                  have fl259 : (((uI I238 102 (Int32.toNatClampNeg (v1 + 6)) x237) 102 (Int32.toNatClampNeg (v1 + 1))) : Int32).toInt = x39.toInt := e258
                  have e260 : (((uI I238 102 (Int32.toNatClampNeg (v1 + 6)) x237) 102 (Int32.toNatClampNeg (v1 + 5))) : Int32).toInt = x1.toInt := Eq.trans (congrArg Int32.toInt (Eq.trans (Eq.trans (Eq.trans (Eq.trans (Eq.trans (Eq.trans (Eq.trans (Eq.trans (Eq.trans (rd_k (fun z => by have z1 := tn_of (show ((v1 + 5) : Int32).toInt = (v1.toInt + 5) from e34) (by omega); have z2 := tn_of (show ((v1 + 6) : Int32).toInt = (v1.toInt + 6) from e254) (by omega); omega)) (f244.1 (Int32.toNatClampNeg (v1 + 5)) trivial)) (f227.1 (Int32.toNatClampNeg (v1 + 5)) trivial)) (f212.1 (Int32.toNatClampNeg (v1 + 5)) trivial)) (f151.1 (Int32.toNatClampNeg (v1 + 5)) trivial)) (f90.1 (Int32.toNatClampNeg (v1 + 5)) trivial)) (rd_k (fun z => by have z1 := tn_of (show ((v1 + 5) : Int32).toInt = (v1.toInt + 5) from e34) (by omega); have z2 := tn_of (show ((v1 + 7) : Int32).toInt = (v1.toInt + 7) from e79) (by omega); omega))) (rd_k (fun z => by have z1 := tn_of (show ((v1 + 5) : Int32).toInt = (v1.toInt + 5) from e34) (by omega); have z2 := tn_of (show ((v1 + 1) : Int32).toInt = (v1.toInt + 1) from e60) (by omega); omega))) (f46.1 (Int32.toNatClampNeg (v1 + 5)) trivial)) rd_eq)) rfl
                  have fl261 : (((uI I238 102 (Int32.toNatClampNeg (v1 + 6)) x237) 102 (Int32.toNatClampNeg (v1 + 5))) : Int32).toInt = x1.toInt := e260
                  have e262 : (((uI I238 102 (Int32.toNatClampNeg (v1 + 6)) x237) 97 12) : Int32).toInt = (I238 97 12).toInt := Eq.trans (congrArg Int32.toInt (rd_ne (by first | decide | omega))) rfl
                  have fl263 : (((uI I238 102 (Int32.toNatClampNeg (v1 + 6)) x237) 97 12) : Int32).toInt = (I238 97 12).toInt := e262
                  exact hQ _ _ _ _ hB255 ⟨(Eq.trans (Eq.trans (Eq.trans (Eq.trans (Eq.trans (Eq.trans (Eq.trans (Eq.trans (Eq.trans (Eq.trans (Eq.trans (rd_ne (by first | decide | omega)) (Hid.o hh243).1) (Hid.o hh226).1) (Hid.o hh211).2.1) (Hid.o hh150).2.1) (Hid.o hh89).2.1) (rd_ne (by first | decide | omega))) (rd_ne (by first | decide | omega))) (Hid.o hh45).1) (rd_ne (by first | decide | omega))) (Hid.o hh20).1) (Hid.o hh7).2.1), f256, (PMp.o (PMp.tr (PMp.tr (PMp.tr (PMp.tr (PMp.tr (PMp.o (PMp.o (PMp.tr (PMp.o (PMp.tr (PMp.tr (PMp.refl I) m10) m23) (show ¬ (97 : Nat) = 102 by decide)) m48) (show ¬ (97 : Nat) = 102 by decide)) (show ¬ (97 : Nat) = 102 by decide)) m92) m153) m214) m229) m246) (show ¬ (97 : Nat) = 102 by decide)), (fun hz => by have op0 := (Hid.o hh45).2.2.2 (PMp.bad (PMp.o (PMp.tr (PMp.tr (PMp.tr (PMp.tr (PMp.tr (PMp.o (PMp.o (PMp.refl I40) (show ¬ (97 : Nat) = 102 by decide)) (show ¬ (97 : Nat) = 102 by decide)) m92) m153) m214) m229) m246) (show ¬ (97 : Nat) = 102 by decide)) hz) rfl; have op1 := Or.resolve_left (Hid.o hh243).2.2.2.2 (fun z => by have b := PMp.bad (PMp.o (PMp.refl I238) (show ¬ (97 : Nat) = 102 by decide)) hz; omega); omega)⟩
                · skip
                  have d264 : ¬ ((x204.toInt) : Int) = (0) := ci_ne rfl rfl c218
                  refine sp_X12_must hB207 hR0 (fun x265 y270 I266 J267 hB268 p269 => ?_)
                  have hh271 := Hid.i p269
                  clear p269
                  have f272 : Fr pT I205 I266 := (Hid.o hh271).2.1
                  have f273 : Fr (pW v1.toInt) I I266 := Fr.tr f213 f272 (fun _ _ => trivial)
                  have m274 : PMp I205 I266 := (PMp.mk (Hid.o hh271).2.2.1 (Hid.o hh271).2.2.2.1)
                  have q275 : (1 : Int32).toInt = 1 := rfl
                  have e276 : ((I205 97 12) : Int32).toInt = (I40 97 12).toInt := Eq.trans (congrArg Int32.toInt (Eq.trans (Eq.trans (Eq.trans (Eq.trans (Hid.o hh211).1 (Hid.o hh150).1) (Hid.o hh89).1) (rd_ne (by first | decide | omega))) (rd_ne (by first | decide | omega)))) rfl
                  have e277 : ((I205 97 14) : Int32).toInt = (I40 97 14).toInt := Eq.trans (congrArg Int32.toInt (Eq.trans (Eq.trans (Eq.trans (Eq.trans (Hid.o hh211).2.2.1 (Hid.o hh150).2.2.1) (Hid.o hh89).2.2.1) (rd_ne (by first | decide | omega))) (rd_ne (by first | decide | omega)))) rfl
                  have e278 : ((I205 97 16) : Int32).toInt = (I40 97 16).toInt := Eq.trans (congrArg Int32.toInt (Eq.trans (Eq.trans (Eq.trans (Eq.trans (Hid.o hh211).2.2.2.1 (Hid.o hh150).2.2.2.1) (Hid.o hh89).2.2.2.1) (rd_ne (by first | decide | omega))) (rd_ne (by first | decide | omega)))) rfl
                  have b279 := Bd.o hB268 (show isO 112 97 12 = true from rfl) (show bnd 12 12 = some _ from rfl)
                  have b280 := Bd.o hB268 (show isO 112 97 12 = true from rfl) (show bnd 12 14 = some _ from rfl)
                  have b281 := Bd.o hB268 (show isO 112 97 12 = true from rfl) (show bnd 12 16 = some _ from rfl)
                  refine sp_X12_count hB268 hR0 (fun x282 y287 I283 J284 hB285 p286 => ?_)
                  have hh288 := Hid.i p286
                  clear p286
                  have f289 : Fr pT I266 I283 := (Hid.o hh288).2.1
                  have f290 : Fr (pW v1.toInt) I I283 := Fr.tr f273 f289 (fun _ _ => trivial)
                  have m291 : PMp I266 I283 := (PMp.mk (Hid.o hh288).2.2.1 (Hid.o hh288).2.2.2.1)
                  have wr292 := Or.imp (fun z => z.2) (fun z => And.intro z.1 z.2.1) (Hid.o hh288).2.2.2.2
                  have q293 : (0 : Int32).toInt = 0 := rfl
                  have q294 : (99 : Int32).toInt = 99 := rfl
                  have b295 := Bd.o hB285 (show isO 112 97 12 = true from rfl) (show bnd 12 12 = some _ from rfl)
                  have b296 := Bd.o hB285 (show isO 112 97 12 = true from rfl) (show bnd 12 14 = some _ from rfl)
                  have b297 := Bd.o hB285 (show isO 112 97 12 = true from rfl) (show bnd 12 16 = some _ from rfl)
                  have i298 := i32 x282
                  have e299 : ((v1 + 6) : Int32).toInt = (v1.toInt) + (6) := ti_add rfl rfl (by omega)
                  refine ⟨vp_of (a := (v1.toInt + 6)) e299 (by omega) (by omega), ?_⟩
                  have hB300 : Bd (uI I283 102 (Int32.toNatClampNeg (v1 + 6)) x282) := Bd.cnew hB285 (show ((v1 + 6) : Int32).toInt = (v1.toInt + 6) from e299) (show (x282 : Int32).toInt = x282.toInt from rfl) (by omega) (by omega) (by omega) 
                  have f301 : Fr (pW v1.toInt) I (uI I283 102 (Int32.toNatClampNeg (v1 + 6)) x282) := Fr.w f290 (show ((v1 + 6) : Int32).toInt = (v1.toInt + 6) from e299) (by omega) (fun j hj hp => by unfold pW at hp; omega)
                  have td302 : (((uI I15 102 (Int32.toNatClampNeg (v1 + 5)) x1) 102 0)).toInt = (I 102 0).toInt := e52
                  have e303 : (((uI I283 102 (Int32.toNatClampNeg (v1 + 6)) x282) 102 (Int32.toNatClampNeg (v1 + 1))) : Int32).toInt = x39.toInt := Eq.trans (congrArg Int32.toInt (Eq.trans (Eq.trans (Eq.trans (Eq.trans (Eq.trans (Eq.trans (Eq.trans (rd_k (fun z => by have z1 := tn_of (show ((v1 + 1) : Int32).toInt = (v1.toInt + 1) from e60) (by omega); have z2 := tn_of (show ((v1 + 6) : Int32).toInt = (v1.toInt + 6) from e299) (by omega); omega)) (f289.1 (Int32.toNatClampNeg (v1 + 1)) trivial)) (f272.1 (Int32.toNatClampNeg (v1 + 1)) trivial)) (f212.1 (Int32.toNatClampNeg (v1 + 1)) trivial)) (f151.1 (Int32.toNatClampNeg (v1 + 1)) trivial)) (f90.1 (Int32.toNatClampNeg (v1 + 1)) trivial)) (rd_k (fun z => by have z1 := tn_of (show ((v1 + 1) : Int32).toInt = (v1.toInt + 1) from e60) (by omega); have z2 := tn_of (show ((v1 + 7) : Int32).toInt = (v1.toInt + 7) from e79) (by omega); omega))) rd_eq)) rfl
                  have fl304 : (((uI I283 102 (Int32.toNatClampNeg (v1 + 6)) x282) 102 (Int32.toNatClampNeg (v1 + 1))) : Int32).toInt = x39.toInt := e303
                  have e305 : (((uI I283 102 (Int32.toNatClampNeg (v1 + 6)) x282) 102 (Int32.toNatClampNeg (v1 + 5))) : Int32).toInt = x1.toInt := Eq.trans (congrArg Int32.toInt (Eq.trans (Eq.trans (Eq.trans (Eq.trans (Eq.trans (Eq.trans (Eq.trans (Eq.trans (Eq.trans (rd_k (fun z => by have z1 := tn_of (show ((v1 + 5) : Int32).toInt = (v1.toInt + 5) from e34) (by omega); have z2 := tn_of (show ((v1 + 6) : Int32).toInt = (v1.toInt + 6) from e299) (by omega); omega)) (f289.1 (Int32.toNatClampNeg (v1 + 5)) trivial)) (f272.1 (Int32.toNatClampNeg (v1 + 5)) trivial)) (f212.1 (Int32.toNatClampNeg (v1 + 5)) trivial)) (f151.1 (Int32.toNatClampNeg (v1 + 5)) trivial)) (f90.1 (Int32.toNatClampNeg (v1 + 5)) trivial)) (rd_k (fun z => by have z1 := tn_of (show ((v1 + 5) : Int32).toInt = (v1.toInt + 5) from e34) (by omega); have z2 := tn_of (show ((v1 + 7) : Int32).toInt = (v1.toInt + 7) from e79) (by omega); omega))) (rd_k (fun z => by have z1 := tn_of (show ((v1 + 5) : Int32).toInt = (v1.toInt + 5) from e34) (by omega); have z2 := tn_of (show ((v1 + 1) : Int32).toInt = (v1.toInt + 1) from e60) (by omega); omega))) (f46.1 (Int32.toNatClampNeg (v1 + 5)) trivial)) rd_eq)) rfl
                  have fl306 : (((uI I283 102 (Int32.toNatClampNeg (v1 + 6)) x282) 102 (Int32.toNatClampNeg (v1 + 5))) : Int32).toInt = x1.toInt := e305
                  have e307 : (((uI I283 102 (Int32.toNatClampNeg (v1 + 6)) x282) 97 12) : Int32).toInt = (I283 97 12).toInt := Eq.trans (congrArg Int32.toInt (rd_ne (by first | decide | omega))) rfl
                  have fl308 : (((uI I283 102 (Int32.toNatClampNeg (v1 + 6)) x282) 97 12) : Int32).toInt = (I283 97 12).toInt := e307
                  exact hQ _ _ _ _ hB300 ⟨(Eq.trans (Eq.trans (Eq.trans (Eq.trans (Eq.trans (Eq.trans (Eq.trans (Eq.trans (Eq.trans (Eq.trans (Eq.trans (rd_ne (by first | decide | omega)) (Hid.o hh288).1) (Hid.o hh271).1) (Hid.o hh211).2.1) (Hid.o hh150).2.1) (Hid.o hh89).2.1) (rd_ne (by first | decide | omega))) (rd_ne (by first | decide | omega))) (Hid.o hh45).1) (rd_ne (by first | decide | omega))) (Hid.o hh20).1) (Hid.o hh7).2.1), f301, (PMp.o (PMp.tr (PMp.tr (PMp.tr (PMp.tr (PMp.tr (PMp.o (PMp.o (PMp.tr (PMp.o (PMp.tr (PMp.tr (PMp.refl I) m10) m23) (show ¬ (97 : Nat) = 102 by decide)) m48) (show ¬ (97 : Nat) = 102 by decide)) (show ¬ (97 : Nat) = 102 by decide)) m92) m153) m214) m274) m291) (show ¬ (97 : Nat) = 102 by decide)), (fun hz => by have op0 := (Hid.o hh45).2.2.2 (PMp.bad (PMp.o (PMp.tr (PMp.tr (PMp.tr (PMp.tr (PMp.tr (PMp.o (PMp.o (PMp.refl I40) (show ¬ (97 : Nat) = 102 by decide)) (show ¬ (97 : Nat) = 102 by decide)) m92) m153) m214) m274) m291) (show ¬ (97 : Nat) = 102 by decide)) hz) rfl; have op1 := Or.resolve_left (Hid.o hh288).2.2.2.2 (fun z => by have b := PMp.bad (PMp.o (PMp.refl I283) (show ¬ (97 : Nat) = 102 by decide)) hz; omega); omega)⟩
          · skip
            have e309 : (((uI I40 102 (Int32.toNatClampNeg (v1 + 1)) x39) 97 14) : Int32).toInt = (I40 97 14).toInt := Eq.trans (congrArg Int32.toInt (rd_ne (by first | decide | omega))) rfl
            have d310 : (((I40 97 14).toInt) : Int) = (3) := ci_eq e309 rfl c76
            have e311 : ((v1 + 7) : Int32).toInt = (v1.toInt) + (7) := ti_add rfl rfl (by omega)
            refine ⟨vp_of (a := (v1.toInt + 7)) e311 (by omega) (by omega), ?_⟩
            have e313 : (((uI I40 102 (Int32.toNatClampNeg (v1 + 1)) x39) 97 17) : Int32).toInt = (I40 97 17).toInt := Eq.trans (congrArg Int32.toInt (rd_ne (by first | decide | omega))) rfl
            have hB312 : Bd (uI (uI I40 102 (Int32.toNatClampNeg (v1 + 1)) x39) 102 (Int32.toNatClampNeg (v1 + 7)) ((uI I40 102 (Int32.toNatClampNeg (v1 + 1)) x39) 97 17)) := Bd.cnew hB61 (show ((v1 + 7) : Int32).toInt = (v1.toInt + 7) from e311) (show (((uI I40 102 (Int32.toNatClampNeg (v1 + 1)) x39) 97 17) : Int32).toInt = (I40 97 17).toInt from e313) (by omega) (by omega) (by omega) 
            have f314 : Fr (pW v1.toInt) I (uI (uI I40 102 (Int32.toNatClampNeg (v1 + 1)) x39) 102 (Int32.toNatClampNeg (v1 + 7)) ((uI I40 102 (Int32.toNatClampNeg (v1 + 1)) x39) 97 17)) := Fr.w f62 (show ((v1 + 7) : Int32).toInt = (v1.toInt + 7) from e311) (by omega) (fun j hj hp => by unfold pW at hp; omega)
            refine sp_X12_isSign hB312 hR0 (fun x315 y320 I316 J317 hB318 p319 => ?_)
            intro o321
            have hh322 := Hid.i p319
            clear p319
            have f323 : Fr pT (uI (uI I40 102 (Int32.toNatClampNeg (v1 + 1)) x39) 102 (Int32.toNatClampNeg (v1 + 7)) ((uI I40 102 (Int32.toNatClampNeg (v1 + 1)) x39) 97 17)) I316 := (Hid.o hh322).2.2.2.2.1
            have f324 : Fr (pW v1.toInt) I I316 := Fr.tr f314 f323 (fun _ _ => trivial)
            have m325 : PMp (uI (uI I40 102 (Int32.toNatClampNeg (v1 + 1)) x39) 102 (Int32.toNatClampNeg (v1 + 7)) ((uI I40 102 (Int32.toNatClampNeg (v1 + 1)) x39) 97 17)) I316 := (PMp.keep (Hid.o hh322).1 (Hid.o hh322).2.2.1 (Hid.o hh322).2.2.2.1)
            have q326 : (60 : Int32).toInt = 60 := rfl
            have e327 : (((uI (uI I40 102 (Int32.toNatClampNeg (v1 + 1)) x39) 102 (Int32.toNatClampNeg (v1 + 7)) ((uI I40 102 (Int32.toNatClampNeg (v1 + 1)) x39) 97 17)) 97 14) : Int32).toInt = (I40 97 14).toInt := Eq.trans (congrArg Int32.toInt (Eq.trans (rd_ne (by first | decide | omega)) (rd_ne (by first | decide | omega)))) rfl
            have i328 := i32 x315
            refine ⟨fun c329 => ?_, fun c329 => ?_⟩
            · skip
              have d330 : ¬ ((x315.toInt) : Int) = (0) := ci_ne rfl rfl c329
              refine sp_X12_must hB318 hR0 (fun x331 y336 I332 J333 hB334 p335 => ?_)
              have hh337 := Hid.i p335
              clear p335
              have f338 : Fr pT I316 I332 := (Hid.o hh337).2.1
              have f339 : Fr (pW v1.toInt) I I332 := Fr.tr f324 f338 (fun _ _ => trivial)
              have m340 : PMp I316 I332 := (PMp.mk (Hid.o hh337).2.2.1 (Hid.o hh337).2.2.2.1)
              have q341 : (1 : Int32).toInt = 1 := rfl
              have e342 : ((I316 97 12) : Int32).toInt = (I40 97 12).toInt := Eq.trans (congrArg Int32.toInt (Eq.trans (Eq.trans (Hid.o hh322).1 (rd_ne (by first | decide | omega))) (rd_ne (by first | decide | omega)))) rfl
              have e343 : ((I316 97 14) : Int32).toInt = (I40 97 14).toInt := Eq.trans (congrArg Int32.toInt (Eq.trans (Eq.trans (Hid.o hh322).2.2.1 (rd_ne (by first | decide | omega))) (rd_ne (by first | decide | omega)))) rfl
              have e344 : ((I316 97 16) : Int32).toInt = (I40 97 16).toInt := Eq.trans (congrArg Int32.toInt (Eq.trans (Eq.trans (Hid.o hh322).2.2.2.1 (rd_ne (by first | decide | omega))) (rd_ne (by first | decide | omega)))) rfl
              have b345 := Bd.o hB334 (show isO 112 97 12 = true from rfl) (show bnd 12 12 = some _ from rfl)
              have b346 := Bd.o hB334 (show isO 112 97 12 = true from rfl) (show bnd 12 14 = some _ from rfl)
              have b347 := Bd.o hB334 (show isO 112 97 12 = true from rfl) (show bnd 12 16 = some _ from rfl)
              refine sp_X12_count hB334 hR0 (fun x348 y353 I349 J350 hB351 p352 => ?_)
              have hh354 := Hid.i p352
              clear p352
              have f355 : Fr pT I332 I349 := (Hid.o hh354).2.1
              have f356 : Fr (pW v1.toInt) I I349 := Fr.tr f339 f355 (fun _ _ => trivial)
              have m357 : PMp I332 I349 := (PMp.mk (Hid.o hh354).2.2.1 (Hid.o hh354).2.2.2.1)
              have wr358 := Or.imp (fun z => z.2) (fun z => And.intro z.1 z.2.1) (Hid.o hh354).2.2.2.2
              have q359 : (0 : Int32).toInt = 0 := rfl
              have q360 : (99 : Int32).toInt = 99 := rfl
              have b361 := Bd.o hB351 (show isO 112 97 12 = true from rfl) (show bnd 12 12 = some _ from rfl)
              have b362 := Bd.o hB351 (show isO 112 97 12 = true from rfl) (show bnd 12 14 = some _ from rfl)
              have b363 := Bd.o hB351 (show isO 112 97 12 = true from rfl) (show bnd 12 16 = some _ from rfl)
              have i364 := i32 x348
              have e365 : ((v1 + 6) : Int32).toInt = (v1.toInt) + (6) := ti_add rfl rfl (by omega)
              refine ⟨vp_of (a := (v1.toInt + 6)) e365 (by omega) (by omega), ?_⟩
              have hB366 : Bd (uI I349 102 (Int32.toNatClampNeg (v1 + 6)) x348) := Bd.cnew hB351 (show ((v1 + 6) : Int32).toInt = (v1.toInt + 6) from e365) (show (x348 : Int32).toInt = x348.toInt from rfl) (by omega) (by omega) (by omega) 
              have f367 : Fr (pW v1.toInt) I (uI I349 102 (Int32.toNatClampNeg (v1 + 6)) x348) := Fr.w f356 (show ((v1 + 6) : Int32).toInt = (v1.toInt + 6) from e365) (by omega) (fun j hj hp => by unfold pW at hp; omega)
              have td368 : (((uI I15 102 (Int32.toNatClampNeg (v1 + 5)) x1) 102 0)).toInt = (I 102 0).toInt := e52
              have e369 : (((uI I349 102 (Int32.toNatClampNeg (v1 + 6)) x348) 102 (Int32.toNatClampNeg (v1 + 1))) : Int32).toInt = x39.toInt := Eq.trans (congrArg Int32.toInt (Eq.trans (Eq.trans (Eq.trans (Eq.trans (Eq.trans (rd_k (fun z => by have z1 := tn_of (show ((v1 + 1) : Int32).toInt = (v1.toInt + 1) from e60) (by omega); have z2 := tn_of (show ((v1 + 6) : Int32).toInt = (v1.toInt + 6) from e365) (by omega); omega)) (f355.1 (Int32.toNatClampNeg (v1 + 1)) trivial)) (f338.1 (Int32.toNatClampNeg (v1 + 1)) trivial)) (f323.1 (Int32.toNatClampNeg (v1 + 1)) trivial)) (rd_k (fun z => by have z1 := tn_of (show ((v1 + 1) : Int32).toInt = (v1.toInt + 1) from e60) (by omega); have z2 := tn_of (show ((v1 + 7) : Int32).toInt = (v1.toInt + 7) from e311) (by omega); omega))) rd_eq)) rfl
              have fl370 : (((uI I349 102 (Int32.toNatClampNeg (v1 + 6)) x348) 102 (Int32.toNatClampNeg (v1 + 1))) : Int32).toInt = x39.toInt := e369
              have e371 : (((uI I349 102 (Int32.toNatClampNeg (v1 + 6)) x348) 102 (Int32.toNatClampNeg (v1 + 5))) : Int32).toInt = x1.toInt := Eq.trans (congrArg Int32.toInt (Eq.trans (Eq.trans (Eq.trans (Eq.trans (Eq.trans (Eq.trans (Eq.trans (rd_k (fun z => by have z1 := tn_of (show ((v1 + 5) : Int32).toInt = (v1.toInt + 5) from e34) (by omega); have z2 := tn_of (show ((v1 + 6) : Int32).toInt = (v1.toInt + 6) from e365) (by omega); omega)) (f355.1 (Int32.toNatClampNeg (v1 + 5)) trivial)) (f338.1 (Int32.toNatClampNeg (v1 + 5)) trivial)) (f323.1 (Int32.toNatClampNeg (v1 + 5)) trivial)) (rd_k (fun z => by have z1 := tn_of (show ((v1 + 5) : Int32).toInt = (v1.toInt + 5) from e34) (by omega); have z2 := tn_of (show ((v1 + 7) : Int32).toInt = (v1.toInt + 7) from e311) (by omega); omega))) (rd_k (fun z => by have z1 := tn_of (show ((v1 + 5) : Int32).toInt = (v1.toInt + 5) from e34) (by omega); have z2 := tn_of (show ((v1 + 1) : Int32).toInt = (v1.toInt + 1) from e60) (by omega); omega))) (f46.1 (Int32.toNatClampNeg (v1 + 5)) trivial)) rd_eq)) rfl
              have fl372 : (((uI I349 102 (Int32.toNatClampNeg (v1 + 6)) x348) 102 (Int32.toNatClampNeg (v1 + 5))) : Int32).toInt = x1.toInt := e371
              have e373 : (((uI I349 102 (Int32.toNatClampNeg (v1 + 6)) x348) 97 12) : Int32).toInt = (I349 97 12).toInt := Eq.trans (congrArg Int32.toInt (rd_ne (by first | decide | omega))) rfl
              have fl374 : (((uI I349 102 (Int32.toNatClampNeg (v1 + 6)) x348) 97 12) : Int32).toInt = (I349 97 12).toInt := e373
              exact hQ _ _ _ _ hB366 ⟨(Eq.trans (Eq.trans (Eq.trans (Eq.trans (Eq.trans (Eq.trans (Eq.trans (Eq.trans (Eq.trans (rd_ne (by first | decide | omega)) (Hid.o hh354).1) (Hid.o hh337).1) (Hid.o hh322).2.1) (rd_ne (by first | decide | omega))) (rd_ne (by first | decide | omega))) (Hid.o hh45).1) (rd_ne (by first | decide | omega))) (Hid.o hh20).1) (Hid.o hh7).2.1), f367, (PMp.o (PMp.tr (PMp.tr (PMp.tr (PMp.o (PMp.o (PMp.tr (PMp.o (PMp.tr (PMp.tr (PMp.refl I) m10) m23) (show ¬ (97 : Nat) = 102 by decide)) m48) (show ¬ (97 : Nat) = 102 by decide)) (show ¬ (97 : Nat) = 102 by decide)) m325) m340) m357) (show ¬ (97 : Nat) = 102 by decide)), (fun hz => by have op0 := (Hid.o hh45).2.2.2 (PMp.bad (PMp.o (PMp.tr (PMp.tr (PMp.tr (PMp.o (PMp.o (PMp.refl I40) (show ¬ (97 : Nat) = 102 by decide)) (show ¬ (97 : Nat) = 102 by decide)) m325) m340) m357) (show ¬ (97 : Nat) = 102 by decide)) hz) rfl; have op1 := Or.resolve_left (Hid.o hh354).2.2.2.2 (fun z => by have b := PMp.bad (PMp.o (PMp.refl I349) (show ¬ (97 : Nat) = 102 by decide)) hz; omega); omega)⟩
            · skip
              have d375 : ((x315.toInt) : Int) = (0) := ci_eq rfl rfl c329
              refine sp_X12_isSign hB318 hR0 (fun x376 y381 I377 J378 hB379 p380 => ?_)
              intro o382
              have hh383 := Hid.i p380
              clear p380
              have f384 : Fr pT I316 I377 := (Hid.o hh383).2.2.2.2.1
              have f385 : Fr (pW v1.toInt) I I377 := Fr.tr f324 f384 (fun _ _ => trivial)
              have m386 : PMp I316 I377 := (PMp.keep (Hid.o hh383).1 (Hid.o hh383).2.2.1 (Hid.o hh383).2.2.2.1)
              have q387 : (62 : Int32).toInt = 62 := rfl
              have e388 : ((I316 97 14) : Int32).toInt = (I40 97 14).toInt := Eq.trans (congrArg Int32.toInt (Eq.trans (Eq.trans (Hid.o hh322).2.2.1 (rd_ne (by first | decide | omega))) (rd_ne (by first | decide | omega)))) rfl
              have i389 := i32 x376
              refine ⟨fun c390 => ?_, fun c390 => ?_⟩
              · skip
                have d391 : ¬ ((x376.toInt) : Int) = (0) := ci_ne rfl rfl c390
                refine sp_X12_must hB379 hR0 (fun x392 y397 I393 J394 hB395 p396 => ?_)
                have hh398 := Hid.i p396
                clear p396
                have f399 : Fr pT I377 I393 := (Hid.o hh398).2.1
                have f400 : Fr (pW v1.toInt) I I393 := Fr.tr f385 f399 (fun _ _ => trivial)
                have m401 : PMp I377 I393 := (PMp.mk (Hid.o hh398).2.2.1 (Hid.o hh398).2.2.2.1)
                have q402 : (1 : Int32).toInt = 1 := rfl
                have e403 : ((I377 97 12) : Int32).toInt = (I40 97 12).toInt := Eq.trans (congrArg Int32.toInt (Eq.trans (Eq.trans (Eq.trans (Hid.o hh383).1 (Hid.o hh322).1) (rd_ne (by first | decide | omega))) (rd_ne (by first | decide | omega)))) rfl
                have e404 : ((I377 97 14) : Int32).toInt = (I40 97 14).toInt := Eq.trans (congrArg Int32.toInt (Eq.trans (Eq.trans (Eq.trans (Hid.o hh383).2.2.1 (Hid.o hh322).2.2.1) (rd_ne (by first | decide | omega))) (rd_ne (by first | decide | omega)))) rfl
                have e405 : ((I377 97 16) : Int32).toInt = (I40 97 16).toInt := Eq.trans (congrArg Int32.toInt (Eq.trans (Eq.trans (Eq.trans (Hid.o hh383).2.2.2.1 (Hid.o hh322).2.2.2.1) (rd_ne (by first | decide | omega))) (rd_ne (by first | decide | omega)))) rfl
                have b406 := Bd.o hB395 (show isO 112 97 12 = true from rfl) (show bnd 12 12 = some _ from rfl)
                have b407 := Bd.o hB395 (show isO 112 97 12 = true from rfl) (show bnd 12 14 = some _ from rfl)
                have b408 := Bd.o hB395 (show isO 112 97 12 = true from rfl) (show bnd 12 16 = some _ from rfl)
                refine sp_X12_count hB395 hR0 (fun x409 y414 I410 J411 hB412 p413 => ?_)
                have hh415 := Hid.i p413
                clear p413
                have f416 : Fr pT I393 I410 := (Hid.o hh415).2.1
                have f417 : Fr (pW v1.toInt) I I410 := Fr.tr f400 f416 (fun _ _ => trivial)
                have m418 : PMp I393 I410 := (PMp.mk (Hid.o hh415).2.2.1 (Hid.o hh415).2.2.2.1)
                have wr419 := Or.imp (fun z => z.2) (fun z => And.intro z.1 z.2.1) (Hid.o hh415).2.2.2.2
                have q420 : (0 : Int32).toInt = 0 := rfl
                have q421 : (99 : Int32).toInt = 99 := rfl
                have b422 := Bd.o hB412 (show isO 112 97 12 = true from rfl) (show bnd 12 12 = some _ from rfl)
                have b423 := Bd.o hB412 (show isO 112 97 12 = true from rfl) (show bnd 12 14 = some _ from rfl)
                have b424 := Bd.o hB412 (show isO 112 97 12 = true from rfl) (show bnd 12 16 = some _ from rfl)
                have i425 := i32 x409
                have e426 : ((v1 + 6) : Int32).toInt = (v1.toInt) + (6) := ti_add rfl rfl (by omega)
                refine ⟨vp_of (a := (v1.toInt + 6)) e426 (by omega) (by omega), ?_⟩
                have hB427 : Bd (uI I410 102 (Int32.toNatClampNeg (v1 + 6)) x409) := Bd.cnew hB412 (show ((v1 + 6) : Int32).toInt = (v1.toInt + 6) from e426) (show (x409 : Int32).toInt = x409.toInt from rfl) (by omega) (by omega) (by omega) 
                have f428 : Fr (pW v1.toInt) I (uI I410 102 (Int32.toNatClampNeg (v1 + 6)) x409) := Fr.w f417 (show ((v1 + 6) : Int32).toInt = (v1.toInt + 6) from e426) (by omega) (fun j hj hp => by unfold pW at hp; omega)
                have td429 : (((uI I15 102 (Int32.toNatClampNeg (v1 + 5)) x1) 102 0)).toInt = (I 102 0).toInt := e52
                have e430 : (((uI I410 102 (Int32.toNatClampNeg (v1 + 6)) x409) 102 (Int32.toNatClampNeg (v1 + 1))) : Int32).toInt = x39.toInt := Eq.trans (congrArg Int32.toInt (Eq.trans (Eq.trans (Eq.trans (Eq.trans (Eq.trans (Eq.trans (rd_k (fun z => by have z1 := tn_of (show ((v1 + 1) : Int32).toInt = (v1.toInt + 1) from e60) (by omega); have z2 := tn_of (show ((v1 + 6) : Int32).toInt = (v1.toInt + 6) from e426) (by omega); omega)) (f416.1 (Int32.toNatClampNeg (v1 + 1)) trivial)) (f399.1 (Int32.toNatClampNeg (v1 + 1)) trivial)) (f384.1 (Int32.toNatClampNeg (v1 + 1)) trivial)) (f323.1 (Int32.toNatClampNeg (v1 + 1)) trivial)) (rd_k (fun z => by have z1 := tn_of (show ((v1 + 1) : Int32).toInt = (v1.toInt + 1) from e60) (by omega); have z2 := tn_of (show ((v1 + 7) : Int32).toInt = (v1.toInt + 7) from e311) (by omega); omega))) rd_eq)) rfl
                have fl431 : (((uI I410 102 (Int32.toNatClampNeg (v1 + 6)) x409) 102 (Int32.toNatClampNeg (v1 + 1))) : Int32).toInt = x39.toInt := e430
                have e432 : (((uI I410 102 (Int32.toNatClampNeg (v1 + 6)) x409) 102 (Int32.toNatClampNeg (v1 + 5))) : Int32).toInt = x1.toInt := Eq.trans (congrArg Int32.toInt (Eq.trans (Eq.trans (Eq.trans (Eq.trans (Eq.trans (Eq.trans (Eq.trans (Eq.trans (rd_k (fun z => by have z1 := tn_of (show ((v1 + 5) : Int32).toInt = (v1.toInt + 5) from e34) (by omega); have z2 := tn_of (show ((v1 + 6) : Int32).toInt = (v1.toInt + 6) from e426) (by omega); omega)) (f416.1 (Int32.toNatClampNeg (v1 + 5)) trivial)) (f399.1 (Int32.toNatClampNeg (v1 + 5)) trivial)) (f384.1 (Int32.toNatClampNeg (v1 + 5)) trivial)) (f323.1 (Int32.toNatClampNeg (v1 + 5)) trivial)) (rd_k (fun z => by have z1 := tn_of (show ((v1 + 5) : Int32).toInt = (v1.toInt + 5) from e34) (by omega); have z2 := tn_of (show ((v1 + 7) : Int32).toInt = (v1.toInt + 7) from e311) (by omega); omega))) (rd_k (fun z => by have z1 := tn_of (show ((v1 + 5) : Int32).toInt = (v1.toInt + 5) from e34) (by omega); have z2 := tn_of (show ((v1 + 1) : Int32).toInt = (v1.toInt + 1) from e60) (by omega); omega))) (f46.1 (Int32.toNatClampNeg (v1 + 5)) trivial)) rd_eq)) rfl
                have fl433 : (((uI I410 102 (Int32.toNatClampNeg (v1 + 6)) x409) 102 (Int32.toNatClampNeg (v1 + 5))) : Int32).toInt = x1.toInt := e432
                have e434 : (((uI I410 102 (Int32.toNatClampNeg (v1 + 6)) x409) 97 12) : Int32).toInt = (I410 97 12).toInt := Eq.trans (congrArg Int32.toInt (rd_ne (by first | decide | omega))) rfl
                have fl435 : (((uI I410 102 (Int32.toNatClampNeg (v1 + 6)) x409) 97 12) : Int32).toInt = (I410 97 12).toInt := e434
                exact hQ _ _ _ _ hB427 ⟨(Eq.trans (Eq.trans (Eq.trans (Eq.trans (Eq.trans (Eq.trans (Eq.trans (Eq.trans (Eq.trans (Eq.trans (rd_ne (by first | decide | omega)) (Hid.o hh415).1) (Hid.o hh398).1) (Hid.o hh383).2.1) (Hid.o hh322).2.1) (rd_ne (by first | decide | omega))) (rd_ne (by first | decide | omega))) (Hid.o hh45).1) (rd_ne (by first | decide | omega))) (Hid.o hh20).1) (Hid.o hh7).2.1), f428, (PMp.o (PMp.tr (PMp.tr (PMp.tr (PMp.tr (PMp.o (PMp.o (PMp.tr (PMp.o (PMp.tr (PMp.tr (PMp.refl I) m10) m23) (show ¬ (97 : Nat) = 102 by decide)) m48) (show ¬ (97 : Nat) = 102 by decide)) (show ¬ (97 : Nat) = 102 by decide)) m325) m386) m401) m418) (show ¬ (97 : Nat) = 102 by decide)), (fun hz => by have op0 := (Hid.o hh45).2.2.2 (PMp.bad (PMp.o (PMp.tr (PMp.tr (PMp.tr (PMp.tr (PMp.o (PMp.o (PMp.refl I40) (show ¬ (97 : Nat) = 102 by decide)) (show ¬ (97 : Nat) = 102 by decide)) m325) m386) m401) m418) (show ¬ (97 : Nat) = 102 by decide)) hz) rfl; have op1 := Or.resolve_left (Hid.o hh415).2.2.2.2 (fun z => by have b := PMp.bad (PMp.o (PMp.refl I410) (show ¬ (97 : Nat) = 102 by decide)) hz; omega); omega)⟩
              · skip
                have d436 : ((x376.toInt) : Int) = (0) := ci_eq rfl rfl c390
                refine sp_X12_isSign hB379 hR0 (fun x437 y442 I438 J439 hB440 p441 => ?_)
                intro o443
                have hh444 := Hid.i p441
                clear p441
                have f445 : Fr pT I377 I438 := (Hid.o hh444).2.2.2.2.1
                have f446 : Fr (pW v1.toInt) I I438 := Fr.tr f385 f445 (fun _ _ => trivial)
                have m447 : PMp I377 I438 := (PMp.keep (Hid.o hh444).1 (Hid.o hh444).2.2.1 (Hid.o hh444).2.2.2.1)
                have q448 : (61 : Int32).toInt = 61 := rfl
                have e449 : ((I377 97 14) : Int32).toInt = (I40 97 14).toInt := Eq.trans (congrArg Int32.toInt (Eq.trans (Eq.trans (Eq.trans (Hid.o hh383).2.2.1 (Hid.o hh322).2.2.1) (rd_ne (by first | decide | omega))) (rd_ne (by first | decide | omega)))) rfl
                have i450 := i32 x437
                refine ⟨fun c451 => ?_, fun c451 => ?_⟩
                · skip
                  have d452 : ((x437.toInt) : Int) = (0) := ci_eq rfl rfl c451
                  refine sp_X12_must hB440 hR0 (fun x453 y458 I454 J455 hB456 p457 => ?_)
                  have hh459 := Hid.i p457
                  clear p457
                  have f460 : Fr pT I438 I454 := (Hid.o hh459).2.1
                  have f461 : Fr (pW v1.toInt) I I454 := Fr.tr f446 f460 (fun _ _ => trivial)
                  have m462 : PMp I438 I454 := (PMp.mk (Hid.o hh459).2.2.1 (Hid.o hh459).2.2.2.1)
                  have q463 : (0 : Int32).toInt = 0 := rfl
                  have e464 : ((I438 97 12) : Int32).toInt = (I40 97 12).toInt := Eq.trans (congrArg Int32.toInt (Eq.trans (Eq.trans (Eq.trans (Eq.trans (Hid.o hh444).1 (Hid.o hh383).1) (Hid.o hh322).1) (rd_ne (by first | decide | omega))) (rd_ne (by first | decide | omega)))) rfl
                  have e465 : ((I438 97 14) : Int32).toInt = (I40 97 14).toInt := Eq.trans (congrArg Int32.toInt (Eq.trans (Eq.trans (Eq.trans (Eq.trans (Hid.o hh444).2.2.1 (Hid.o hh383).2.2.1) (Hid.o hh322).2.2.1) (rd_ne (by first | decide | omega))) (rd_ne (by first | decide | omega)))) rfl
                  have e466 : ((I438 97 16) : Int32).toInt = (I40 97 16).toInt := Eq.trans (congrArg Int32.toInt (Eq.trans (Eq.trans (Eq.trans (Eq.trans (Hid.o hh444).2.2.2.1 (Hid.o hh383).2.2.2.1) (Hid.o hh322).2.2.2.1) (rd_ne (by first | decide | omega))) (rd_ne (by first | decide | omega)))) rfl
                  have b467 := Bd.o hB456 (show isO 112 97 12 = true from rfl) (show bnd 12 12 = some _ from rfl)
                  have b468 := Bd.o hB456 (show isO 112 97 12 = true from rfl) (show bnd 12 14 = some _ from rfl)
                  have b469 := Bd.o hB456 (show isO 112 97 12 = true from rfl) (show bnd 12 16 = some _ from rfl)
                  refine sp_X12_count hB456 hR0 (fun x470 y475 I471 J472 hB473 p474 => ?_)
                  have hh476 := Hid.i p474
                  clear p474
                  have f477 : Fr pT I454 I471 := (Hid.o hh476).2.1
                  have f478 : Fr (pW v1.toInt) I I471 := Fr.tr f461 f477 (fun _ _ => trivial)
                  have m479 : PMp I454 I471 := (PMp.mk (Hid.o hh476).2.2.1 (Hid.o hh476).2.2.2.1)
                  have wr480 := Or.imp (fun z => z.2) (fun z => And.intro z.1 z.2.1) (Hid.o hh476).2.2.2.2
                  have q481 : (0 : Int32).toInt = 0 := rfl
                  have q482 : (99 : Int32).toInt = 99 := rfl
                  have b483 := Bd.o hB473 (show isO 112 97 12 = true from rfl) (show bnd 12 12 = some _ from rfl)
                  have b484 := Bd.o hB473 (show isO 112 97 12 = true from rfl) (show bnd 12 14 = some _ from rfl)
                  have b485 := Bd.o hB473 (show isO 112 97 12 = true from rfl) (show bnd 12 16 = some _ from rfl)
                  have i486 := i32 x470
                  have e487 : ((v1 + 6) : Int32).toInt = (v1.toInt) + (6) := ti_add rfl rfl (by omega)
                  refine ⟨vp_of (a := (v1.toInt + 6)) e487 (by omega) (by omega), ?_⟩
                  have hB488 : Bd (uI I471 102 (Int32.toNatClampNeg (v1 + 6)) x470) := Bd.cnew hB473 (show ((v1 + 6) : Int32).toInt = (v1.toInt + 6) from e487) (show (x470 : Int32).toInt = x470.toInt from rfl) (by omega) (by omega) (by omega) 
                  have f489 : Fr (pW v1.toInt) I (uI I471 102 (Int32.toNatClampNeg (v1 + 6)) x470) := Fr.w f478 (show ((v1 + 6) : Int32).toInt = (v1.toInt + 6) from e487) (by omega) (fun j hj hp => by unfold pW at hp; omega)
                  have td490 : (((uI I15 102 (Int32.toNatClampNeg (v1 + 5)) x1) 102 0)).toInt = (I 102 0).toInt := e52
                  have e491 : (((uI I471 102 (Int32.toNatClampNeg (v1 + 6)) x470) 102 (Int32.toNatClampNeg (v1 + 1))) : Int32).toInt = x39.toInt := Eq.trans (congrArg Int32.toInt (Eq.trans (Eq.trans (Eq.trans (Eq.trans (Eq.trans (Eq.trans (Eq.trans (rd_k (fun z => by have z1 := tn_of (show ((v1 + 1) : Int32).toInt = (v1.toInt + 1) from e60) (by omega); have z2 := tn_of (show ((v1 + 6) : Int32).toInt = (v1.toInt + 6) from e487) (by omega); omega)) (f477.1 (Int32.toNatClampNeg (v1 + 1)) trivial)) (f460.1 (Int32.toNatClampNeg (v1 + 1)) trivial)) (f445.1 (Int32.toNatClampNeg (v1 + 1)) trivial)) (f384.1 (Int32.toNatClampNeg (v1 + 1)) trivial)) (f323.1 (Int32.toNatClampNeg (v1 + 1)) trivial)) (rd_k (fun z => by have z1 := tn_of (show ((v1 + 1) : Int32).toInt = (v1.toInt + 1) from e60) (by omega); have z2 := tn_of (show ((v1 + 7) : Int32).toInt = (v1.toInt + 7) from e311) (by omega); omega))) rd_eq)) rfl
                  have fl492 : (((uI I471 102 (Int32.toNatClampNeg (v1 + 6)) x470) 102 (Int32.toNatClampNeg (v1 + 1))) : Int32).toInt = x39.toInt := e491
                  have e493 : (((uI I471 102 (Int32.toNatClampNeg (v1 + 6)) x470) 102 (Int32.toNatClampNeg (v1 + 5))) : Int32).toInt = x1.toInt := Eq.trans (congrArg Int32.toInt (Eq.trans (Eq.trans (Eq.trans (Eq.trans (Eq.trans (Eq.trans (Eq.trans (Eq.trans (Eq.trans (rd_k (fun z => by have z1 := tn_of (show ((v1 + 5) : Int32).toInt = (v1.toInt + 5) from e34) (by omega); have z2 := tn_of (show ((v1 + 6) : Int32).toInt = (v1.toInt + 6) from e487) (by omega); omega)) (f477.1 (Int32.toNatClampNeg (v1 + 5)) trivial)) (f460.1 (Int32.toNatClampNeg (v1 + 5)) trivial)) (f445.1 (Int32.toNatClampNeg (v1 + 5)) trivial)) (f384.1 (Int32.toNatClampNeg (v1 + 5)) trivial)) (f323.1 (Int32.toNatClampNeg (v1 + 5)) trivial)) (rd_k (fun z => by have z1 := tn_of (show ((v1 + 5) : Int32).toInt = (v1.toInt + 5) from e34) (by omega); have z2 := tn_of (show ((v1 + 7) : Int32).toInt = (v1.toInt + 7) from e311) (by omega); omega))) (rd_k (fun z => by have z1 := tn_of (show ((v1 + 5) : Int32).toInt = (v1.toInt + 5) from e34) (by omega); have z2 := tn_of (show ((v1 + 1) : Int32).toInt = (v1.toInt + 1) from e60) (by omega); omega))) (f46.1 (Int32.toNatClampNeg (v1 + 5)) trivial)) rd_eq)) rfl
                  have fl494 : (((uI I471 102 (Int32.toNatClampNeg (v1 + 6)) x470) 102 (Int32.toNatClampNeg (v1 + 5))) : Int32).toInt = x1.toInt := e493
                  have e495 : (((uI I471 102 (Int32.toNatClampNeg (v1 + 6)) x470) 97 12) : Int32).toInt = (I471 97 12).toInt := Eq.trans (congrArg Int32.toInt (rd_ne (by first | decide | omega))) rfl
                  have fl496 : (((uI I471 102 (Int32.toNatClampNeg (v1 + 6)) x470) 97 12) : Int32).toInt = (I471 97 12).toInt := e495
                  exact hQ _ _ _ _ hB488 ⟨(Eq.trans (Eq.trans (Eq.trans (Eq.trans (Eq.trans (Eq.trans (Eq.trans (Eq.trans (Eq.trans (Eq.trans (Eq.trans (rd_ne (by first | decide | omega)) (Hid.o hh476).1) (Hid.o hh459).1) (Hid.o hh444).2.1) (Hid.o hh383).2.1) (Hid.o hh322).2.1) (rd_ne (by first | decide | omega))) (rd_ne (by first | decide | omega))) (Hid.o hh45).1) (rd_ne (by first | decide | omega))) (Hid.o hh20).1) (Hid.o hh7).2.1), f489, (PMp.o (PMp.tr (PMp.tr (PMp.tr (PMp.tr (PMp.tr (PMp.o (PMp.o (PMp.tr (PMp.o (PMp.tr (PMp.tr (PMp.refl I) m10) m23) (show ¬ (97 : Nat) = 102 by decide)) m48) (show ¬ (97 : Nat) = 102 by decide)) (show ¬ (97 : Nat) = 102 by decide)) m325) m386) m447) m462) m479) (show ¬ (97 : Nat) = 102 by decide)), (fun hz => by have op0 := (Hid.o hh45).2.2.2 (PMp.bad (PMp.o (PMp.tr (PMp.tr (PMp.tr (PMp.tr (PMp.tr (PMp.o (PMp.o (PMp.refl I40) (show ¬ (97 : Nat) = 102 by decide)) (show ¬ (97 : Nat) = 102 by decide)) m325) m386) m447) m462) m479) (show ¬ (97 : Nat) = 102 by decide)) hz) rfl; have op1 := Or.resolve_left (Hid.o hh476).2.2.2.2 (fun z => by have b := PMp.bad (PMp.o (PMp.refl I471) (show ¬ (97 : Nat) = 102 by decide)) hz; omega); omega)⟩
                · skip
                  have d497 : ¬ ((x437.toInt) : Int) = (0) := ci_ne rfl rfl c451
                  refine sp_X12_must hB440 hR0 (fun x498 y503 I499 J500 hB501 p502 => ?_)
                  have hh504 := Hid.i p502
                  clear p502
                  have f505 : Fr pT I438 I499 := (Hid.o hh504).2.1
                  have f506 : Fr (pW v1.toInt) I I499 := Fr.tr f446 f505 (fun _ _ => trivial)
                  have m507 : PMp I438 I499 := (PMp.mk (Hid.o hh504).2.2.1 (Hid.o hh504).2.2.2.1)
                  have q508 : (1 : Int32).toInt = 1 := rfl
                  have e509 : ((I438 97 12) : Int32).toInt = (I40 97 12).toInt := Eq.trans (congrArg Int32.toInt (Eq.trans (Eq.trans (Eq.trans (Eq.trans (Hid.o hh444).1 (Hid.o hh383).1) (Hid.o hh322).1) (rd_ne (by first | decide | omega))) (rd_ne (by first | decide | omega)))) rfl
                  have e510 : ((I438 97 14) : Int32).toInt = (I40 97 14).toInt := Eq.trans (congrArg Int32.toInt (Eq.trans (Eq.trans (Eq.trans (Eq.trans (Hid.o hh444).2.2.1 (Hid.o hh383).2.2.1) (Hid.o hh322).2.2.1) (rd_ne (by first | decide | omega))) (rd_ne (by first | decide | omega)))) rfl
                  have e511 : ((I438 97 16) : Int32).toInt = (I40 97 16).toInt := Eq.trans (congrArg Int32.toInt (Eq.trans (Eq.trans (Eq.trans (Eq.trans (Hid.o hh444).2.2.2.1 (Hid.o hh383).2.2.2.1) (Hid.o hh322).2.2.2.1) (rd_ne (by first | decide | omega))) (rd_ne (by first | decide | omega)))) rfl
                  have b512 := Bd.o hB501 (show isO 112 97 12 = true from rfl) (show bnd 12 12 = some _ from rfl)
                  have b513 := Bd.o hB501 (show isO 112 97 12 = true from rfl) (show bnd 12 14 = some _ from rfl)
                  have b514 := Bd.o hB501 (show isO 112 97 12 = true from rfl) (show bnd 12 16 = some _ from rfl)
                  refine sp_X12_count hB501 hR0 (fun x515 y520 I516 J517 hB518 p519 => ?_)
                  have hh521 := Hid.i p519
                  clear p519
                  have f522 : Fr pT I499 I516 := (Hid.o hh521).2.1
                  have f523 : Fr (pW v1.toInt) I I516 := Fr.tr f506 f522 (fun _ _ => trivial)
                  have m524 : PMp I499 I516 := (PMp.mk (Hid.o hh521).2.2.1 (Hid.o hh521).2.2.2.1)
                  have wr525 := Or.imp (fun z => z.2) (fun z => And.intro z.1 z.2.1) (Hid.o hh521).2.2.2.2
                  have q526 : (0 : Int32).toInt = 0 := rfl
                  have q527 : (99 : Int32).toInt = 99 := rfl
                  have b528 := Bd.o hB518 (show isO 112 97 12 = true from rfl) (show bnd 12 12 = some _ from rfl)
                  have b529 := Bd.o hB518 (show isO 112 97 12 = true from rfl) (show bnd 12 14 = some _ from rfl)
                  have b530 := Bd.o hB518 (show isO 112 97 12 = true from rfl) (show bnd 12 16 = some _ from rfl)
                  have i531 := i32 x515
                  have e532 : ((v1 + 6) : Int32).toInt = (v1.toInt) + (6) := ti_add rfl rfl (by omega)
                  refine ⟨vp_of (a := (v1.toInt + 6)) e532 (by omega) (by omega), ?_⟩
                  have hB533 : Bd (uI I516 102 (Int32.toNatClampNeg (v1 + 6)) x515) := Bd.cnew hB518 (show ((v1 + 6) : Int32).toInt = (v1.toInt + 6) from e532) (show (x515 : Int32).toInt = x515.toInt from rfl) (by omega) (by omega) (by omega) 
                  have f534 : Fr (pW v1.toInt) I (uI I516 102 (Int32.toNatClampNeg (v1 + 6)) x515) := Fr.w f523 (show ((v1 + 6) : Int32).toInt = (v1.toInt + 6) from e532) (by omega) (fun j hj hp => by unfold pW at hp; omega)
                  have td535 : (((uI I15 102 (Int32.toNatClampNeg (v1 + 5)) x1) 102 0)).toInt = (I 102 0).toInt := e52
                  have e536 : (((uI I516 102 (Int32.toNatClampNeg (v1 + 6)) x515) 102 (Int32.toNatClampNeg (v1 + 1))) : Int32).toInt = x39.toInt := Eq.trans (congrArg Int32.toInt (Eq.trans (Eq.trans (Eq.trans (Eq.trans (Eq.trans (Eq.trans (Eq.trans (rd_k (fun z => by have z1 := tn_of (show ((v1 + 1) : Int32).toInt = (v1.toInt + 1) from e60) (by omega); have z2 := tn_of (show ((v1 + 6) : Int32).toInt = (v1.toInt + 6) from e532) (by omega); omega)) (f522.1 (Int32.toNatClampNeg (v1 + 1)) trivial)) (f505.1 (Int32.toNatClampNeg (v1 + 1)) trivial)) (f445.1 (Int32.toNatClampNeg (v1 + 1)) trivial)) (f384.1 (Int32.toNatClampNeg (v1 + 1)) trivial)) (f323.1 (Int32.toNatClampNeg (v1 + 1)) trivial)) (rd_k (fun z => by have z1 := tn_of (show ((v1 + 1) : Int32).toInt = (v1.toInt + 1) from e60) (by omega); have z2 := tn_of (show ((v1 + 7) : Int32).toInt = (v1.toInt + 7) from e311) (by omega); omega))) rd_eq)) rfl
                  have fl537 : (((uI I516 102 (Int32.toNatClampNeg (v1 + 6)) x515) 102 (Int32.toNatClampNeg (v1 + 1))) : Int32).toInt = x39.toInt := e536
                  have e538 : (((uI I516 102 (Int32.toNatClampNeg (v1 + 6)) x515) 102 (Int32.toNatClampNeg (v1 + 5))) : Int32).toInt = x1.toInt := Eq.trans (congrArg Int32.toInt (Eq.trans (Eq.trans (Eq.trans (Eq.trans (Eq.trans (Eq.trans (Eq.trans (Eq.trans (Eq.trans (rd_k (fun z => by have z1 := tn_of (show ((v1 + 5) : Int32).toInt = (v1.toInt + 5) from e34) (by omega); have z2 := tn_of (show ((v1 + 6) : Int32).toInt = (v1.toInt + 6) from e532) (by omega); omega)) (f522.1 (Int32.toNatClampNeg (v1 + 5)) trivial)) (f505.1 (Int32.toNatClampNeg (v1 + 5)) trivial)) (f445.1 (Int32.toNatClampNeg (v1 + 5)) trivial)) (f384.1 (Int32.toNatClampNeg (v1 + 5)) trivial)) (f323.1 (Int32.toNatClampNeg (v1 + 5)) trivial)) (rd_k (fun z => by have z1 := tn_of (show ((v1 + 5) : Int32).toInt = (v1.toInt + 5) from e34) (by omega); have z2 := tn_of (show ((v1 + 7) : Int32).toInt = (v1.toInt + 7) from e311) (by omega); omega))) (rd_k (fun z => by have z1 := tn_of (show ((v1 + 5) : Int32).toInt = (v1.toInt + 5) from e34) (by omega); have z2 := tn_of (show ((v1 + 1) : Int32).toInt = (v1.toInt + 1) from e60) (by omega); omega))) (f46.1 (Int32.toNatClampNeg (v1 + 5)) trivial)) rd_eq)) rfl
                  have fl539 : (((uI I516 102 (Int32.toNatClampNeg (v1 + 6)) x515) 102 (Int32.toNatClampNeg (v1 + 5))) : Int32).toInt = x1.toInt := e538
                  have e540 : (((uI I516 102 (Int32.toNatClampNeg (v1 + 6)) x515) 97 12) : Int32).toInt = (I516 97 12).toInt := Eq.trans (congrArg Int32.toInt (rd_ne (by first | decide | omega))) rfl
                  have fl541 : (((uI I516 102 (Int32.toNatClampNeg (v1 + 6)) x515) 97 12) : Int32).toInt = (I516 97 12).toInt := e540
                  exact hQ _ _ _ _ hB533 ⟨(Eq.trans (Eq.trans (Eq.trans (Eq.trans (Eq.trans (Eq.trans (Eq.trans (Eq.trans (Eq.trans (Eq.trans (Eq.trans (rd_ne (by first | decide | omega)) (Hid.o hh521).1) (Hid.o hh504).1) (Hid.o hh444).2.1) (Hid.o hh383).2.1) (Hid.o hh322).2.1) (rd_ne (by first | decide | omega))) (rd_ne (by first | decide | omega))) (Hid.o hh45).1) (rd_ne (by first | decide | omega))) (Hid.o hh20).1) (Hid.o hh7).2.1), f534, (PMp.o (PMp.tr (PMp.tr (PMp.tr (PMp.tr (PMp.tr (PMp.o (PMp.o (PMp.tr (PMp.o (PMp.tr (PMp.tr (PMp.refl I) m10) m23) (show ¬ (97 : Nat) = 102 by decide)) m48) (show ¬ (97 : Nat) = 102 by decide)) (show ¬ (97 : Nat) = 102 by decide)) m325) m386) m447) m507) m524) (show ¬ (97 : Nat) = 102 by decide)), (fun hz => by have op0 := (Hid.o hh45).2.2.2 (PMp.bad (PMp.o (PMp.tr (PMp.tr (PMp.tr (PMp.tr (PMp.tr (PMp.o (PMp.o (PMp.refl I40) (show ¬ (97 : Nat) = 102 by decide)) (show ¬ (97 : Nat) = 102 by decide)) m325) m386) m447) m507) m524) (show ¬ (97 : Nat) = 102 by decide)) hz) rfl; have op1 := Or.resolve_left (Hid.o hh521).2.2.2.2 (fun z => by have b := PMp.bad (PMp.o (PMp.refl I516) (show ¬ (97 : Nat) = 102 by decide)) hz; omega); omega)⟩
        · skip
          have d542 : ((x1.toInt) : Int) = (0) := ci_eq rfl rfl c74
          have td543 : (((uI I15 102 (Int32.toNatClampNeg (v1 + 5)) x1) 102 0)).toInt = (I 102 0).toInt := e52
          have e544 : (((uI I40 102 (Int32.toNatClampNeg (v1 + 1)) x39) 102 (Int32.toNatClampNeg (v1 + 1))) : Int32).toInt = x39.toInt := Eq.trans (congrArg Int32.toInt rd_eq) rfl
          have fl545 : (((uI I40 102 (Int32.toNatClampNeg (v1 + 1)) x39) 102 (Int32.toNatClampNeg (v1 + 1))) : Int32).toInt = x39.toInt := e544
          have e546 : (((uI I40 102 (Int32.toNatClampNeg (v1 + 1)) x39) 102 (Int32.toNatClampNeg (v1 + 5))) : Int32).toInt = x1.toInt := Eq.trans (congrArg Int32.toInt (Eq.trans (Eq.trans (rd_k (fun z => by have z1 := tn_of (show ((v1 + 5) : Int32).toInt = (v1.toInt + 5) from e34) (by omega); have z2 := tn_of (show ((v1 + 1) : Int32).toInt = (v1.toInt + 1) from e60) (by omega); omega)) (f46.1 (Int32.toNatClampNeg (v1 + 5)) trivial)) rd_eq)) rfl
          have fl547 : (((uI I40 102 (Int32.toNatClampNeg (v1 + 1)) x39) 102 (Int32.toNatClampNeg (v1 + 5))) : Int32).toInt = x1.toInt := e546
          have fl548 : (((uI I40 102 (Int32.toNatClampNeg (v1 + 1)) x39) 97 12) : Int32).toInt = (I40 97 12).toInt := e72
          exact hQ _ _ _ _ hB61 ⟨(Eq.trans (Eq.trans (Eq.trans (Eq.trans (rd_ne (by first | decide | omega)) (Hid.o hh45).1) (rd_ne (by first | decide | omega))) (Hid.o hh20).1) (Hid.o hh7).2.1), f62, (PMp.o (PMp.tr (PMp.o (PMp.tr (PMp.tr (PMp.refl I) m10) m23) (show ¬ (97 : Nat) = 102 by decide)) m48) (show ¬ (97 : Nat) = 102 by decide)), (fun hz => by have op0 := (Hid.o hh45).2.2.2 (PMp.bad (PMp.o (PMp.refl I40) (show ¬ (97 : Nat) = 102 by decide)) hz) rfl; omega)⟩
    · skip
      have d549 : ((x1.toInt) : Int) = (1) := ci_eq rfl rfl c37
      refine sp_X12_count hB35 hR0 (fun x550 y555 I551 J552 hB553 p554 => ?_)
      have hh556 := Hid.i p554
      clear p554
      have f557 : Fr pT (uI I15 102 (Int32.toNatClampNeg (v1 + 5)) x1) I551 := (Hid.o hh556).2.1
      have f558 : Fr (pW v1.toInt) I I551 := Fr.tr f36 f557 (fun _ _ => trivial)
      have m559 : PMp (uI I15 102 (Int32.toNatClampNeg (v1 + 5)) x1) I551 := (PMp.mk (Hid.o hh556).2.2.1 (Hid.o hh556).2.2.2.1)
      have wr560 := Or.imp (fun z => z.2) (fun z => And.intro z.1 z.2.1) (Hid.o hh556).2.2.2.2
      have q561 : (1 : Int32).toInt = 1 := rfl
      have q562 : (30 : Int32).toInt = 30 := rfl
      have e563 : (((uI I15 102 (Int32.toNatClampNeg (v1 + 5)) x1) 97 12) : Int32).toInt = (I15 97 12).toInt := Eq.trans (congrArg Int32.toInt (rd_ne (by first | decide | omega))) rfl
      have e564 : (((uI I15 102 (Int32.toNatClampNeg (v1 + 5)) x1) 97 14) : Int32).toInt = (I15 97 14).toInt := Eq.trans (congrArg Int32.toInt (rd_ne (by first | decide | omega))) rfl
      have e565 : (((uI I15 102 (Int32.toNatClampNeg (v1 + 5)) x1) 97 16) : Int32).toInt = (I15 97 16).toInt := Eq.trans (congrArg Int32.toInt (rd_ne (by first | decide | omega))) rfl
      have b566 := Bd.o hB553 (show isO 112 97 12 = true from rfl) (show bnd 12 12 = some _ from rfl)
      have b567 := Bd.o hB553 (show isO 112 97 12 = true from rfl) (show bnd 12 14 = some _ from rfl)
      have b568 := Bd.o hB553 (show isO 112 97 12 = true from rfl) (show bnd 12 16 = some _ from rfl)
      have i569 := i32 x550
      have e570 : ((v1 + 1) : Int32).toInt = (v1.toInt) + (1) := ti_add rfl rfl (by omega)
      refine ⟨vp_of (a := (v1.toInt + 1)) e570 (by omega) (by omega), ?_⟩
      have hB571 : Bd (uI I551 102 (Int32.toNatClampNeg (v1 + 1)) x550) := Bd.cnew hB553 (show ((v1 + 1) : Int32).toInt = (v1.toInt + 1) from e570) (show (x550 : Int32).toInt = x550.toInt from rfl) (by omega) (by omega) (by omega) 
      have f572 : Fr (pW v1.toInt) I (uI I551 102 (Int32.toNatClampNeg (v1 + 1)) x550) := Fr.w f558 (show ((v1 + 1) : Int32).toInt = (v1.toInt + 1) from e570) (by omega) (fun j hj hp => by unfold pW at hp; omega)
      refine ⟨fun c573 => ?_, fun c573 => ?_⟩
      · skip
        have e574 : (((uI I551 102 (Int32.toNatClampNeg (v1 + 1)) x550) 97 12) : Int32).toInt = (I551 97 12).toInt := Eq.trans (congrArg Int32.toInt (rd_ne (by first | decide | omega))) rfl
        have d575 : ((0) : Int) < ((I551 97 12).toInt) := ci_lt rfl e574 c573
        have e576 : (((uI I551 102 (Int32.toNatClampNeg (v1 + 1)) x550) 102 (Int32.toNatClampNeg (v1 + 1))) : Int32).toInt = x550.toInt := Eq.trans (congrArg Int32.toInt rd_eq) rfl
        have fl577 : (((uI I551 102 (Int32.toNatClampNeg (v1 + 1)) x550) 102 (Int32.toNatClampNeg (v1 + 1))) : Int32).toInt = x550.toInt := e576
        have e578 : (((uI I551 102 (Int32.toNatClampNeg (v1 + 1)) x550) 102 (Int32.toNatClampNeg (v1 + 5))) : Int32).toInt = x1.toInt := Eq.trans (congrArg Int32.toInt (Eq.trans (Eq.trans (rd_k (fun z => by have z1 := tn_of (show ((v1 + 5) : Int32).toInt = (v1.toInt + 5) from e34) (by omega); have z2 := tn_of (show ((v1 + 1) : Int32).toInt = (v1.toInt + 1) from e570) (by omega); omega)) (f557.1 (Int32.toNatClampNeg (v1 + 5)) trivial)) rd_eq)) rfl
        have fl579 : (((uI I551 102 (Int32.toNatClampNeg (v1 + 1)) x550) 102 (Int32.toNatClampNeg (v1 + 5))) : Int32).toInt = x1.toInt := e578
        have fl580 : (((uI I551 102 (Int32.toNatClampNeg (v1 + 1)) x550) 97 12) : Int32).toInt = (I551 97 12).toInt := e574
        exact hQ _ _ _ _ hB571 ⟨(Eq.trans (Eq.trans (Eq.trans (Eq.trans (rd_ne (by first | decide | omega)) (Hid.o hh556).1) (rd_ne (by first | decide | omega))) (Hid.o hh20).1) (Hid.o hh7).2.1), f572, (PMp.o (PMp.tr (PMp.o (PMp.tr (PMp.tr (PMp.refl I) m10) m23) (show ¬ (97 : Nat) = 102 by decide)) m559) (show ¬ (97 : Nat) = 102 by decide)), (fun hz => by have op0 := Or.resolve_left (Hid.o hh556).2.2.2.2 (fun z => by have b := PMp.bad (PMp.o (PMp.refl I551) (show ¬ (97 : Nat) = 102 by decide)) hz; omega); omega)⟩
      · skip
        have e581 : (((uI I551 102 (Int32.toNatClampNeg (v1 + 1)) x550) 97 12) : Int32).toInt = (I551 97 12).toInt := Eq.trans (congrArg Int32.toInt (rd_ne (by first | decide | omega))) rfl
        have d582 : (((I551 97 12).toInt) : Int) ≤ (0) := ci_nlt rfl e581 c573
        refine ⟨fun c583 => ?_, fun c583 => ?_⟩
        · skip
          have d584 : ¬ ((x1.toInt) : Int) = (0) := ci_ne rfl rfl c583
          refine ⟨fun c585 => ?_, fun c585 => ?_⟩
          · skip
            have e586 : (((uI I551 102 (Int32.toNatClampNeg (v1 + 1)) x550) 97 14) : Int32).toInt = (I551 97 14).toInt := Eq.trans (congrArg Int32.toInt (rd_ne (by first | decide | omega))) rfl
            have d587 : ¬ (((I551 97 14).toInt) : Int) = (3) := ci_ne e586 rfl c585
            have e588 : ((v1 + 7) : Int32).toInt = (v1.toInt) + (7) := ti_add rfl rfl (by omega)
            refine ⟨vp_of (a := (v1.toInt + 7)) e588 (by omega) (by omega), ?_⟩
            have hB589 : Bd (uI (uI I551 102 (Int32.toNatClampNeg (v1 + 1)) x550) 102 (Int32.toNatClampNeg (v1 + 7)) 0) := Bd.cnew hB571 (show ((v1 + 7) : Int32).toInt = (v1.toInt + 7) from e588) (show (0 : Int32).toInt = 0 from rfl) (by omega) (by omega) (by omega) 
            have f590 : Fr (pW v1.toInt) I (uI (uI I551 102 (Int32.toNatClampNeg (v1 + 1)) x550) 102 (Int32.toNatClampNeg (v1 + 7)) 0) := Fr.w f572 (show ((v1 + 7) : Int32).toInt = (v1.toInt + 7) from e588) (by omega) (fun j hj hp => by unfold pW at hp; omega)
            refine sp_X12_isSign hB589 hR0 (fun x591 y596 I592 J593 hB594 p595 => ?_)
            intro o597
            have hh598 := Hid.i p595
            clear p595
            have f599 : Fr pT (uI (uI I551 102 (Int32.toNatClampNeg (v1 + 1)) x550) 102 (Int32.toNatClampNeg (v1 + 7)) 0) I592 := (Hid.o hh598).2.2.2.2.1
            have f600 : Fr (pW v1.toInt) I I592 := Fr.tr f590 f599 (fun _ _ => trivial)
            have m601 : PMp (uI (uI I551 102 (Int32.toNatClampNeg (v1 + 1)) x550) 102 (Int32.toNatClampNeg (v1 + 7)) 0) I592 := (PMp.keep (Hid.o hh598).1 (Hid.o hh598).2.2.1 (Hid.o hh598).2.2.2.1)
            have q602 : (60 : Int32).toInt = 60 := rfl
            have e603 : (((uI (uI I551 102 (Int32.toNatClampNeg (v1 + 1)) x550) 102 (Int32.toNatClampNeg (v1 + 7)) 0) 97 14) : Int32).toInt = (I551 97 14).toInt := Eq.trans (congrArg Int32.toInt (Eq.trans (rd_ne (by first | decide | omega)) (rd_ne (by first | decide | omega)))) rfl
            have i604 := i32 x591
            refine ⟨fun c605 => ?_, fun c605 => ?_⟩
            · skip
              have d606 : ¬ ((x591.toInt) : Int) = (0) := ci_ne rfl rfl c605
              refine sp_X12_must hB594 hR0 (fun x607 y612 I608 J609 hB610 p611 => ?_)
              have hh613 := Hid.i p611
              clear p611
              have f614 : Fr pT I592 I608 := (Hid.o hh613).2.1
              have f615 : Fr (pW v1.toInt) I I608 := Fr.tr f600 f614 (fun _ _ => trivial)
              have m616 : PMp I592 I608 := (PMp.mk (Hid.o hh613).2.2.1 (Hid.o hh613).2.2.2.1)
              have q617 : (1 : Int32).toInt = 1 := rfl
              have e618 : ((I592 97 12) : Int32).toInt = (I551 97 12).toInt := Eq.trans (congrArg Int32.toInt (Eq.trans (Eq.trans (Hid.o hh598).1 (rd_ne (by first | decide | omega))) (rd_ne (by first | decide | omega)))) rfl
              have e619 : ((I592 97 14) : Int32).toInt = (I551 97 14).toInt := Eq.trans (congrArg Int32.toInt (Eq.trans (Eq.trans (Hid.o hh598).2.2.1 (rd_ne (by first | decide | omega))) (rd_ne (by first | decide | omega)))) rfl
              have e620 : ((I592 97 16) : Int32).toInt = (I551 97 16).toInt := Eq.trans (congrArg Int32.toInt (Eq.trans (Eq.trans (Hid.o hh598).2.2.2.1 (rd_ne (by first | decide | omega))) (rd_ne (by first | decide | omega)))) rfl
              have b621 := Bd.o hB610 (show isO 112 97 12 = true from rfl) (show bnd 12 12 = some _ from rfl)
              have b622 := Bd.o hB610 (show isO 112 97 12 = true from rfl) (show bnd 12 14 = some _ from rfl)
              have b623 := Bd.o hB610 (show isO 112 97 12 = true from rfl) (show bnd 12 16 = some _ from rfl)
              refine sp_X12_count hB610 hR0 (fun x624 y629 I625 J626 hB627 p628 => ?_)
              have hh630 := Hid.i p628
              clear p628
              have f631 : Fr pT I608 I625 := (Hid.o hh630).2.1
              have f632 : Fr (pW v1.toInt) I I625 := Fr.tr f615 f631 (fun _ _ => trivial)
              have m633 : PMp I608 I625 := (PMp.mk (Hid.o hh630).2.2.1 (Hid.o hh630).2.2.2.1)
              have wr634 := Or.imp (fun z => z.2) (fun z => And.intro z.1 z.2.1) (Hid.o hh630).2.2.2.2
              have q635 : (0 : Int32).toInt = 0 := rfl
              have q636 : (99 : Int32).toInt = 99 := rfl
              have b637 := Bd.o hB627 (show isO 112 97 12 = true from rfl) (show bnd 12 12 = some _ from rfl)
              have b638 := Bd.o hB627 (show isO 112 97 12 = true from rfl) (show bnd 12 14 = some _ from rfl)
              have b639 := Bd.o hB627 (show isO 112 97 12 = true from rfl) (show bnd 12 16 = some _ from rfl)
              have i640 := i32 x624
              have e641 : ((v1 + 6) : Int32).toInt = (v1.toInt) + (6) := ti_add rfl rfl (by omega)
              refine ⟨vp_of (a := (v1.toInt + 6)) e641 (by omega) (by omega), ?_⟩
              have hB642 : Bd (uI I625 102 (Int32.toNatClampNeg (v1 + 6)) x624) := Bd.cnew hB627 (show ((v1 + 6) : Int32).toInt = (v1.toInt + 6) from e641) (show (x624 : Int32).toInt = x624.toInt from rfl) (by omega) (by omega) (by omega) 
              have f643 : Fr (pW v1.toInt) I (uI I625 102 (Int32.toNatClampNeg (v1 + 6)) x624) := Fr.w f632 (show ((v1 + 6) : Int32).toInt = (v1.toInt + 6) from e641) (by omega) (fun j hj hp => by unfold pW at hp; omega)
              have e644 : (((uI I625 102 (Int32.toNatClampNeg (v1 + 6)) x624) 102 (Int32.toNatClampNeg (v1 + 1))) : Int32).toInt = x550.toInt := Eq.trans (congrArg Int32.toInt (Eq.trans (Eq.trans (Eq.trans (Eq.trans (Eq.trans (rd_k (fun z => by have z1 := tn_of (show ((v1 + 1) : Int32).toInt = (v1.toInt + 1) from e570) (by omega); have z2 := tn_of (show ((v1 + 6) : Int32).toInt = (v1.toInt + 6) from e641) (by omega); omega)) (f631.1 (Int32.toNatClampNeg (v1 + 1)) trivial)) (f614.1 (Int32.toNatClampNeg (v1 + 1)) trivial)) (f599.1 (Int32.toNatClampNeg (v1 + 1)) trivial)) (rd_k (fun z => by have z1 := tn_of (show ((v1 + 1) : Int32).toInt = (v1.toInt + 1) from e570) (by omega); have z2 := tn_of (show ((v1 + 7) : Int32).toInt = (v1.toInt + 7) from e588) (by omega); omega))) rd_eq)) rfl
              have fl645 : (((uI I625 102 (Int32.toNatClampNeg (v1 + 6)) x624) 102 (Int32.toNatClampNeg (v1 + 1))) : Int32).toInt = x550.toInt := e644
              have e646 : (((uI I625 102 (Int32.toNatClampNeg (v1 + 6)) x624) 102 (Int32.toNatClampNeg (v1 + 5))) : Int32).toInt = x1.toInt := Eq.trans (congrArg Int32.toInt (Eq.trans (Eq.trans (Eq.trans (Eq.trans (Eq.trans (Eq.trans (Eq.trans (rd_k (fun z => by have z1 := tn_of (show ((v1 + 5) : Int32).toInt = (v1.toInt + 5) from e34) (by omega); have z2 := tn_of (show ((v1 + 6) : Int32).toInt = (v1.toInt + 6) from e641) (by omega); omega)) (f631.1 (Int32.toNatClampNeg (v1 + 5)) trivial)) (f614.1 (Int32.toNatClampNeg (v1 + 5)) trivial)) (f599.1 (Int32.toNatClampNeg (v1 + 5)) trivial)) (rd_k (fun z => by have z1 := tn_of (show ((v1 + 5) : Int32).toInt = (v1.toInt + 5) from e34) (by omega); have z2 := tn_of (show ((v1 + 7) : Int32).toInt = (v1.toInt + 7) from e588) (by omega); omega))) (rd_k (fun z => by have z1 := tn_of (show ((v1 + 5) : Int32).toInt = (v1.toInt + 5) from e34) (by omega); have z2 := tn_of (show ((v1 + 1) : Int32).toInt = (v1.toInt + 1) from e570) (by omega); omega))) (f557.1 (Int32.toNatClampNeg (v1 + 5)) trivial)) rd_eq)) rfl
              have fl647 : (((uI I625 102 (Int32.toNatClampNeg (v1 + 6)) x624) 102 (Int32.toNatClampNeg (v1 + 5))) : Int32).toInt = x1.toInt := e646
              have e648 : (((uI I625 102 (Int32.toNatClampNeg (v1 + 6)) x624) 97 12) : Int32).toInt = (I625 97 12).toInt := Eq.trans (congrArg Int32.toInt (rd_ne (by first | decide | omega))) rfl
              have fl649 : (((uI I625 102 (Int32.toNatClampNeg (v1 + 6)) x624) 97 12) : Int32).toInt = (I625 97 12).toInt := e648
              exact hQ _ _ _ _ hB642 ⟨(Eq.trans (Eq.trans (Eq.trans (Eq.trans (Eq.trans (Eq.trans (Eq.trans (Eq.trans (Eq.trans (rd_ne (by first | decide | omega)) (Hid.o hh630).1) (Hid.o hh613).1) (Hid.o hh598).2.1) (rd_ne (by first | decide | omega))) (rd_ne (by first | decide | omega))) (Hid.o hh556).1) (rd_ne (by first | decide | omega))) (Hid.o hh20).1) (Hid.o hh7).2.1), f643, (PMp.o (PMp.tr (PMp.tr (PMp.tr (PMp.o (PMp.o (PMp.tr (PMp.o (PMp.tr (PMp.tr (PMp.refl I) m10) m23) (show ¬ (97 : Nat) = 102 by decide)) m559) (show ¬ (97 : Nat) = 102 by decide)) (show ¬ (97 : Nat) = 102 by decide)) m601) m616) m633) (show ¬ (97 : Nat) = 102 by decide)), (fun hz => by have op0 := Or.resolve_left (Hid.o hh556).2.2.2.2 (fun z => by have b := PMp.bad (PMp.o (PMp.tr (PMp.tr (PMp.tr (PMp.o (PMp.o (PMp.refl I551) (show ¬ (97 : Nat) = 102 by decide)) (show ¬ (97 : Nat) = 102 by decide)) m601) m616) m633) (show ¬ (97 : Nat) = 102 by decide)) hz; omega); have op1 := Or.resolve_left (Hid.o hh630).2.2.2.2 (fun z => by have b := PMp.bad (PMp.o (PMp.refl I625) (show ¬ (97 : Nat) = 102 by decide)) hz; omega); omega)⟩
            · skip
              have d650 : ((x591.toInt) : Int) = (0) := ci_eq rfl rfl c605
              refine sp_X12_isSign hB594 hR0 (fun x651 y656 I652 J653 hB654 p655 => ?_)
              intro o657
              have hh658 := Hid.i p655
              clear p655
              have f659 : Fr pT I592 I652 := (Hid.o hh658).2.2.2.2.1
              have f660 : Fr (pW v1.toInt) I I652 := Fr.tr f600 f659 (fun _ _ => trivial)
              have m661 : PMp I592 I652 := (PMp.keep (Hid.o hh658).1 (Hid.o hh658).2.2.1 (Hid.o hh658).2.2.2.1)
              have q662 : (62 : Int32).toInt = 62 := rfl
              have e663 : ((I592 97 14) : Int32).toInt = (I551 97 14).toInt := Eq.trans (congrArg Int32.toInt (Eq.trans (Eq.trans (Hid.o hh598).2.2.1 (rd_ne (by first | decide | omega))) (rd_ne (by first | decide | omega)))) rfl
              have i664 := i32 x651
              refine ⟨fun c665 => ?_, fun c665 => ?_⟩
              · skip
                have d666 : ¬ ((x651.toInt) : Int) = (0) := ci_ne rfl rfl c665
                refine sp_X12_must hB654 hR0 (fun x667 y672 I668 J669 hB670 p671 => ?_)
                have hh673 := Hid.i p671
                clear p671
                have f674 : Fr pT I652 I668 := (Hid.o hh673).2.1
                have f675 : Fr (pW v1.toInt) I I668 := Fr.tr f660 f674 (fun _ _ => trivial)
                have m676 : PMp I652 I668 := (PMp.mk (Hid.o hh673).2.2.1 (Hid.o hh673).2.2.2.1)
                have q677 : (1 : Int32).toInt = 1 := rfl
                have e678 : ((I652 97 12) : Int32).toInt = (I551 97 12).toInt := Eq.trans (congrArg Int32.toInt (Eq.trans (Eq.trans (Eq.trans (Hid.o hh658).1 (Hid.o hh598).1) (rd_ne (by first | decide | omega))) (rd_ne (by first | decide | omega)))) rfl
                have e679 : ((I652 97 14) : Int32).toInt = (I551 97 14).toInt := Eq.trans (congrArg Int32.toInt (Eq.trans (Eq.trans (Eq.trans (Hid.o hh658).2.2.1 (Hid.o hh598).2.2.1) (rd_ne (by first | decide | omega))) (rd_ne (by first | decide | omega)))) rfl
                have e680 : ((I652 97 16) : Int32).toInt = (I551 97 16).toInt := Eq.trans (congrArg Int32.toInt (Eq.trans (Eq.trans (Eq.trans (Hid.o hh658).2.2.2.1 (Hid.o hh598).2.2.2.1) (rd_ne (by first | decide | omega))) (rd_ne (by first | decide | omega)))) rfl
                have b681 := Bd.o hB670 (show isO 112 97 12 = true from rfl) (show bnd 12 12 = some _ from rfl)
                have b682 := Bd.o hB670 (show isO 112 97 12 = true from rfl) (show bnd 12 14 = some _ from rfl)
                have b683 := Bd.o hB670 (show isO 112 97 12 = true from rfl) (show bnd 12 16 = some _ from rfl)
                refine sp_X12_count hB670 hR0 (fun x684 y689 I685 J686 hB687 p688 => ?_)
                have hh690 := Hid.i p688
                clear p688
                have f691 : Fr pT I668 I685 := (Hid.o hh690).2.1
                have f692 : Fr (pW v1.toInt) I I685 := Fr.tr f675 f691 (fun _ _ => trivial)
                have m693 : PMp I668 I685 := (PMp.mk (Hid.o hh690).2.2.1 (Hid.o hh690).2.2.2.1)
                have wr694 := Or.imp (fun z => z.2) (fun z => And.intro z.1 z.2.1) (Hid.o hh690).2.2.2.2
                have q695 : (0 : Int32).toInt = 0 := rfl
                have q696 : (99 : Int32).toInt = 99 := rfl
                have b697 := Bd.o hB687 (show isO 112 97 12 = true from rfl) (show bnd 12 12 = some _ from rfl)
                have b698 := Bd.o hB687 (show isO 112 97 12 = true from rfl) (show bnd 12 14 = some _ from rfl)
                have b699 := Bd.o hB687 (show isO 112 97 12 = true from rfl) (show bnd 12 16 = some _ from rfl)
                have i700 := i32 x684
                have e701 : ((v1 + 6) : Int32).toInt = (v1.toInt) + (6) := ti_add rfl rfl (by omega)
                refine ⟨vp_of (a := (v1.toInt + 6)) e701 (by omega) (by omega), ?_⟩
                have hB702 : Bd (uI I685 102 (Int32.toNatClampNeg (v1 + 6)) x684) := Bd.cnew hB687 (show ((v1 + 6) : Int32).toInt = (v1.toInt + 6) from e701) (show (x684 : Int32).toInt = x684.toInt from rfl) (by omega) (by omega) (by omega) 
                have f703 : Fr (pW v1.toInt) I (uI I685 102 (Int32.toNatClampNeg (v1 + 6)) x684) := Fr.w f692 (show ((v1 + 6) : Int32).toInt = (v1.toInt + 6) from e701) (by omega) (fun j hj hp => by unfold pW at hp; omega)
                have e704 : (((uI I685 102 (Int32.toNatClampNeg (v1 + 6)) x684) 102 (Int32.toNatClampNeg (v1 + 1))) : Int32).toInt = x550.toInt := Eq.trans (congrArg Int32.toInt (Eq.trans (Eq.trans (Eq.trans (Eq.trans (Eq.trans (Eq.trans (rd_k (fun z => by have z1 := tn_of (show ((v1 + 1) : Int32).toInt = (v1.toInt + 1) from e570) (by omega); have z2 := tn_of (show ((v1 + 6) : Int32).toInt = (v1.toInt + 6) from e701) (by omega); omega)) (f691.1 (Int32.toNatClampNeg (v1 + 1)) trivial)) (f674.1 (Int32.toNatClampNeg (v1 + 1)) trivial)) (f659.1 (Int32.toNatClampNeg (v1 + 1)) trivial)) (f599.1 (Int32.toNatClampNeg (v1 + 1)) trivial)) (rd_k (fun z => by have z1 := tn_of (show ((v1 + 1) : Int32).toInt = (v1.toInt + 1) from e570) (by omega); have z2 := tn_of (show ((v1 + 7) : Int32).toInt = (v1.toInt + 7) from e588) (by omega); omega))) rd_eq)) rfl
                have fl705 : (((uI I685 102 (Int32.toNatClampNeg (v1 + 6)) x684) 102 (Int32.toNatClampNeg (v1 + 1))) : Int32).toInt = x550.toInt := e704
                have e706 : (((uI I685 102 (Int32.toNatClampNeg (v1 + 6)) x684) 102 (Int32.toNatClampNeg (v1 + 5))) : Int32).toInt = x1.toInt := Eq.trans (congrArg Int32.toInt (Eq.trans (Eq.trans (Eq.trans (Eq.trans (Eq.trans (Eq.trans (Eq.trans (Eq.trans (rd_k (fun z => by have z1 := tn_of (show ((v1 + 5) : Int32).toInt = (v1.toInt + 5) from e34) (by omega); have z2 := tn_of (show ((v1 + 6) : Int32).toInt = (v1.toInt + 6) from e701) (by omega); omega)) (f691.1 (Int32.toNatClampNeg (v1 + 5)) trivial)) (f674.1 (Int32.toNatClampNeg (v1 + 5)) trivial)) (f659.1 (Int32.toNatClampNeg (v1 + 5)) trivial)) (f599.1 (Int32.toNatClampNeg (v1 + 5)) trivial)) (rd_k (fun z => by have z1 := tn_of (show ((v1 + 5) : Int32).toInt = (v1.toInt + 5) from e34) (by omega); have z2 := tn_of (show ((v1 + 7) : Int32).toInt = (v1.toInt + 7) from e588) (by omega); omega))) (rd_k (fun z => by have z1 := tn_of (show ((v1 + 5) : Int32).toInt = (v1.toInt + 5) from e34) (by omega); have z2 := tn_of (show ((v1 + 1) : Int32).toInt = (v1.toInt + 1) from e570) (by omega); omega))) (f557.1 (Int32.toNatClampNeg (v1 + 5)) trivial)) rd_eq)) rfl
                have fl707 : (((uI I685 102 (Int32.toNatClampNeg (v1 + 6)) x684) 102 (Int32.toNatClampNeg (v1 + 5))) : Int32).toInt = x1.toInt := e706
                have e708 : (((uI I685 102 (Int32.toNatClampNeg (v1 + 6)) x684) 97 12) : Int32).toInt = (I685 97 12).toInt := Eq.trans (congrArg Int32.toInt (rd_ne (by first | decide | omega))) rfl
                have fl709 : (((uI I685 102 (Int32.toNatClampNeg (v1 + 6)) x684) 97 12) : Int32).toInt = (I685 97 12).toInt := e708
                exact hQ _ _ _ _ hB702 ⟨(Eq.trans (Eq.trans (Eq.trans (Eq.trans (Eq.trans (Eq.trans (Eq.trans (Eq.trans (Eq.trans (Eq.trans (rd_ne (by first | decide | omega)) (Hid.o hh690).1) (Hid.o hh673).1) (Hid.o hh658).2.1) (Hid.o hh598).2.1) (rd_ne (by first | decide | omega))) (rd_ne (by first | decide | omega))) (Hid.o hh556).1) (rd_ne (by first | decide | omega))) (Hid.o hh20).1) (Hid.o hh7).2.1), f703, (PMp.o (PMp.tr (PMp.tr (PMp.tr (PMp.tr (PMp.o (PMp.o (PMp.tr (PMp.o (PMp.tr (PMp.tr (PMp.refl I) m10) m23) (show ¬ (97 : Nat) = 102 by decide)) m559) (show ¬ (97 : Nat) = 102 by decide)) (show ¬ (97 : Nat) = 102 by decide)) m601) m661) m676) m693) (show ¬ (97 : Nat) = 102 by decide)), (fun hz => by have op0 := Or.resolve_left (Hid.o hh556).2.2.2.2 (fun z => by have b := PMp.bad (PMp.o (PMp.tr (PMp.tr (PMp.tr (PMp.tr (PMp.o (PMp.o (PMp.refl I551) (show ¬ (97 : Nat) = 102 by decide)) (show ¬ (97 : Nat) = 102 by decide)) m601) m661) m676) m693) (show ¬ (97 : Nat) = 102 by decide)) hz; omega); have op1 := Or.resolve_left (Hid.o hh690).2.2.2.2 (fun z => by have b := PMp.bad (PMp.o (PMp.refl I685) (show ¬ (97 : Nat) = 102 by decide)) hz; omega); omega)⟩
              · skip
                have d710 : ((x651.toInt) : Int) = (0) := ci_eq rfl rfl c665
                refine sp_X12_isSign hB654 hR0 (fun x711 y716 I712 J713 hB714 p715 => ?_)
                intro o717
                have hh718 := Hid.i p715
                clear p715
                have f719 : Fr pT I652 I712 := (Hid.o hh718).2.2.2.2.1
                have f720 : Fr (pW v1.toInt) I I712 := Fr.tr f660 f719 (fun _ _ => trivial)
                have m721 : PMp I652 I712 := (PMp.keep (Hid.o hh718).1 (Hid.o hh718).2.2.1 (Hid.o hh718).2.2.2.1)
                have q722 : (61 : Int32).toInt = 61 := rfl
                have e723 : ((I652 97 14) : Int32).toInt = (I551 97 14).toInt := Eq.trans (congrArg Int32.toInt (Eq.trans (Eq.trans (Eq.trans (Hid.o hh658).2.2.1 (Hid.o hh598).2.2.1) (rd_ne (by first | decide | omega))) (rd_ne (by first | decide | omega)))) rfl
                have i724 := i32 x711
                refine ⟨fun c725 => ?_, fun c725 => ?_⟩
                · skip
                  have d726 : ((x711.toInt) : Int) = (0) := ci_eq rfl rfl c725
                  refine sp_X12_must hB714 hR0 (fun x727 y732 I728 J729 hB730 p731 => ?_)
                  have hh733 := Hid.i p731
                  clear p731
                  have f734 : Fr pT I712 I728 := (Hid.o hh733).2.1
                  have f735 : Fr (pW v1.toInt) I I728 := Fr.tr f720 f734 (fun _ _ => trivial)
                  have m736 : PMp I712 I728 := (PMp.mk (Hid.o hh733).2.2.1 (Hid.o hh733).2.2.2.1)
                  have q737 : (0 : Int32).toInt = 0 := rfl
                  have e738 : ((I712 97 12) : Int32).toInt = (I551 97 12).toInt := Eq.trans (congrArg Int32.toInt (Eq.trans (Eq.trans (Eq.trans (Eq.trans (Hid.o hh718).1 (Hid.o hh658).1) (Hid.o hh598).1) (rd_ne (by first | decide | omega))) (rd_ne (by first | decide | omega)))) rfl
                  have e739 : ((I712 97 14) : Int32).toInt = (I551 97 14).toInt := Eq.trans (congrArg Int32.toInt (Eq.trans (Eq.trans (Eq.trans (Eq.trans (Hid.o hh718).2.2.1 (Hid.o hh658).2.2.1) (Hid.o hh598).2.2.1) (rd_ne (by first | decide | omega))) (rd_ne (by first | decide | omega)))) rfl
                  have e740 : ((I712 97 16) : Int32).toInt = (I551 97 16).toInt := Eq.trans (congrArg Int32.toInt (Eq.trans (Eq.trans (Eq.trans (Eq.trans (Hid.o hh718).2.2.2.1 (Hid.o hh658).2.2.2.1) (Hid.o hh598).2.2.2.1) (rd_ne (by first | decide | omega))) (rd_ne (by first | decide | omega)))) rfl
                  have b741 := Bd.o hB730 (show isO 112 97 12 = true from rfl) (show bnd 12 12 = some _ from rfl)
                  have b742 := Bd.o hB730 (show isO 112 97 12 = true from rfl) (show bnd 12 14 = some _ from rfl)
                  have b743 := Bd.o hB730 (show isO 112 97 12 = true from rfl) (show bnd 12 16 = some _ from rfl)
                  refine sp_X12_count hB730 hR0 (fun x744 y749 I745 J746 hB747 p748 => ?_)
                  have hh750 := Hid.i p748
                  clear p748
                  have f751 : Fr pT I728 I745 := (Hid.o hh750).2.1
                  have f752 : Fr (pW v1.toInt) I I745 := Fr.tr f735 f751 (fun _ _ => trivial)
                  have m753 : PMp I728 I745 := (PMp.mk (Hid.o hh750).2.2.1 (Hid.o hh750).2.2.2.1)
                  have wr754 := Or.imp (fun z => z.2) (fun z => And.intro z.1 z.2.1) (Hid.o hh750).2.2.2.2
                  have q755 : (0 : Int32).toInt = 0 := rfl
                  have q756 : (99 : Int32).toInt = 99 := rfl
                  have b757 := Bd.o hB747 (show isO 112 97 12 = true from rfl) (show bnd 12 12 = some _ from rfl)
                  have b758 := Bd.o hB747 (show isO 112 97 12 = true from rfl) (show bnd 12 14 = some _ from rfl)
                  have b759 := Bd.o hB747 (show isO 112 97 12 = true from rfl) (show bnd 12 16 = some _ from rfl)
                  have i760 := i32 x744
                  have e761 : ((v1 + 6) : Int32).toInt = (v1.toInt) + (6) := ti_add rfl rfl (by omega)
                  refine ⟨vp_of (a := (v1.toInt + 6)) e761 (by omega) (by omega), ?_⟩
                  have hB762 : Bd (uI I745 102 (Int32.toNatClampNeg (v1 + 6)) x744) := Bd.cnew hB747 (show ((v1 + 6) : Int32).toInt = (v1.toInt + 6) from e761) (show (x744 : Int32).toInt = x744.toInt from rfl) (by omega) (by omega) (by omega) 
                  have f763 : Fr (pW v1.toInt) I (uI I745 102 (Int32.toNatClampNeg (v1 + 6)) x744) := Fr.w f752 (show ((v1 + 6) : Int32).toInt = (v1.toInt + 6) from e761) (by omega) (fun j hj hp => by unfold pW at hp; omega)
                  have e764 : (((uI I745 102 (Int32.toNatClampNeg (v1 + 6)) x744) 102 (Int32.toNatClampNeg (v1 + 1))) : Int32).toInt = x550.toInt := Eq.trans (congrArg Int32.toInt (Eq.trans (Eq.trans (Eq.trans (Eq.trans (Eq.trans (Eq.trans (Eq.trans (rd_k (fun z => by have z1 := tn_of (show ((v1 + 1) : Int32).toInt = (v1.toInt + 1) from e570) (by omega); have z2 := tn_of (show ((v1 + 6) : Int32).toInt = (v1.toInt + 6) from e761) (by omega); omega)) (f751.1 (Int32.toNatClampNeg (v1 + 1)) trivial)) (f734.1 (Int32.toNatClampNeg (v1 + 1)) trivial)) (f719.1 (Int32.toNatClampNeg (v1 + 1)) trivial)) (f659.1 (Int32.toNatClampNeg (v1 + 1)) trivial)) (f599.1 (Int32.toNatClampNeg (v1 + 1)) trivial)) (rd_k (fun z => by have z1 := tn_of (show ((v1 + 1) : Int32).toInt = (v1.toInt + 1) from e570) (by omega); have z2 := tn_of (show ((v1 + 7) : Int32).toInt = (v1.toInt + 7) from e588) (by omega); omega))) rd_eq)) rfl
                  have fl765 : (((uI I745 102 (Int32.toNatClampNeg (v1 + 6)) x744) 102 (Int32.toNatClampNeg (v1 + 1))) : Int32).toInt = x550.toInt := e764
                  have e766 : (((uI I745 102 (Int32.toNatClampNeg (v1 + 6)) x744) 102 (Int32.toNatClampNeg (v1 + 5))) : Int32).toInt = x1.toInt := Eq.trans (congrArg Int32.toInt (Eq.trans (Eq.trans (Eq.trans (Eq.trans (Eq.trans (Eq.trans (Eq.trans (Eq.trans (Eq.trans (rd_k (fun z => by have z1 := tn_of (show ((v1 + 5) : Int32).toInt = (v1.toInt + 5) from e34) (by omega); have z2 := tn_of (show ((v1 + 6) : Int32).toInt = (v1.toInt + 6) from e761) (by omega); omega)) (f751.1 (Int32.toNatClampNeg (v1 + 5)) trivial)) (f734.1 (Int32.toNatClampNeg (v1 + 5)) trivial)) (f719.1 (Int32.toNatClampNeg (v1 + 5)) trivial)) (f659.1 (Int32.toNatClampNeg (v1 + 5)) trivial)) (f599.1 (Int32.toNatClampNeg (v1 + 5)) trivial)) (rd_k (fun z => by have z1 := tn_of (show ((v1 + 5) : Int32).toInt = (v1.toInt + 5) from e34) (by omega); have z2 := tn_of (show ((v1 + 7) : Int32).toInt = (v1.toInt + 7) from e588) (by omega); omega))) (rd_k (fun z => by have z1 := tn_of (show ((v1 + 5) : Int32).toInt = (v1.toInt + 5) from e34) (by omega); have z2 := tn_of (show ((v1 + 1) : Int32).toInt = (v1.toInt + 1) from e570) (by omega); omega))) (f557.1 (Int32.toNatClampNeg (v1 + 5)) trivial)) rd_eq)) rfl
                  have fl767 : (((uI I745 102 (Int32.toNatClampNeg (v1 + 6)) x744) 102 (Int32.toNatClampNeg (v1 + 5))) : Int32).toInt = x1.toInt := e766
                  have e768 : (((uI I745 102 (Int32.toNatClampNeg (v1 + 6)) x744) 97 12) : Int32).toInt = (I745 97 12).toInt := Eq.trans (congrArg Int32.toInt (rd_ne (by first | decide | omega))) rfl
                  have fl769 : (((uI I745 102 (Int32.toNatClampNeg (v1 + 6)) x744) 97 12) : Int32).toInt = (I745 97 12).toInt := e768
                  exact hQ _ _ _ _ hB762 ⟨(Eq.trans (Eq.trans (Eq.trans (Eq.trans (Eq.trans (Eq.trans (Eq.trans (Eq.trans (Eq.trans (Eq.trans (Eq.trans (rd_ne (by first | decide | omega)) (Hid.o hh750).1) (Hid.o hh733).1) (Hid.o hh718).2.1) (Hid.o hh658).2.1) (Hid.o hh598).2.1) (rd_ne (by first | decide | omega))) (rd_ne (by first | decide | omega))) (Hid.o hh556).1) (rd_ne (by first | decide | omega))) (Hid.o hh20).1) (Hid.o hh7).2.1), f763, (PMp.o (PMp.tr (PMp.tr (PMp.tr (PMp.tr (PMp.tr (PMp.o (PMp.o (PMp.tr (PMp.o (PMp.tr (PMp.tr (PMp.refl I) m10) m23) (show ¬ (97 : Nat) = 102 by decide)) m559) (show ¬ (97 : Nat) = 102 by decide)) (show ¬ (97 : Nat) = 102 by decide)) m601) m661) m721) m736) m753) (show ¬ (97 : Nat) = 102 by decide)), (fun hz => by have op0 := Or.resolve_left (Hid.o hh556).2.2.2.2 (fun z => by have b := PMp.bad (PMp.o (PMp.tr (PMp.tr (PMp.tr (PMp.tr (PMp.tr (PMp.o (PMp.o (PMp.refl I551) (show ¬ (97 : Nat) = 102 by decide)) (show ¬ (97 : Nat) = 102 by decide)) m601) m661) m721) m736) m753) (show ¬ (97 : Nat) = 102 by decide)) hz; omega); have op1 := Or.resolve_left (Hid.o hh750).2.2.2.2 (fun z => by have b := PMp.bad (PMp.o (PMp.refl I745) (show ¬ (97 : Nat) = 102 by decide)) hz; omega); omega)⟩
                · skip
                  have d770 : ¬ ((x711.toInt) : Int) = (0) := ci_ne rfl rfl c725
                  refine sp_X12_must hB714 hR0 (fun x771 y776 I772 J773 hB774 p775 => ?_)
                  have hh777 := Hid.i p775
                  clear p775
                  have f778 : Fr pT I712 I772 := (Hid.o hh777).2.1
                  have f779 : Fr (pW v1.toInt) I I772 := Fr.tr f720 f778 (fun _ _ => trivial)
                  have m780 : PMp I712 I772 := (PMp.mk (Hid.o hh777).2.2.1 (Hid.o hh777).2.2.2.1)
                  have q781 : (1 : Int32).toInt = 1 := rfl
                  have e782 : ((I712 97 12) : Int32).toInt = (I551 97 12).toInt := Eq.trans (congrArg Int32.toInt (Eq.trans (Eq.trans (Eq.trans (Eq.trans (Hid.o hh718).1 (Hid.o hh658).1) (Hid.o hh598).1) (rd_ne (by first | decide | omega))) (rd_ne (by first | decide | omega)))) rfl
                  have e783 : ((I712 97 14) : Int32).toInt = (I551 97 14).toInt := Eq.trans (congrArg Int32.toInt (Eq.trans (Eq.trans (Eq.trans (Eq.trans (Hid.o hh718).2.2.1 (Hid.o hh658).2.2.1) (Hid.o hh598).2.2.1) (rd_ne (by first | decide | omega))) (rd_ne (by first | decide | omega)))) rfl
                  have e784 : ((I712 97 16) : Int32).toInt = (I551 97 16).toInt := Eq.trans (congrArg Int32.toInt (Eq.trans (Eq.trans (Eq.trans (Eq.trans (Hid.o hh718).2.2.2.1 (Hid.o hh658).2.2.2.1) (Hid.o hh598).2.2.2.1) (rd_ne (by first | decide | omega))) (rd_ne (by first | decide | omega)))) rfl
                  have b785 := Bd.o hB774 (show isO 112 97 12 = true from rfl) (show bnd 12 12 = some _ from rfl)
                  have b786 := Bd.o hB774 (show isO 112 97 12 = true from rfl) (show bnd 12 14 = some _ from rfl)
                  have b787 := Bd.o hB774 (show isO 112 97 12 = true from rfl) (show bnd 12 16 = some _ from rfl)
                  refine sp_X12_count hB774 hR0 (fun x788 y793 I789 J790 hB791 p792 => ?_)
                  have hh794 := Hid.i p792
                  clear p792
                  have f795 : Fr pT I772 I789 := (Hid.o hh794).2.1
                  have f796 : Fr (pW v1.toInt) I I789 := Fr.tr f779 f795 (fun _ _ => trivial)
                  have m797 : PMp I772 I789 := (PMp.mk (Hid.o hh794).2.2.1 (Hid.o hh794).2.2.2.1)
                  have wr798 := Or.imp (fun z => z.2) (fun z => And.intro z.1 z.2.1) (Hid.o hh794).2.2.2.2
                  have q799 : (0 : Int32).toInt = 0 := rfl
                  have q800 : (99 : Int32).toInt = 99 := rfl
                  have b801 := Bd.o hB791 (show isO 112 97 12 = true from rfl) (show bnd 12 12 = some _ from rfl)
                  have b802 := Bd.o hB791 (show isO 112 97 12 = true from rfl) (show bnd 12 14 = some _ from rfl)
                  have b803 := Bd.o hB791 (show isO 112 97 12 = true from rfl) (show bnd 12 16 = some _ from rfl)
                  have i804 := i32 x788
                  have e805 : ((v1 + 6) : Int32).toInt = (v1.toInt) + (6) := ti_add rfl rfl (by omega)
                  refine ⟨vp_of (a := (v1.toInt + 6)) e805 (by omega) (by omega), ?_⟩
                  have hB806 : Bd (uI I789 102 (Int32.toNatClampNeg (v1 + 6)) x788) := Bd.cnew hB791 (show ((v1 + 6) : Int32).toInt = (v1.toInt + 6) from e805) (show (x788 : Int32).toInt = x788.toInt from rfl) (by omega) (by omega) (by omega) 
                  have f807 : Fr (pW v1.toInt) I (uI I789 102 (Int32.toNatClampNeg (v1 + 6)) x788) := Fr.w f796 (show ((v1 + 6) : Int32).toInt = (v1.toInt + 6) from e805) (by omega) (fun j hj hp => by unfold pW at hp; omega)
                  have e808 : (((uI I789 102 (Int32.toNatClampNeg (v1 + 6)) x788) 102 (Int32.toNatClampNeg (v1 + 1))) : Int32).toInt = x550.toInt := Eq.trans (congrArg Int32.toInt (Eq.trans (Eq.trans (Eq.trans (Eq.trans (Eq.trans (Eq.trans (Eq.trans (rd_k (fun z => by have z1 := tn_of (show ((v1 + 1) : Int32).toInt = (v1.toInt + 1) from e570) (by omega); have z2 := tn_of (show ((v1 + 6) : Int32).toInt = (v1.toInt + 6) from e805) (by omega); omega)) (f795.1 (Int32.toNatClampNeg (v1 + 1)) trivial)) (f778.1 (Int32.toNatClampNeg (v1 + 1)) trivial)) (f719.1 (Int32.toNatClampNeg (v1 + 1)) trivial)) (f659.1 (Int32.toNatClampNeg (v1 + 1)) trivial)) (f599.1 (Int32.toNatClampNeg (v1 + 1)) trivial)) (rd_k (fun z => by have z1 := tn_of (show ((v1 + 1) : Int32).toInt = (v1.toInt + 1) from e570) (by omega); have z2 := tn_of (show ((v1 + 7) : Int32).toInt = (v1.toInt + 7) from e588) (by omega); omega))) rd_eq)) rfl
                  have fl809 : (((uI I789 102 (Int32.toNatClampNeg (v1 + 6)) x788) 102 (Int32.toNatClampNeg (v1 + 1))) : Int32).toInt = x550.toInt := e808
                  have e810 : (((uI I789 102 (Int32.toNatClampNeg (v1 + 6)) x788) 102 (Int32.toNatClampNeg (v1 + 5))) : Int32).toInt = x1.toInt := Eq.trans (congrArg Int32.toInt (Eq.trans (Eq.trans (Eq.trans (Eq.trans (Eq.trans (Eq.trans (Eq.trans (Eq.trans (Eq.trans (rd_k (fun z => by have z1 := tn_of (show ((v1 + 5) : Int32).toInt = (v1.toInt + 5) from e34) (by omega); have z2 := tn_of (show ((v1 + 6) : Int32).toInt = (v1.toInt + 6) from e805) (by omega); omega)) (f795.1 (Int32.toNatClampNeg (v1 + 5)) trivial)) (f778.1 (Int32.toNatClampNeg (v1 + 5)) trivial)) (f719.1 (Int32.toNatClampNeg (v1 + 5)) trivial)) (f659.1 (Int32.toNatClampNeg (v1 + 5)) trivial)) (f599.1 (Int32.toNatClampNeg (v1 + 5)) trivial)) (rd_k (fun z => by have z1 := tn_of (show ((v1 + 5) : Int32).toInt = (v1.toInt + 5) from e34) (by omega); have z2 := tn_of (show ((v1 + 7) : Int32).toInt = (v1.toInt + 7) from e588) (by omega); omega))) (rd_k (fun z => by have z1 := tn_of (show ((v1 + 5) : Int32).toInt = (v1.toInt + 5) from e34) (by omega); have z2 := tn_of (show ((v1 + 1) : Int32).toInt = (v1.toInt + 1) from e570) (by omega); omega))) (f557.1 (Int32.toNatClampNeg (v1 + 5)) trivial)) rd_eq)) rfl
                  have fl811 : (((uI I789 102 (Int32.toNatClampNeg (v1 + 6)) x788) 102 (Int32.toNatClampNeg (v1 + 5))) : Int32).toInt = x1.toInt := e810
                  have e812 : (((uI I789 102 (Int32.toNatClampNeg (v1 + 6)) x788) 97 12) : Int32).toInt = (I789 97 12).toInt := Eq.trans (congrArg Int32.toInt (rd_ne (by first | decide | omega))) rfl
                  have fl813 : (((uI I789 102 (Int32.toNatClampNeg (v1 + 6)) x788) 97 12) : Int32).toInt = (I789 97 12).toInt := e812
                  exact hQ _ _ _ _ hB806 ⟨(Eq.trans (Eq.trans (Eq.trans (Eq.trans (Eq.trans (Eq.trans (Eq.trans (Eq.trans (Eq.trans (Eq.trans (Eq.trans (rd_ne (by first | decide | omega)) (Hid.o hh794).1) (Hid.o hh777).1) (Hid.o hh718).2.1) (Hid.o hh658).2.1) (Hid.o hh598).2.1) (rd_ne (by first | decide | omega))) (rd_ne (by first | decide | omega))) (Hid.o hh556).1) (rd_ne (by first | decide | omega))) (Hid.o hh20).1) (Hid.o hh7).2.1), f807, (PMp.o (PMp.tr (PMp.tr (PMp.tr (PMp.tr (PMp.tr (PMp.o (PMp.o (PMp.tr (PMp.o (PMp.tr (PMp.tr (PMp.refl I) m10) m23) (show ¬ (97 : Nat) = 102 by decide)) m559) (show ¬ (97 : Nat) = 102 by decide)) (show ¬ (97 : Nat) = 102 by decide)) m601) m661) m721) m780) m797) (show ¬ (97 : Nat) = 102 by decide)), (fun hz => by have op0 := Or.resolve_left (Hid.o hh556).2.2.2.2 (fun z => by have b := PMp.bad (PMp.o (PMp.tr (PMp.tr (PMp.tr (PMp.tr (PMp.tr (PMp.o (PMp.o (PMp.refl I551) (show ¬ (97 : Nat) = 102 by decide)) (show ¬ (97 : Nat) = 102 by decide)) m601) m661) m721) m780) m797) (show ¬ (97 : Nat) = 102 by decide)) hz; omega); have op1 := Or.resolve_left (Hid.o hh794).2.2.2.2 (fun z => by have b := PMp.bad (PMp.o (PMp.refl I789) (show ¬ (97 : Nat) = 102 by decide)) hz; omega); omega)⟩
          · skip
            have e814 : (((uI I551 102 (Int32.toNatClampNeg (v1 + 1)) x550) 97 14) : Int32).toInt = (I551 97 14).toInt := Eq.trans (congrArg Int32.toInt (rd_ne (by first | decide | omega))) rfl
            have d815 : (((I551 97 14).toInt) : Int) = (3) := ci_eq e814 rfl c585
            have e816 : ((v1 + 7) : Int32).toInt = (v1.toInt) + (7) := ti_add rfl rfl (by omega)
            refine ⟨vp_of (a := (v1.toInt + 7)) e816 (by omega) (by omega), ?_⟩
            have e818 : (((uI I551 102 (Int32.toNatClampNeg (v1 + 1)) x550) 97 17) : Int32).toInt = (I551 97 17).toInt := Eq.trans (congrArg Int32.toInt (rd_ne (by first | decide | omega))) rfl
            have hB817 : Bd (uI (uI I551 102 (Int32.toNatClampNeg (v1 + 1)) x550) 102 (Int32.toNatClampNeg (v1 + 7)) ((uI I551 102 (Int32.toNatClampNeg (v1 + 1)) x550) 97 17)) := Bd.cnew hB571 (show ((v1 + 7) : Int32).toInt = (v1.toInt + 7) from e816) (show (((uI I551 102 (Int32.toNatClampNeg (v1 + 1)) x550) 97 17) : Int32).toInt = (I551 97 17).toInt from e818) (by omega) (by omega) (by omega) 
            have f819 : Fr (pW v1.toInt) I (uI (uI I551 102 (Int32.toNatClampNeg (v1 + 1)) x550) 102 (Int32.toNatClampNeg (v1 + 7)) ((uI I551 102 (Int32.toNatClampNeg (v1 + 1)) x550) 97 17)) := Fr.w f572 (show ((v1 + 7) : Int32).toInt = (v1.toInt + 7) from e816) (by omega) (fun j hj hp => by unfold pW at hp; omega)
            refine sp_X12_isSign hB817 hR0 (fun x820 y825 I821 J822 hB823 p824 => ?_)
            intro o826
            have hh827 := Hid.i p824
            clear p824
            have f828 : Fr pT (uI (uI I551 102 (Int32.toNatClampNeg (v1 + 1)) x550) 102 (Int32.toNatClampNeg (v1 + 7)) ((uI I551 102 (Int32.toNatClampNeg (v1 + 1)) x550) 97 17)) I821 := (Hid.o hh827).2.2.2.2.1
            have f829 : Fr (pW v1.toInt) I I821 := Fr.tr f819 f828 (fun _ _ => trivial)
            have m830 : PMp (uI (uI I551 102 (Int32.toNatClampNeg (v1 + 1)) x550) 102 (Int32.toNatClampNeg (v1 + 7)) ((uI I551 102 (Int32.toNatClampNeg (v1 + 1)) x550) 97 17)) I821 := (PMp.keep (Hid.o hh827).1 (Hid.o hh827).2.2.1 (Hid.o hh827).2.2.2.1)
            have q831 : (60 : Int32).toInt = 60 := rfl
            have e832 : (((uI (uI I551 102 (Int32.toNatClampNeg (v1 + 1)) x550) 102 (Int32.toNatClampNeg (v1 + 7)) ((uI I551 102 (Int32.toNatClampNeg (v1 + 1)) x550) 97 17)) 97 14) : Int32).toInt = (I551 97 14).toInt := Eq.trans (congrArg Int32.toInt (Eq.trans (rd_ne (by first | decide | omega)) (rd_ne (by first | decide | omega)))) rfl
            have i833 := i32 x820
            refine ⟨fun c834 => ?_, fun c834 => ?_⟩
            · skip
              have d835 : ¬ ((x820.toInt) : Int) = (0) := ci_ne rfl rfl c834
              refine sp_X12_must hB823 hR0 (fun x836 y841 I837 J838 hB839 p840 => ?_)
              have hh842 := Hid.i p840
              clear p840
              have f843 : Fr pT I821 I837 := (Hid.o hh842).2.1
              have f844 : Fr (pW v1.toInt) I I837 := Fr.tr f829 f843 (fun _ _ => trivial)
              have m845 : PMp I821 I837 := (PMp.mk (Hid.o hh842).2.2.1 (Hid.o hh842).2.2.2.1)
              have q846 : (1 : Int32).toInt = 1 := rfl
              have e847 : ((I821 97 12) : Int32).toInt = (I551 97 12).toInt := Eq.trans (congrArg Int32.toInt (Eq.trans (Eq.trans (Hid.o hh827).1 (rd_ne (by first | decide | omega))) (rd_ne (by first | decide | omega)))) rfl
              have e848 : ((I821 97 14) : Int32).toInt = (I551 97 14).toInt := Eq.trans (congrArg Int32.toInt (Eq.trans (Eq.trans (Hid.o hh827).2.2.1 (rd_ne (by first | decide | omega))) (rd_ne (by first | decide | omega)))) rfl
              have e849 : ((I821 97 16) : Int32).toInt = (I551 97 16).toInt := Eq.trans (congrArg Int32.toInt (Eq.trans (Eq.trans (Hid.o hh827).2.2.2.1 (rd_ne (by first | decide | omega))) (rd_ne (by first | decide | omega)))) rfl
              have b850 := Bd.o hB839 (show isO 112 97 12 = true from rfl) (show bnd 12 12 = some _ from rfl)
              have b851 := Bd.o hB839 (show isO 112 97 12 = true from rfl) (show bnd 12 14 = some _ from rfl)
              have b852 := Bd.o hB839 (show isO 112 97 12 = true from rfl) (show bnd 12 16 = some _ from rfl)
              refine sp_X12_count hB839 hR0 (fun x853 y858 I854 J855 hB856 p857 => ?_)
              have hh859 := Hid.i p857
              clear p857
              have f860 : Fr pT I837 I854 := (Hid.o hh859).2.1
              have f861 : Fr (pW v1.toInt) I I854 := Fr.tr f844 f860 (fun _ _ => trivial)
              have m862 : PMp I837 I854 := (PMp.mk (Hid.o hh859).2.2.1 (Hid.o hh859).2.2.2.1)
              have wr863 := Or.imp (fun z => z.2) (fun z => And.intro z.1 z.2.1) (Hid.o hh859).2.2.2.2
              have q864 : (0 : Int32).toInt = 0 := rfl
              have q865 : (99 : Int32).toInt = 99 := rfl
              have b866 := Bd.o hB856 (show isO 112 97 12 = true from rfl) (show bnd 12 12 = some _ from rfl)
              have b867 := Bd.o hB856 (show isO 112 97 12 = true from rfl) (show bnd 12 14 = some _ from rfl)
              have b868 := Bd.o hB856 (show isO 112 97 12 = true from rfl) (show bnd 12 16 = some _ from rfl)
              have i869 := i32 x853
              have e870 : ((v1 + 6) : Int32).toInt = (v1.toInt) + (6) := ti_add rfl rfl (by omega)
              refine ⟨vp_of (a := (v1.toInt + 6)) e870 (by omega) (by omega), ?_⟩
              have hB871 : Bd (uI I854 102 (Int32.toNatClampNeg (v1 + 6)) x853) := Bd.cnew hB856 (show ((v1 + 6) : Int32).toInt = (v1.toInt + 6) from e870) (show (x853 : Int32).toInt = x853.toInt from rfl) (by omega) (by omega) (by omega) 
              have f872 : Fr (pW v1.toInt) I (uI I854 102 (Int32.toNatClampNeg (v1 + 6)) x853) := Fr.w f861 (show ((v1 + 6) : Int32).toInt = (v1.toInt + 6) from e870) (by omega) (fun j hj hp => by unfold pW at hp; omega)
              have e873 : (((uI I854 102 (Int32.toNatClampNeg (v1 + 6)) x853) 102 (Int32.toNatClampNeg (v1 + 1))) : Int32).toInt = x550.toInt := Eq.trans (congrArg Int32.toInt (Eq.trans (Eq.trans (Eq.trans (Eq.trans (Eq.trans (rd_k (fun z => by have z1 := tn_of (show ((v1 + 1) : Int32).toInt = (v1.toInt + 1) from e570) (by omega); have z2 := tn_of (show ((v1 + 6) : Int32).toInt = (v1.toInt + 6) from e870) (by omega); omega)) (f860.1 (Int32.toNatClampNeg (v1 + 1)) trivial)) (f843.1 (Int32.toNatClampNeg (v1 + 1)) trivial)) (f828.1 (Int32.toNatClampNeg (v1 + 1)) trivial)) (rd_k (fun z => by have z1 := tn_of (show ((v1 + 1) : Int32).toInt = (v1.toInt + 1) from e570) (by omega); have z2 := tn_of (show ((v1 + 7) : Int32).toInt = (v1.toInt + 7) from e816) (by omega); omega))) rd_eq)) rfl
              have fl874 : (((uI I854 102 (Int32.toNatClampNeg (v1 + 6)) x853) 102 (Int32.toNatClampNeg (v1 + 1))) : Int32).toInt = x550.toInt := e873
              have e875 : (((uI I854 102 (Int32.toNatClampNeg (v1 + 6)) x853) 102 (Int32.toNatClampNeg (v1 + 5))) : Int32).toInt = x1.toInt := Eq.trans (congrArg Int32.toInt (Eq.trans (Eq.trans (Eq.trans (Eq.trans (Eq.trans (Eq.trans (Eq.trans (rd_k (fun z => by have z1 := tn_of (show ((v1 + 5) : Int32).toInt = (v1.toInt + 5) from e34) (by omega); have z2 := tn_of (show ((v1 + 6) : Int32).toInt = (v1.toInt + 6) from e870) (by omega); omega)) (f860.1 (Int32.toNatClampNeg (v1 + 5)) trivial)) (f843.1 (Int32.toNatClampNeg (v1 + 5)) trivial)) (f828.1 (Int32.toNatClampNeg (v1 + 5)) trivial)) (rd_k (fun z => by have z1 := tn_of (show ((v1 + 5) : Int32).toInt = (v1.toInt + 5) from e34) (by omega); have z2 := tn_of (show ((v1 + 7) : Int32).toInt = (v1.toInt + 7) from e816) (by omega); omega))) (rd_k (fun z => by have z1 := tn_of (show ((v1 + 5) : Int32).toInt = (v1.toInt + 5) from e34) (by omega); have z2 := tn_of (show ((v1 + 1) : Int32).toInt = (v1.toInt + 1) from e570) (by omega); omega))) (f557.1 (Int32.toNatClampNeg (v1 + 5)) trivial)) rd_eq)) rfl
              have fl876 : (((uI I854 102 (Int32.toNatClampNeg (v1 + 6)) x853) 102 (Int32.toNatClampNeg (v1 + 5))) : Int32).toInt = x1.toInt := e875
              have e877 : (((uI I854 102 (Int32.toNatClampNeg (v1 + 6)) x853) 97 12) : Int32).toInt = (I854 97 12).toInt := Eq.trans (congrArg Int32.toInt (rd_ne (by first | decide | omega))) rfl
              have fl878 : (((uI I854 102 (Int32.toNatClampNeg (v1 + 6)) x853) 97 12) : Int32).toInt = (I854 97 12).toInt := e877
              exact hQ _ _ _ _ hB871 ⟨(Eq.trans (Eq.trans (Eq.trans (Eq.trans (Eq.trans (Eq.trans (Eq.trans (Eq.trans (Eq.trans (rd_ne (by first | decide | omega)) (Hid.o hh859).1) (Hid.o hh842).1) (Hid.o hh827).2.1) (rd_ne (by first | decide | omega))) (rd_ne (by first | decide | omega))) (Hid.o hh556).1) (rd_ne (by first | decide | omega))) (Hid.o hh20).1) (Hid.o hh7).2.1), f872, (PMp.o (PMp.tr (PMp.tr (PMp.tr (PMp.o (PMp.o (PMp.tr (PMp.o (PMp.tr (PMp.tr (PMp.refl I) m10) m23) (show ¬ (97 : Nat) = 102 by decide)) m559) (show ¬ (97 : Nat) = 102 by decide)) (show ¬ (97 : Nat) = 102 by decide)) m830) m845) m862) (show ¬ (97 : Nat) = 102 by decide)), (fun hz => by have op0 := Or.resolve_left (Hid.o hh556).2.2.2.2 (fun z => by have b := PMp.bad (PMp.o (PMp.tr (PMp.tr (PMp.tr (PMp.o (PMp.o (PMp.refl I551) (show ¬ (97 : Nat) = 102 by decide)) (show ¬ (97 : Nat) = 102 by decide)) m830) m845) m862) (show ¬ (97 : Nat) = 102 by decide)) hz; omega); have op1 := Or.resolve_left (Hid.o hh859).2.2.2.2 (fun z => by have b := PMp.bad (PMp.o (PMp.refl I854) (show ¬ (97 : Nat) = 102 by decide)) hz; omega); omega)⟩
            · skip
              have d879 : ((x820.toInt) : Int) = (0) := ci_eq rfl rfl c834
              refine sp_X12_isSign hB823 hR0 (fun x880 y885 I881 J882 hB883 p884 => ?_)
              intro o886
              have hh887 := Hid.i p884
              clear p884
              have f888 : Fr pT I821 I881 := (Hid.o hh887).2.2.2.2.1
              have f889 : Fr (pW v1.toInt) I I881 := Fr.tr f829 f888 (fun _ _ => trivial)
              have m890 : PMp I821 I881 := (PMp.keep (Hid.o hh887).1 (Hid.o hh887).2.2.1 (Hid.o hh887).2.2.2.1)
              have q891 : (62 : Int32).toInt = 62 := rfl
              have e892 : ((I821 97 14) : Int32).toInt = (I551 97 14).toInt := Eq.trans (congrArg Int32.toInt (Eq.trans (Eq.trans (Hid.o hh827).2.2.1 (rd_ne (by first | decide | omega))) (rd_ne (by first | decide | omega)))) rfl
              have i893 := i32 x880
              refine ⟨fun c894 => ?_, fun c894 => ?_⟩
              · skip
                have d895 : ¬ ((x880.toInt) : Int) = (0) := ci_ne rfl rfl c894
                refine sp_X12_must hB883 hR0 (fun x896 y901 I897 J898 hB899 p900 => ?_)
                have hh902 := Hid.i p900
                clear p900
                have f903 : Fr pT I881 I897 := (Hid.o hh902).2.1
                have f904 : Fr (pW v1.toInt) I I897 := Fr.tr f889 f903 (fun _ _ => trivial)
                have m905 : PMp I881 I897 := (PMp.mk (Hid.o hh902).2.2.1 (Hid.o hh902).2.2.2.1)
                have q906 : (1 : Int32).toInt = 1 := rfl
                have e907 : ((I881 97 12) : Int32).toInt = (I551 97 12).toInt := Eq.trans (congrArg Int32.toInt (Eq.trans (Eq.trans (Eq.trans (Hid.o hh887).1 (Hid.o hh827).1) (rd_ne (by first | decide | omega))) (rd_ne (by first | decide | omega)))) rfl
                have e908 : ((I881 97 14) : Int32).toInt = (I551 97 14).toInt := Eq.trans (congrArg Int32.toInt (Eq.trans (Eq.trans (Eq.trans (Hid.o hh887).2.2.1 (Hid.o hh827).2.2.1) (rd_ne (by first | decide | omega))) (rd_ne (by first | decide | omega)))) rfl
                have e909 : ((I881 97 16) : Int32).toInt = (I551 97 16).toInt := Eq.trans (congrArg Int32.toInt (Eq.trans (Eq.trans (Eq.trans (Hid.o hh887).2.2.2.1 (Hid.o hh827).2.2.2.1) (rd_ne (by first | decide | omega))) (rd_ne (by first | decide | omega)))) rfl
                have b910 := Bd.o hB899 (show isO 112 97 12 = true from rfl) (show bnd 12 12 = some _ from rfl)
                have b911 := Bd.o hB899 (show isO 112 97 12 = true from rfl) (show bnd 12 14 = some _ from rfl)
                have b912 := Bd.o hB899 (show isO 112 97 12 = true from rfl) (show bnd 12 16 = some _ from rfl)
                refine sp_X12_count hB899 hR0 (fun x913 y918 I914 J915 hB916 p917 => ?_)
                have hh919 := Hid.i p917
                clear p917
                have f920 : Fr pT I897 I914 := (Hid.o hh919).2.1
                have f921 : Fr (pW v1.toInt) I I914 := Fr.tr f904 f920 (fun _ _ => trivial)
                have m922 : PMp I897 I914 := (PMp.mk (Hid.o hh919).2.2.1 (Hid.o hh919).2.2.2.1)
                have wr923 := Or.imp (fun z => z.2) (fun z => And.intro z.1 z.2.1) (Hid.o hh919).2.2.2.2
                have q924 : (0 : Int32).toInt = 0 := rfl
                have q925 : (99 : Int32).toInt = 99 := rfl
                have b926 := Bd.o hB916 (show isO 112 97 12 = true from rfl) (show bnd 12 12 = some _ from rfl)
                have b927 := Bd.o hB916 (show isO 112 97 12 = true from rfl) (show bnd 12 14 = some _ from rfl)
                have b928 := Bd.o hB916 (show isO 112 97 12 = true from rfl) (show bnd 12 16 = some _ from rfl)
                have i929 := i32 x913
                have e930 : ((v1 + 6) : Int32).toInt = (v1.toInt) + (6) := ti_add rfl rfl (by omega)
                refine ⟨vp_of (a := (v1.toInt + 6)) e930 (by omega) (by omega), ?_⟩
                have hB931 : Bd (uI I914 102 (Int32.toNatClampNeg (v1 + 6)) x913) := Bd.cnew hB916 (show ((v1 + 6) : Int32).toInt = (v1.toInt + 6) from e930) (show (x913 : Int32).toInt = x913.toInt from rfl) (by omega) (by omega) (by omega) 
                have f932 : Fr (pW v1.toInt) I (uI I914 102 (Int32.toNatClampNeg (v1 + 6)) x913) := Fr.w f921 (show ((v1 + 6) : Int32).toInt = (v1.toInt + 6) from e930) (by omega) (fun j hj hp => by unfold pW at hp; omega)
                have e933 : (((uI I914 102 (Int32.toNatClampNeg (v1 + 6)) x913) 102 (Int32.toNatClampNeg (v1 + 1))) : Int32).toInt = x550.toInt := Eq.trans (congrArg Int32.toInt (Eq.trans (Eq.trans (Eq.trans (Eq.trans (Eq.trans (Eq.trans (rd_k (fun z => by have z1 := tn_of (show ((v1 + 1) : Int32).toInt = (v1.toInt + 1) from e570) (by omega); have z2 := tn_of (show ((v1 + 6) : Int32).toInt = (v1.toInt + 6) from e930) (by omega); omega)) (f920.1 (Int32.toNatClampNeg (v1 + 1)) trivial)) (f903.1 (Int32.toNatClampNeg (v1 + 1)) trivial)) (f888.1 (Int32.toNatClampNeg (v1 + 1)) trivial)) (f828.1 (Int32.toNatClampNeg (v1 + 1)) trivial)) (rd_k (fun z => by have z1 := tn_of (show ((v1 + 1) : Int32).toInt = (v1.toInt + 1) from e570) (by omega); have z2 := tn_of (show ((v1 + 7) : Int32).toInt = (v1.toInt + 7) from e816) (by omega); omega))) rd_eq)) rfl
                have fl934 : (((uI I914 102 (Int32.toNatClampNeg (v1 + 6)) x913) 102 (Int32.toNatClampNeg (v1 + 1))) : Int32).toInt = x550.toInt := e933
                have e935 : (((uI I914 102 (Int32.toNatClampNeg (v1 + 6)) x913) 102 (Int32.toNatClampNeg (v1 + 5))) : Int32).toInt = x1.toInt := Eq.trans (congrArg Int32.toInt (Eq.trans (Eq.trans (Eq.trans (Eq.trans (Eq.trans (Eq.trans (Eq.trans (Eq.trans (rd_k (fun z => by have z1 := tn_of (show ((v1 + 5) : Int32).toInt = (v1.toInt + 5) from e34) (by omega); have z2 := tn_of (show ((v1 + 6) : Int32).toInt = (v1.toInt + 6) from e930) (by omega); omega)) (f920.1 (Int32.toNatClampNeg (v1 + 5)) trivial)) (f903.1 (Int32.toNatClampNeg (v1 + 5)) trivial)) (f888.1 (Int32.toNatClampNeg (v1 + 5)) trivial)) (f828.1 (Int32.toNatClampNeg (v1 + 5)) trivial)) (rd_k (fun z => by have z1 := tn_of (show ((v1 + 5) : Int32).toInt = (v1.toInt + 5) from e34) (by omega); have z2 := tn_of (show ((v1 + 7) : Int32).toInt = (v1.toInt + 7) from e816) (by omega); omega))) (rd_k (fun z => by have z1 := tn_of (show ((v1 + 5) : Int32).toInt = (v1.toInt + 5) from e34) (by omega); have z2 := tn_of (show ((v1 + 1) : Int32).toInt = (v1.toInt + 1) from e570) (by omega); omega))) (f557.1 (Int32.toNatClampNeg (v1 + 5)) trivial)) rd_eq)) rfl
                have fl936 : (((uI I914 102 (Int32.toNatClampNeg (v1 + 6)) x913) 102 (Int32.toNatClampNeg (v1 + 5))) : Int32).toInt = x1.toInt := e935
                have e937 : (((uI I914 102 (Int32.toNatClampNeg (v1 + 6)) x913) 97 12) : Int32).toInt = (I914 97 12).toInt := Eq.trans (congrArg Int32.toInt (rd_ne (by first | decide | omega))) rfl
                have fl938 : (((uI I914 102 (Int32.toNatClampNeg (v1 + 6)) x913) 97 12) : Int32).toInt = (I914 97 12).toInt := e937
                exact hQ _ _ _ _ hB931 ⟨(Eq.trans (Eq.trans (Eq.trans (Eq.trans (Eq.trans (Eq.trans (Eq.trans (Eq.trans (Eq.trans (Eq.trans (rd_ne (by first | decide | omega)) (Hid.o hh919).1) (Hid.o hh902).1) (Hid.o hh887).2.1) (Hid.o hh827).2.1) (rd_ne (by first | decide | omega))) (rd_ne (by first | decide | omega))) (Hid.o hh556).1) (rd_ne (by first | decide | omega))) (Hid.o hh20).1) (Hid.o hh7).2.1), f932, (PMp.o (PMp.tr (PMp.tr (PMp.tr (PMp.tr (PMp.o (PMp.o (PMp.tr (PMp.o (PMp.tr (PMp.tr (PMp.refl I) m10) m23) (show ¬ (97 : Nat) = 102 by decide)) m559) (show ¬ (97 : Nat) = 102 by decide)) (show ¬ (97 : Nat) = 102 by decide)) m830) m890) m905) m922) (show ¬ (97 : Nat) = 102 by decide)), (fun hz => by have op0 := Or.resolve_left (Hid.o hh556).2.2.2.2 (fun z => by have b := PMp.bad (PMp.o (PMp.tr (PMp.tr (PMp.tr (PMp.tr (PMp.o (PMp.o (PMp.refl I551) (show ¬ (97 : Nat) = 102 by decide)) (show ¬ (97 : Nat) = 102 by decide)) m830) m890) m905) m922) (show ¬ (97 : Nat) = 102 by decide)) hz; omega); have op1 := Or.resolve_left (Hid.o hh919).2.2.2.2 (fun z => by have b := PMp.bad (PMp.o (PMp.refl I914) (show ¬ (97 : Nat) = 102 by decide)) hz; omega); omega)⟩
              · skip
                have d939 : ((x880.toInt) : Int) = (0) := ci_eq rfl rfl c894
                refine sp_X12_isSign hB883 hR0 (fun x940 y945 I941 J942 hB943 p944 => ?_)
                intro o946
                have hh947 := Hid.i p944
                clear p944
                have f948 : Fr pT I881 I941 := (Hid.o hh947).2.2.2.2.1
                have f949 : Fr (pW v1.toInt) I I941 := Fr.tr f889 f948 (fun _ _ => trivial)
                have m950 : PMp I881 I941 := (PMp.keep (Hid.o hh947).1 (Hid.o hh947).2.2.1 (Hid.o hh947).2.2.2.1)
                have q951 : (61 : Int32).toInt = 61 := rfl
                have e952 : ((I881 97 14) : Int32).toInt = (I551 97 14).toInt := Eq.trans (congrArg Int32.toInt (Eq.trans (Eq.trans (Eq.trans (Hid.o hh887).2.2.1 (Hid.o hh827).2.2.1) (rd_ne (by first | decide | omega))) (rd_ne (by first | decide | omega)))) rfl
                have i953 := i32 x940
                refine ⟨fun c954 => ?_, fun c954 => ?_⟩
                · skip
                  have d955 : ((x940.toInt) : Int) = (0) := ci_eq rfl rfl c954
                  refine sp_X12_must hB943 hR0 (fun x956 y961 I957 J958 hB959 p960 => ?_)
                  have hh962 := Hid.i p960
                  clear p960
                  have f963 : Fr pT I941 I957 := (Hid.o hh962).2.1
                  have f964 : Fr (pW v1.toInt) I I957 := Fr.tr f949 f963 (fun _ _ => trivial)
                  have m965 : PMp I941 I957 := (PMp.mk (Hid.o hh962).2.2.1 (Hid.o hh962).2.2.2.1)
                  have q966 : (0 : Int32).toInt = 0 := rfl
                  have e967 : ((I941 97 12) : Int32).toInt = (I551 97 12).toInt := Eq.trans (congrArg Int32.toInt (Eq.trans (Eq.trans (Eq.trans (Eq.trans (Hid.o hh947).1 (Hid.o hh887).1) (Hid.o hh827).1) (rd_ne (by first | decide | omega))) (rd_ne (by first | decide | omega)))) rfl
                  have e968 : ((I941 97 14) : Int32).toInt = (I551 97 14).toInt := Eq.trans (congrArg Int32.toInt (Eq.trans (Eq.trans (Eq.trans (Eq.trans (Hid.o hh947).2.2.1 (Hid.o hh887).2.2.1) (Hid.o hh827).2.2.1) (rd_ne (by first | decide | omega))) (rd_ne (by first | decide | omega)))) rfl
                  have e969 : ((I941 97 16) : Int32).toInt = (I551 97 16).toInt := Eq.trans (congrArg Int32.toInt (Eq.trans (Eq.trans (Eq.trans (Eq.trans (Hid.o hh947).2.2.2.1 (Hid.o hh887).2.2.2.1) (Hid.o hh827).2.2.2.1) (rd_ne (by first | decide | omega))) (rd_ne (by first | decide | omega)))) rfl
                  have b970 := Bd.o hB959 (show isO 112 97 12 = true from rfl) (show bnd 12 12 = some _ from rfl)
                  have b971 := Bd.o hB959 (show isO 112 97 12 = true from rfl) (show bnd 12 14 = some _ from rfl)
                  have b972 := Bd.o hB959 (show isO 112 97 12 = true from rfl) (show bnd 12 16 = some _ from rfl)
                  refine sp_X12_count hB959 hR0 (fun x973 y978 I974 J975 hB976 p977 => ?_)
                  have hh979 := Hid.i p977
                  clear p977
                  have f980 : Fr pT I957 I974 := (Hid.o hh979).2.1
                  have f981 : Fr (pW v1.toInt) I I974 := Fr.tr f964 f980 (fun _ _ => trivial)
                  have m982 : PMp I957 I974 := (PMp.mk (Hid.o hh979).2.2.1 (Hid.o hh979).2.2.2.1)
                  have wr983 := Or.imp (fun z => z.2) (fun z => And.intro z.1 z.2.1) (Hid.o hh979).2.2.2.2
                  have q984 : (0 : Int32).toInt = 0 := rfl
                  have q985 : (99 : Int32).toInt = 99 := rfl
                  have b986 := Bd.o hB976 (show isO 112 97 12 = true from rfl) (show bnd 12 12 = some _ from rfl)
                  have b987 := Bd.o hB976 (show isO 112 97 12 = true from rfl) (show bnd 12 14 = some _ from rfl)
                  have b988 := Bd.o hB976 (show isO 112 97 12 = true from rfl) (show bnd 12 16 = some _ from rfl)
                  have i989 := i32 x973
                  have e990 : ((v1 + 6) : Int32).toInt = (v1.toInt) + (6) := ti_add rfl rfl (by omega)
                  refine ⟨vp_of (a := (v1.toInt + 6)) e990 (by omega) (by omega), ?_⟩
                  have hB991 : Bd (uI I974 102 (Int32.toNatClampNeg (v1 + 6)) x973) := Bd.cnew hB976 (show ((v1 + 6) : Int32).toInt = (v1.toInt + 6) from e990) (show (x973 : Int32).toInt = x973.toInt from rfl) (by omega) (by omega) (by omega) 
                  have f992 : Fr (pW v1.toInt) I (uI I974 102 (Int32.toNatClampNeg (v1 + 6)) x973) := Fr.w f981 (show ((v1 + 6) : Int32).toInt = (v1.toInt + 6) from e990) (by omega) (fun j hj hp => by unfold pW at hp; omega)
                  have e993 : (((uI I974 102 (Int32.toNatClampNeg (v1 + 6)) x973) 102 (Int32.toNatClampNeg (v1 + 1))) : Int32).toInt = x550.toInt := Eq.trans (congrArg Int32.toInt (Eq.trans (Eq.trans (Eq.trans (Eq.trans (Eq.trans (Eq.trans (Eq.trans (rd_k (fun z => by have z1 := tn_of (show ((v1 + 1) : Int32).toInt = (v1.toInt + 1) from e570) (by omega); have z2 := tn_of (show ((v1 + 6) : Int32).toInt = (v1.toInt + 6) from e990) (by omega); omega)) (f980.1 (Int32.toNatClampNeg (v1 + 1)) trivial)) (f963.1 (Int32.toNatClampNeg (v1 + 1)) trivial)) (f948.1 (Int32.toNatClampNeg (v1 + 1)) trivial)) (f888.1 (Int32.toNatClampNeg (v1 + 1)) trivial)) (f828.1 (Int32.toNatClampNeg (v1 + 1)) trivial)) (rd_k (fun z => by have z1 := tn_of (show ((v1 + 1) : Int32).toInt = (v1.toInt + 1) from e570) (by omega); have z2 := tn_of (show ((v1 + 7) : Int32).toInt = (v1.toInt + 7) from e816) (by omega); omega))) rd_eq)) rfl
                  have fl994 : (((uI I974 102 (Int32.toNatClampNeg (v1 + 6)) x973) 102 (Int32.toNatClampNeg (v1 + 1))) : Int32).toInt = x550.toInt := e993
                  have e995 : (((uI I974 102 (Int32.toNatClampNeg (v1 + 6)) x973) 102 (Int32.toNatClampNeg (v1 + 5))) : Int32).toInt = x1.toInt := Eq.trans (congrArg Int32.toInt (Eq.trans (Eq.trans (Eq.trans (Eq.trans (Eq.trans (Eq.trans (Eq.trans (Eq.trans (Eq.trans (rd_k (fun z => by have z1 := tn_of (show ((v1 + 5) : Int32).toInt = (v1.toInt + 5) from e34) (by omega); have z2 := tn_of (show ((v1 + 6) : Int32).toInt = (v1.toInt + 6) from e990) (by omega); omega)) (f980.1 (Int32.toNatClampNeg (v1 + 5)) trivial)) (f963.1 (Int32.toNatClampNeg (v1 + 5)) trivial)) (f948.1 (Int32.toNatClampNeg (v1 + 5)) trivial)) (f888.1 (Int32.toNatClampNeg (v1 + 5)) trivial)) (f828.1 (Int32.toNatClampNeg (v1 + 5)) trivial)) (rd_k (fun z => by have z1 := tn_of (show ((v1 + 5) : Int32).toInt = (v1.toInt + 5) from e34) (by omega); have z2 := tn_of (show ((v1 + 7) : Int32).toInt = (v1.toInt + 7) from e816) (by omega); omega))) (rd_k (fun z => by have z1 := tn_of (show ((v1 + 5) : Int32).toInt = (v1.toInt + 5) from e34) (by omega); have z2 := tn_of (show ((v1 + 1) : Int32).toInt = (v1.toInt + 1) from e570) (by omega); omega))) (f557.1 (Int32.toNatClampNeg (v1 + 5)) trivial)) rd_eq)) rfl
                  have fl996 : (((uI I974 102 (Int32.toNatClampNeg (v1 + 6)) x973) 102 (Int32.toNatClampNeg (v1 + 5))) : Int32).toInt = x1.toInt := e995
                  have e997 : (((uI I974 102 (Int32.toNatClampNeg (v1 + 6)) x973) 97 12) : Int32).toInt = (I974 97 12).toInt := Eq.trans (congrArg Int32.toInt (rd_ne (by first | decide | omega))) rfl
                  have fl998 : (((uI I974 102 (Int32.toNatClampNeg (v1 + 6)) x973) 97 12) : Int32).toInt = (I974 97 12).toInt := e997
                  exact hQ _ _ _ _ hB991 ⟨(Eq.trans (Eq.trans (Eq.trans (Eq.trans (Eq.trans (Eq.trans (Eq.trans (Eq.trans (Eq.trans (Eq.trans (Eq.trans (rd_ne (by first | decide | omega)) (Hid.o hh979).1) (Hid.o hh962).1) (Hid.o hh947).2.1) (Hid.o hh887).2.1) (Hid.o hh827).2.1) (rd_ne (by first | decide | omega))) (rd_ne (by first | decide | omega))) (Hid.o hh556).1) (rd_ne (by first | decide | omega))) (Hid.o hh20).1) (Hid.o hh7).2.1), f992, (PMp.o (PMp.tr (PMp.tr (PMp.tr (PMp.tr (PMp.tr (PMp.o (PMp.o (PMp.tr (PMp.o (PMp.tr (PMp.tr (PMp.refl I) m10) m23) (show ¬ (97 : Nat) = 102 by decide)) m559) (show ¬ (97 : Nat) = 102 by decide)) (show ¬ (97 : Nat) = 102 by decide)) m830) m890) m950) m965) m982) (show ¬ (97 : Nat) = 102 by decide)), (fun hz => by have op0 := Or.resolve_left (Hid.o hh556).2.2.2.2 (fun z => by have b := PMp.bad (PMp.o (PMp.tr (PMp.tr (PMp.tr (PMp.tr (PMp.tr (PMp.o (PMp.o (PMp.refl I551) (show ¬ (97 : Nat) = 102 by decide)) (show ¬ (97 : Nat) = 102 by decide)) m830) m890) m950) m965) m982) (show ¬ (97 : Nat) = 102 by decide)) hz; omega); have op1 := Or.resolve_left (Hid.o hh979).2.2.2.2 (fun z => by have b := PMp.bad (PMp.o (PMp.refl I974) (show ¬ (97 : Nat) = 102 by decide)) hz; omega); omega)⟩
                · skip
                  have d999 : ¬ ((x940.toInt) : Int) = (0) := ci_ne rfl rfl c954
                  refine sp_X12_must hB943 hR0 (fun x1000 y1005 I1001 J1002 hB1003 p1004 => ?_)
                  have hh1006 := Hid.i p1004
                  clear p1004
                  have f1007 : Fr pT I941 I1001 := (Hid.o hh1006).2.1
                  have f1008 : Fr (pW v1.toInt) I I1001 := Fr.tr f949 f1007 (fun _ _ => trivial)
                  have m1009 : PMp I941 I1001 := (PMp.mk (Hid.o hh1006).2.2.1 (Hid.o hh1006).2.2.2.1)
                  have q1010 : (1 : Int32).toInt = 1 := rfl
                  have e1011 : ((I941 97 12) : Int32).toInt = (I551 97 12).toInt := Eq.trans (congrArg Int32.toInt (Eq.trans (Eq.trans (Eq.trans (Eq.trans (Hid.o hh947).1 (Hid.o hh887).1) (Hid.o hh827).1) (rd_ne (by first | decide | omega))) (rd_ne (by first | decide | omega)))) rfl
                  have e1012 : ((I941 97 14) : Int32).toInt = (I551 97 14).toInt := Eq.trans (congrArg Int32.toInt (Eq.trans (Eq.trans (Eq.trans (Eq.trans (Hid.o hh947).2.2.1 (Hid.o hh887).2.2.1) (Hid.o hh827).2.2.1) (rd_ne (by first | decide | omega))) (rd_ne (by first | decide | omega)))) rfl
                  have e1013 : ((I941 97 16) : Int32).toInt = (I551 97 16).toInt := Eq.trans (congrArg Int32.toInt (Eq.trans (Eq.trans (Eq.trans (Eq.trans (Hid.o hh947).2.2.2.1 (Hid.o hh887).2.2.2.1) (Hid.o hh827).2.2.2.1) (rd_ne (by first | decide | omega))) (rd_ne (by first | decide | omega)))) rfl
                  have b1014 := Bd.o hB1003 (show isO 112 97 12 = true from rfl) (show bnd 12 12 = some _ from rfl)
                  have b1015 := Bd.o hB1003 (show isO 112 97 12 = true from rfl) (show bnd 12 14 = some _ from rfl)
                  have b1016 := Bd.o hB1003 (show isO 112 97 12 = true from rfl) (show bnd 12 16 = some _ from rfl)
                  refine sp_X12_count hB1003 hR0 (fun x1017 y1022 I1018 J1019 hB1020 p1021 => ?_)
                  have hh1023 := Hid.i p1021
                  clear p1021
                  have f1024 : Fr pT I1001 I1018 := (Hid.o hh1023).2.1
                  have f1025 : Fr (pW v1.toInt) I I1018 := Fr.tr f1008 f1024 (fun _ _ => trivial)
                  have m1026 : PMp I1001 I1018 := (PMp.mk (Hid.o hh1023).2.2.1 (Hid.o hh1023).2.2.2.1)
                  have wr1027 := Or.imp (fun z => z.2) (fun z => And.intro z.1 z.2.1) (Hid.o hh1023).2.2.2.2
                  have q1028 : (0 : Int32).toInt = 0 := rfl
                  have q1029 : (99 : Int32).toInt = 99 := rfl
                  have b1030 := Bd.o hB1020 (show isO 112 97 12 = true from rfl) (show bnd 12 12 = some _ from rfl)
                  have b1031 := Bd.o hB1020 (show isO 112 97 12 = true from rfl) (show bnd 12 14 = some _ from rfl)
                  have b1032 := Bd.o hB1020 (show isO 112 97 12 = true from rfl) (show bnd 12 16 = some _ from rfl)
                  have i1033 := i32 x1017
                  have e1034 : ((v1 + 6) : Int32).toInt = (v1.toInt) + (6) := ti_add rfl rfl (by omega)
                  refine ⟨vp_of (a := (v1.toInt + 6)) e1034 (by omega) (by omega), ?_⟩
                  have hB1035 : Bd (uI I1018 102 (Int32.toNatClampNeg (v1 + 6)) x1017) := Bd.cnew hB1020 (show ((v1 + 6) : Int32).toInt = (v1.toInt + 6) from e1034) (show (x1017 : Int32).toInt = x1017.toInt from rfl) (by omega) (by omega) (by omega) 
                  have f1036 : Fr (pW v1.toInt) I (uI I1018 102 (Int32.toNatClampNeg (v1 + 6)) x1017) := Fr.w f1025 (show ((v1 + 6) : Int32).toInt = (v1.toInt + 6) from e1034) (by omega) (fun j hj hp => by unfold pW at hp; omega)
                  have e1037 : (((uI I1018 102 (Int32.toNatClampNeg (v1 + 6)) x1017) 102 (Int32.toNatClampNeg (v1 + 1))) : Int32).toInt = x550.toInt := Eq.trans (congrArg Int32.toInt (Eq.trans (Eq.trans (Eq.trans (Eq.trans (Eq.trans (Eq.trans (Eq.trans (rd_k (fun z => by have z1 := tn_of (show ((v1 + 1) : Int32).toInt = (v1.toInt + 1) from e570) (by omega); have z2 := tn_of (show ((v1 + 6) : Int32).toInt = (v1.toInt + 6) from e1034) (by omega); omega)) (f1024.1 (Int32.toNatClampNeg (v1 + 1)) trivial)) (f1007.1 (Int32.toNatClampNeg (v1 + 1)) trivial)) (f948.1 (Int32.toNatClampNeg (v1 + 1)) trivial)) (f888.1 (Int32.toNatClampNeg (v1 + 1)) trivial)) (f828.1 (Int32.toNatClampNeg (v1 + 1)) trivial)) (rd_k (fun z => by have z1 := tn_of (show ((v1 + 1) : Int32).toInt = (v1.toInt + 1) from e570) (by omega); have z2 := tn_of (show ((v1 + 7) : Int32).toInt = (v1.toInt + 7) from e816) (by omega); omega))) rd_eq)) rfl
                  have fl1038 : (((uI I1018 102 (Int32.toNatClampNeg (v1 + 6)) x1017) 102 (Int32.toNatClampNeg (v1 + 1))) : Int32).toInt = x550.toInt := e1037
                  have e1039 : (((uI I1018 102 (Int32.toNatClampNeg (v1 + 6)) x1017) 102 (Int32.toNatClampNeg (v1 + 5))) : Int32).toInt = x1.toInt := Eq.trans (congrArg Int32.toInt (Eq.trans (Eq.trans (Eq.trans (Eq.trans (Eq.trans (Eq.trans (Eq.trans (Eq.trans (Eq.trans (rd_k (fun z => by have z1 := tn_of (show ((v1 + 5) : Int32).toInt = (v1.toInt + 5) from e34) (by omega); have z2 := tn_of (show ((v1 + 6) : Int32).toInt = (v1.toInt + 6) from e1034) (by omega); omega)) (f1024.1 (Int32.toNatClampNeg (v1 + 5)) trivial)) (f1007.1 (Int32.toNatClampNeg (v1 + 5)) trivial)) (f948.1 (Int32.toNatClampNeg (v1 + 5)) trivial)) (f888.1 (Int32.toNatClampNeg (v1 + 5)) trivial)) (f828.1 (Int32.toNatClampNeg (v1 + 5)) trivial)) (rd_k (fun z => by have z1 := tn_of (show ((v1 + 5) : Int32).toInt = (v1.toInt + 5) from e34) (by omega); have z2 := tn_of (show ((v1 + 7) : Int32).toInt = (v1.toInt + 7) from e816) (by omega); omega))) (rd_k (fun z => by have z1 := tn_of (show ((v1 + 5) : Int32).toInt = (v1.toInt + 5) from e34) (by omega); have z2 := tn_of (show ((v1 + 1) : Int32).toInt = (v1.toInt + 1) from e570) (by omega); omega))) (f557.1 (Int32.toNatClampNeg (v1 + 5)) trivial)) rd_eq)) rfl
                  have fl1040 : (((uI I1018 102 (Int32.toNatClampNeg (v1 + 6)) x1017) 102 (Int32.toNatClampNeg (v1 + 5))) : Int32).toInt = x1.toInt := e1039
                  have e1041 : (((uI I1018 102 (Int32.toNatClampNeg (v1 + 6)) x1017) 97 12) : Int32).toInt = (I1018 97 12).toInt := Eq.trans (congrArg Int32.toInt (rd_ne (by first | decide | omega))) rfl
                  have fl1042 : (((uI I1018 102 (Int32.toNatClampNeg (v1 + 6)) x1017) 97 12) : Int32).toInt = (I1018 97 12).toInt := e1041
                  exact hQ _ _ _ _ hB1035 ⟨(Eq.trans (Eq.trans (Eq.trans (Eq.trans (Eq.trans (Eq.trans (Eq.trans (Eq.trans (Eq.trans (Eq.trans (Eq.trans (rd_ne (by first | decide | omega)) (Hid.o hh1023).1) (Hid.o hh1006).1) (Hid.o hh947).2.1) (Hid.o hh887).2.1) (Hid.o hh827).2.1) (rd_ne (by first | decide | omega))) (rd_ne (by first | decide | omega))) (Hid.o hh556).1) (rd_ne (by first | decide | omega))) (Hid.o hh20).1) (Hid.o hh7).2.1), f1036, (PMp.o (PMp.tr (PMp.tr (PMp.tr (PMp.tr (PMp.tr (PMp.o (PMp.o (PMp.tr (PMp.o (PMp.tr (PMp.tr (PMp.refl I) m10) m23) (show ¬ (97 : Nat) = 102 by decide)) m559) (show ¬ (97 : Nat) = 102 by decide)) (show ¬ (97 : Nat) = 102 by decide)) m830) m890) m950) m1009) m1026) (show ¬ (97 : Nat) = 102 by decide)), (fun hz => by have op0 := Or.resolve_left (Hid.o hh556).2.2.2.2 (fun z => by have b := PMp.bad (PMp.o (PMp.tr (PMp.tr (PMp.tr (PMp.tr (PMp.tr (PMp.o (PMp.o (PMp.refl I551) (show ¬ (97 : Nat) = 102 by decide)) (show ¬ (97 : Nat) = 102 by decide)) m830) m890) m950) m1009) m1026) (show ¬ (97 : Nat) = 102 by decide)) hz; omega); have op1 := Or.resolve_left (Hid.o hh1023).2.2.2.2 (fun z => by have b := PMp.bad (PMp.o (PMp.refl I1018) (show ¬ (97 : Nat) = 102 by decide)) hz; omega); omega)⟩
        · skip
          have d1043 : ((x1.toInt) : Int) = (0) := ci_eq rfl rfl c583
          have e1044 : (((uI I551 102 (Int32.toNatClampNeg (v1 + 1)) x550) 102 (Int32.toNatClampNeg (v1 + 1))) : Int32).toInt = x550.toInt := Eq.trans (congrArg Int32.toInt rd_eq) rfl
          have fl1045 : (((uI I551 102 (Int32.toNatClampNeg (v1 + 1)) x550) 102 (Int32.toNatClampNeg (v1 + 1))) : Int32).toInt = x550.toInt := e1044
          have e1046 : (((uI I551 102 (Int32.toNatClampNeg (v1 + 1)) x550) 102 (Int32.toNatClampNeg (v1 + 5))) : Int32).toInt = x1.toInt := Eq.trans (congrArg Int32.toInt (Eq.trans (Eq.trans (rd_k (fun z => by have z1 := tn_of (show ((v1 + 5) : Int32).toInt = (v1.toInt + 5) from e34) (by omega); have z2 := tn_of (show ((v1 + 1) : Int32).toInt = (v1.toInt + 1) from e570) (by omega); omega)) (f557.1 (Int32.toNatClampNeg (v1 + 5)) trivial)) rd_eq)) rfl
          have fl1047 : (((uI I551 102 (Int32.toNatClampNeg (v1 + 1)) x550) 102 (Int32.toNatClampNeg (v1 + 5))) : Int32).toInt = x1.toInt := e1046
          have fl1048 : (((uI I551 102 (Int32.toNatClampNeg (v1 + 1)) x550) 97 12) : Int32).toInt = (I551 97 12).toInt := e581
          exact hQ _ _ _ _ hB571 ⟨(Eq.trans (Eq.trans (Eq.trans (Eq.trans (rd_ne (by first | decide | omega)) (Hid.o hh556).1) (rd_ne (by first | decide | omega))) (Hid.o hh20).1) (Hid.o hh7).2.1), f572, (PMp.o (PMp.tr (PMp.o (PMp.tr (PMp.tr (PMp.refl I) m10) m23) (show ¬ (97 : Nat) = 102 by decide)) m559) (show ¬ (97 : Nat) = 102 by decide)), (fun hz => by have op0 := Or.resolve_left (Hid.o hh556).2.2.2.2 (fun z => by have b := PMp.bad (PMp.o (PMp.refl I551) (show ¬ (97 : Nat) = 102 by decide)) hz; omega); omega)⟩
  · skip
    have d1049 : ((0) : Int) ≤ (x1.toInt) := ci_nlt rfl rfl c12
    refine sp_X12_must hB4 hR0 (fun x1050 y1055 I1051 J1052 hB1053 p1054 => ?_)
    have hh1056 := Hid.i p1054
    clear p1054
    have f1057 : Fr pT I2 I1051 := (Hid.o hh1056).2.1
    have f1058 : Fr (pW v1.toInt) I I1051 := Fr.tr f9 f1057 (fun _ _ => trivial)
    have m1059 : PMp I2 I1051 := (PMp.mk (Hid.o hh1056).2.2.1 (Hid.o hh1056).2.2.2.1)
    have q1060 : (1 : Int32).toInt = 1 := rfl
    have b1061 := Bd.o hB0 (show isO 112 97 12 = true from rfl) (show bnd 12 12 = some _ from rfl)
    have e1062 : ((I2 97 12) : Int32).toInt = (I 97 12).toInt := Eq.trans (congrArg Int32.toInt (Hid.o hh7).1) rfl
    have b1063 := Bd.o hB0 (show isO 112 97 12 = true from rfl) (show bnd 12 14 = some _ from rfl)
    have e1064 : ((I2 97 14) : Int32).toInt = (I 97 14).toInt := Eq.trans (congrArg Int32.toInt (Hid.o hh7).2.2.1) rfl
    have b1065 := Bd.o hB0 (show isO 112 97 12 = true from rfl) (show bnd 12 16 = some _ from rfl)
    have e1066 : ((I2 97 16) : Int32).toInt = (I 97 16).toInt := Eq.trans (congrArg Int32.toInt (Hid.o hh7).2.2.2.1) rfl
    have b1067 := Bd.o hB1053 (show isO 112 97 12 = true from rfl) (show bnd 12 12 = some _ from rfl)
    have b1068 := Bd.o hB1053 (show isO 112 97 12 = true from rfl) (show bnd 12 14 = some _ from rfl)
    have b1069 := Bd.o hB1053 (show isO 112 97 12 = true from rfl) (show bnd 12 16 = some _ from rfl)
    have e1070 : ((v1 + 5) : Int32).toInt = (v1.toInt) + (5) := ti_add rfl rfl (by omega)
    refine ⟨vp_of (a := (v1.toInt + 5)) e1070 (by omega) (by omega), ?_⟩
    have hB1071 : Bd (uI I1051 102 (Int32.toNatClampNeg (v1 + 5)) x1) := Bd.cnew hB1053 (show ((v1 + 5) : Int32).toInt = (v1.toInt + 5) from e1070) (show (x1 : Int32).toInt = x1.toInt from rfl) (by omega) (by omega) (by omega) 
    have f1072 : Fr (pW v1.toInt) I (uI I1051 102 (Int32.toNatClampNeg (v1 + 5)) x1) := Fr.w f1058 (show ((v1 + 5) : Int32).toInt = (v1.toInt + 5) from e1070) (by omega) (fun j hj hp => by unfold pW at hp; omega)
    refine ⟨fun c1073 => ?_, fun c1073 => ?_⟩
    · skip
      have d1074 : ¬ ((x1.toInt) : Int) = (1) := ci_ne rfl rfl c1073
      refine sp_X12_readTold hB1071 hR0 (by have z : (0 : Int32).toInt = 0 := rfl; omega) (fun x1075 y1080 I1076 J1077 hB1078 p1079 => ?_)
      have hh1081 := Hid.i p1079
      clear p1079
      have f1082 : Fr pT (uI I1051 102 (Int32.toNatClampNeg (v1 + 5)) x1) I1076 := (Hid.o hh1081).2.1
      have f1083 : Fr (pW v1.toInt) I I1076 := Fr.tr f1072 f1082 (fun _ _ => trivial)
      have m1084 : PMp (uI I1051 102 (Int32.toNatClampNeg (v1 + 5)) x1) I1076 := (PMp.mk (Hid.o hh1081).2.2.1.1 (Hid.o hh1081).2.2.1.2.1)
      have wr1085 := (Hid.o hh1081).2.2.1.2.2
      have q1086 : (0 : Int32).toInt = 0 := rfl
      have b1087 := (Bd.c hB0 (j := 0) (z := 0) rfl).1 (by decide)
      have e1088 : (((uI I1051 102 (Int32.toNatClampNeg (v1 + 5)) x1) 102 0) : Int32).toInt = (I 102 0).toInt := Eq.trans (congrArg Int32.toInt (Eq.trans (Eq.trans (rd_k (fun z => by have z1 := tn_of (show (0 : Int32).toInt = 0 from rfl) (by omega); have z2 := tn_of (show ((v1 + 5) : Int32).toInt = (v1.toInt + 5) from e1070) (by omega); have z0 : (0 : Nat) = (Int32.toNatClampNeg (v1 + 5)) := z; have z4 : Int32.toNatClampNeg 0 = 0 := rfl; omega)) (f1057.1 0 trivial)) (f8.1 0 trivial))) rfl
      have e1089 : (((uI I1051 102 (Int32.toNatClampNeg (v1 + 5)) x1) 97 12) : Int32).toInt = (I1051 97 12).toInt := Eq.trans (congrArg Int32.toInt (rd_ne (by first | decide | omega))) rfl
      have e1090 : (((uI I1051 102 (Int32.toNatClampNeg (v1 + 5)) x1) 97 14) : Int32).toInt = (I1051 97 14).toInt := Eq.trans (congrArg Int32.toInt (rd_ne (by first | decide | omega))) rfl
      have e1091 : (((uI I1051 102 (Int32.toNatClampNeg (v1 + 5)) x1) 97 16) : Int32).toInt = (I1051 97 16).toInt := Eq.trans (congrArg Int32.toInt (rd_ne (by first | decide | omega))) rfl
      have b1092 := Bd.o hB1078 (show isO 112 97 12 = true from rfl) (show bnd 12 12 = some _ from rfl)
      have b1093 := Bd.o hB1078 (show isO 112 97 12 = true from rfl) (show bnd 12 14 = some _ from rfl)
      have b1094 := Bd.o hB1078 (show isO 112 97 12 = true from rfl) (show bnd 12 16 = some _ from rfl)
      have i1095 := i32 x1075
      have e1096 : ((v1 + 1) : Int32).toInt = (v1.toInt) + (1) := ti_add rfl rfl (by omega)
      refine ⟨vp_of (a := (v1.toInt + 1)) e1096 (by omega) (by omega), ?_⟩
      have hB1097 : Bd (uI I1076 102 (Int32.toNatClampNeg (v1 + 1)) x1075) := Bd.cnew hB1078 (show ((v1 + 1) : Int32).toInt = (v1.toInt + 1) from e1096) (show (x1075 : Int32).toInt = x1075.toInt from rfl) (by omega) (by omega) (by omega) 
      have f1098 : Fr (pW v1.toInt) I (uI I1076 102 (Int32.toNatClampNeg (v1 + 1)) x1075) := Fr.w f1083 (show ((v1 + 1) : Int32).toInt = (v1.toInt + 1) from e1096) (by omega) (fun j hj hp => by unfold pW at hp; omega)
      refine ⟨fun c1099 => ?_, fun c1099 => ?_⟩
      · skip
        have e1100 : (((uI I1076 102 (Int32.toNatClampNeg (v1 + 1)) x1075) 97 12) : Int32).toInt = (I1076 97 12).toInt := Eq.trans (congrArg Int32.toInt (rd_ne (by first | decide | omega))) rfl
        have d1101 : ((0) : Int) < ((I1076 97 12).toInt) := ci_lt rfl e1100 c1099
        have td1102 : (((uI I1051 102 (Int32.toNatClampNeg (v1 + 5)) x1) 102 0)).toInt = (I 102 0).toInt := e1088
        have e1103 : (((uI I1076 102 (Int32.toNatClampNeg (v1 + 1)) x1075) 102 (Int32.toNatClampNeg (v1 + 1))) : Int32).toInt = x1075.toInt := Eq.trans (congrArg Int32.toInt rd_eq) rfl
        have fl1104 : (((uI I1076 102 (Int32.toNatClampNeg (v1 + 1)) x1075) 102 (Int32.toNatClampNeg (v1 + 1))) : Int32).toInt = x1075.toInt := e1103
        have e1105 : (((uI I1076 102 (Int32.toNatClampNeg (v1 + 1)) x1075) 102 (Int32.toNatClampNeg (v1 + 5))) : Int32).toInt = x1.toInt := Eq.trans (congrArg Int32.toInt (Eq.trans (Eq.trans (rd_k (fun z => by have z1 := tn_of (show ((v1 + 5) : Int32).toInt = (v1.toInt + 5) from e1070) (by omega); have z2 := tn_of (show ((v1 + 1) : Int32).toInt = (v1.toInt + 1) from e1096) (by omega); omega)) (f1082.1 (Int32.toNatClampNeg (v1 + 5)) trivial)) rd_eq)) rfl
        have fl1106 : (((uI I1076 102 (Int32.toNatClampNeg (v1 + 1)) x1075) 102 (Int32.toNatClampNeg (v1 + 5))) : Int32).toInt = x1.toInt := e1105
        have fl1107 : (((uI I1076 102 (Int32.toNatClampNeg (v1 + 1)) x1075) 97 12) : Int32).toInt = (I1076 97 12).toInt := e1100
        exact hQ _ _ _ _ hB1097 ⟨(Eq.trans (Eq.trans (Eq.trans (Eq.trans (rd_ne (by first | decide | omega)) (Hid.o hh1081).1) (rd_ne (by first | decide | omega))) (Hid.o hh1056).1) (Hid.o hh7).2.1), f1098, (PMp.o (PMp.tr (PMp.o (PMp.tr (PMp.tr (PMp.refl I) m10) m1059) (show ¬ (97 : Nat) = 102 by decide)) m1084) (show ¬ (97 : Nat) = 102 by decide)), (fun hz => by have op0 := (Hid.o hh1081).2.2.2 (PMp.bad (PMp.o (PMp.refl I1076) (show ¬ (97 : Nat) = 102 by decide)) hz) rfl; omega)⟩
      · skip
        have e1108 : (((uI I1076 102 (Int32.toNatClampNeg (v1 + 1)) x1075) 97 12) : Int32).toInt = (I1076 97 12).toInt := Eq.trans (congrArg Int32.toInt (rd_ne (by first | decide | omega))) rfl
        have d1109 : (((I1076 97 12).toInt) : Int) ≤ (0) := ci_nlt rfl e1108 c1099
        refine ⟨fun c1110 => ?_, fun c1110 => ?_⟩
        · skip
          have d1111 : ¬ ((x1.toInt) : Int) = (0) := ci_ne rfl rfl c1110
          refine ⟨fun c1112 => ?_, fun c1112 => ?_⟩
          · skip
            have e1113 : (((uI I1076 102 (Int32.toNatClampNeg (v1 + 1)) x1075) 97 14) : Int32).toInt = (I1076 97 14).toInt := Eq.trans (congrArg Int32.toInt (rd_ne (by first | decide | omega))) rfl
            have d1114 : ¬ (((I1076 97 14).toInt) : Int) = (3) := ci_ne e1113 rfl c1112
            have e1115 : ((v1 + 7) : Int32).toInt = (v1.toInt) + (7) := ti_add rfl rfl (by omega)
            refine ⟨vp_of (a := (v1.toInt + 7)) e1115 (by omega) (by omega), ?_⟩
            have hB1116 : Bd (uI (uI I1076 102 (Int32.toNatClampNeg (v1 + 1)) x1075) 102 (Int32.toNatClampNeg (v1 + 7)) 0) := Bd.cnew hB1097 (show ((v1 + 7) : Int32).toInt = (v1.toInt + 7) from e1115) (show (0 : Int32).toInt = 0 from rfl) (by omega) (by omega) (by omega) 
            have f1117 : Fr (pW v1.toInt) I (uI (uI I1076 102 (Int32.toNatClampNeg (v1 + 1)) x1075) 102 (Int32.toNatClampNeg (v1 + 7)) 0) := Fr.w f1098 (show ((v1 + 7) : Int32).toInt = (v1.toInt + 7) from e1115) (by omega) (fun j hj hp => by unfold pW at hp; omega)
            refine sp_X12_isSign hB1116 hR0 (fun x1118 y1123 I1119 J1120 hB1121 p1122 => ?_)
            intro o1124
            have hh1125 := Hid.i p1122
            clear p1122
            have f1126 : Fr pT (uI (uI I1076 102 (Int32.toNatClampNeg (v1 + 1)) x1075) 102 (Int32.toNatClampNeg (v1 + 7)) 0) I1119 := (Hid.o hh1125).2.2.2.2.1
            have f1127 : Fr (pW v1.toInt) I I1119 := Fr.tr f1117 f1126 (fun _ _ => trivial)
            have m1128 : PMp (uI (uI I1076 102 (Int32.toNatClampNeg (v1 + 1)) x1075) 102 (Int32.toNatClampNeg (v1 + 7)) 0) I1119 := (PMp.keep (Hid.o hh1125).1 (Hid.o hh1125).2.2.1 (Hid.o hh1125).2.2.2.1)
            have q1129 : (60 : Int32).toInt = 60 := rfl
            have e1130 : (((uI (uI I1076 102 (Int32.toNatClampNeg (v1 + 1)) x1075) 102 (Int32.toNatClampNeg (v1 + 7)) 0) 97 14) : Int32).toInt = (I1076 97 14).toInt := Eq.trans (congrArg Int32.toInt (Eq.trans (rd_ne (by first | decide | omega)) (rd_ne (by first | decide | omega)))) rfl
            have i1131 := i32 x1118
            refine ⟨fun c1132 => ?_, fun c1132 => ?_⟩
            · skip
              have d1133 : ¬ ((x1118.toInt) : Int) = (0) := ci_ne rfl rfl c1132
              refine sp_X12_must hB1121 hR0 (fun x1134 y1139 I1135 J1136 hB1137 p1138 => ?_)
              have hh1140 := Hid.i p1138
              clear p1138
              have f1141 : Fr pT I1119 I1135 := (Hid.o hh1140).2.1
              have f1142 : Fr (pW v1.toInt) I I1135 := Fr.tr f1127 f1141 (fun _ _ => trivial)
              have m1143 : PMp I1119 I1135 := (PMp.mk (Hid.o hh1140).2.2.1 (Hid.o hh1140).2.2.2.1)
              have q1144 : (1 : Int32).toInt = 1 := rfl
              have e1145 : ((I1119 97 12) : Int32).toInt = (I1076 97 12).toInt := Eq.trans (congrArg Int32.toInt (Eq.trans (Eq.trans (Hid.o hh1125).1 (rd_ne (by first | decide | omega))) (rd_ne (by first | decide | omega)))) rfl
              have e1146 : ((I1119 97 14) : Int32).toInt = (I1076 97 14).toInt := Eq.trans (congrArg Int32.toInt (Eq.trans (Eq.trans (Hid.o hh1125).2.2.1 (rd_ne (by first | decide | omega))) (rd_ne (by first | decide | omega)))) rfl
              have e1147 : ((I1119 97 16) : Int32).toInt = (I1076 97 16).toInt := Eq.trans (congrArg Int32.toInt (Eq.trans (Eq.trans (Hid.o hh1125).2.2.2.1 (rd_ne (by first | decide | omega))) (rd_ne (by first | decide | omega)))) rfl
              have b1148 := Bd.o hB1137 (show isO 112 97 12 = true from rfl) (show bnd 12 12 = some _ from rfl)
              have b1149 := Bd.o hB1137 (show isO 112 97 12 = true from rfl) (show bnd 12 14 = some _ from rfl)
              have b1150 := Bd.o hB1137 (show isO 112 97 12 = true from rfl) (show bnd 12 16 = some _ from rfl)
              refine sp_X12_count hB1137 hR0 (fun x1151 y1156 I1152 J1153 hB1154 p1155 => ?_)
              have hh1157 := Hid.i p1155
              clear p1155
              have f1158 : Fr pT I1135 I1152 := (Hid.o hh1157).2.1
              have f1159 : Fr (pW v1.toInt) I I1152 := Fr.tr f1142 f1158 (fun _ _ => trivial)
              have m1160 : PMp I1135 I1152 := (PMp.mk (Hid.o hh1157).2.2.1 (Hid.o hh1157).2.2.2.1)
              have wr1161 := Or.imp (fun z => z.2) (fun z => And.intro z.1 z.2.1) (Hid.o hh1157).2.2.2.2
              have q1162 : (0 : Int32).toInt = 0 := rfl
              have q1163 : (99 : Int32).toInt = 99 := rfl
              have b1164 := Bd.o hB1154 (show isO 112 97 12 = true from rfl) (show bnd 12 12 = some _ from rfl)
              have b1165 := Bd.o hB1154 (show isO 112 97 12 = true from rfl) (show bnd 12 14 = some _ from rfl)
              have b1166 := Bd.o hB1154 (show isO 112 97 12 = true from rfl) (show bnd 12 16 = some _ from rfl)
              have i1167 := i32 x1151
              have e1168 : ((v1 + 6) : Int32).toInt = (v1.toInt) + (6) := ti_add rfl rfl (by omega)
              refine ⟨vp_of (a := (v1.toInt + 6)) e1168 (by omega) (by omega), ?_⟩
              have hB1169 : Bd (uI I1152 102 (Int32.toNatClampNeg (v1 + 6)) x1151) := Bd.cnew hB1154 (show ((v1 + 6) : Int32).toInt = (v1.toInt + 6) from e1168) (show (x1151 : Int32).toInt = x1151.toInt from rfl) (by omega) (by omega) (by omega) 
              have f1170 : Fr (pW v1.toInt) I (uI I1152 102 (Int32.toNatClampNeg (v1 + 6)) x1151) := Fr.w f1159 (show ((v1 + 6) : Int32).toInt = (v1.toInt + 6) from e1168) (by omega) (fun j hj hp => by unfold pW at hp; omega)
              have td1171 : (((uI I1051 102 (Int32.toNatClampNeg (v1 + 5)) x1) 102 0)).toInt = (I 102 0).toInt := e1088
              have e1172 : (((uI I1152 102 (Int32.toNatClampNeg (v1 + 6)) x1151) 102 (Int32.toNatClampNeg (v1 + 1))) : Int32).toInt = x1075.toInt := Eq.trans (congrArg Int32.toInt (Eq.trans (Eq.trans (Eq.trans (Eq.trans (Eq.trans (rd_k (fun z => by have z1 := tn_of (show ((v1 + 1) : Int32).toInt = (v1.toInt + 1) from e1096) (by omega); have z2 := tn_of (show ((v1 + 6) : Int32).toInt = (v1.toInt + 6) from e1168) (by omega); omega)) (f1158.1 (Int32.toNatClampNeg (v1 + 1)) trivial)) (f1141.1 (Int32.toNatClampNeg (v1 + 1)) trivial)) (f1126.1 (Int32.toNatClampNeg (v1 + 1)) trivial)) (rd_k (fun z => by have z1 := tn_of (show ((v1 + 1) : Int32).toInt = (v1.toInt + 1) from e1096) (by omega); have z2 := tn_of (show ((v1 + 7) : Int32).toInt = (v1.toInt + 7) from e1115) (by omega); omega))) rd_eq)) rfl
              have fl1173 : (((uI I1152 102 (Int32.toNatClampNeg (v1 + 6)) x1151) 102 (Int32.toNatClampNeg (v1 + 1))) : Int32).toInt = x1075.toInt := e1172
              have e1174 : (((uI I1152 102 (Int32.toNatClampNeg (v1 + 6)) x1151) 102 (Int32.toNatClampNeg (v1 + 5))) : Int32).toInt = x1.toInt := Eq.trans (congrArg Int32.toInt (Eq.trans (Eq.trans (Eq.trans (Eq.trans (Eq.trans (Eq.trans (Eq.trans (rd_k (fun z => by have z1 := tn_of (show ((v1 + 5) : Int32).toInt = (v1.toInt + 5) from e1070) (by omega); have z2 := tn_of (show ((v1 + 6) : Int32).toInt = (v1.toInt + 6) from e1168) (by omega); omega)) (f1158.1 (Int32.toNatClampNeg (v1 + 5)) trivial)) (f1141.1 (Int32.toNatClampNeg (v1 + 5)) trivial)) (f1126.1 (Int32.toNatClampNeg (v1 + 5)) trivial)) (rd_k (fun z => by have z1 := tn_of (show ((v1 + 5) : Int32).toInt = (v1.toInt + 5) from e1070) (by omega); have z2 := tn_of (show ((v1 + 7) : Int32).toInt = (v1.toInt + 7) from e1115) (by omega); omega))) (rd_k (fun z => by have z1 := tn_of (show ((v1 + 5) : Int32).toInt = (v1.toInt + 5) from e1070) (by omega); have z2 := tn_of (show ((v1 + 1) : Int32).toInt = (v1.toInt + 1) from e1096) (by omega); omega))) (f1082.1 (Int32.toNatClampNeg (v1 + 5)) trivial)) rd_eq)) rfl
              have fl1175 : (((uI I1152 102 (Int32.toNatClampNeg (v1 + 6)) x1151) 102 (Int32.toNatClampNeg (v1 + 5))) : Int32).toInt = x1.toInt := e1174
              have e1176 : (((uI I1152 102 (Int32.toNatClampNeg (v1 + 6)) x1151) 97 12) : Int32).toInt = (I1152 97 12).toInt := Eq.trans (congrArg Int32.toInt (rd_ne (by first | decide | omega))) rfl
              have fl1177 : (((uI I1152 102 (Int32.toNatClampNeg (v1 + 6)) x1151) 97 12) : Int32).toInt = (I1152 97 12).toInt := e1176
              exact hQ _ _ _ _ hB1169 ⟨(Eq.trans (Eq.trans (Eq.trans (Eq.trans (Eq.trans (Eq.trans (Eq.trans (Eq.trans (Eq.trans (rd_ne (by first | decide | omega)) (Hid.o hh1157).1) (Hid.o hh1140).1) (Hid.o hh1125).2.1) (rd_ne (by first | decide | omega))) (rd_ne (by first | decide | omega))) (Hid.o hh1081).1) (rd_ne (by first | decide | omega))) (Hid.o hh1056).1) (Hid.o hh7).2.1), f1170, (PMp.o (PMp.tr (PMp.tr (PMp.tr (PMp.o (PMp.o (PMp.tr (PMp.o (PMp.tr (PMp.tr (PMp.refl I) m10) m1059) (show ¬ (97 : Nat) = 102 by decide)) m1084) (show ¬ (97 : Nat) = 102 by decide)) (show ¬ (97 : Nat) = 102 by decide)) m1128) m1143) m1160) (show ¬ (97 : Nat) = 102 by decide)), (fun hz => by have op0 := (Hid.o hh1081).2.2.2 (PMp.bad (PMp.o (PMp.tr (PMp.tr (PMp.tr (PMp.o (PMp.o (PMp.refl I1076) (show ¬ (97 : Nat) = 102 by decide)) (show ¬ (97 : Nat) = 102 by decide)) m1128) m1143) m1160) (show ¬ (97 : Nat) = 102 by decide)) hz) rfl; have op1 := Or.resolve_left (Hid.o hh1157).2.2.2.2 (fun z => by have b := PMp.bad (PMp.o (PMp.refl I1152) (show ¬ (97 : Nat) = 102 by decide)) hz; omega); omega)⟩
            · skip
              have d1178 : ((x1118.toInt) : Int) = (0) := ci_eq rfl rfl c1132
              refine sp_X12_isSign hB1121 hR0 (fun x1179 y1184 I1180 J1181 hB1182 p1183 => ?_)
              intro o1185
              have hh1186 := Hid.i p1183
              clear p1183
              have f1187 : Fr pT I1119 I1180 := (Hid.o hh1186).2.2.2.2.1
              have f1188 : Fr (pW v1.toInt) I I1180 := Fr.tr f1127 f1187 (fun _ _ => trivial)
              have m1189 : PMp I1119 I1180 := (PMp.keep (Hid.o hh1186).1 (Hid.o hh1186).2.2.1 (Hid.o hh1186).2.2.2.1)
              have q1190 : (62 : Int32).toInt = 62 := rfl
              have e1191 : ((I1119 97 14) : Int32).toInt = (I1076 97 14).toInt := Eq.trans (congrArg Int32.toInt (Eq.trans (Eq.trans (Hid.o hh1125).2.2.1 (rd_ne (by first | decide | omega))) (rd_ne (by first | decide | omega)))) rfl
              have i1192 := i32 x1179
              refine ⟨fun c1193 => ?_, fun c1193 => ?_⟩
              · skip
                have d1194 : ¬ ((x1179.toInt) : Int) = (0) := ci_ne rfl rfl c1193
                refine sp_X12_must hB1182 hR0 (fun x1195 y1200 I1196 J1197 hB1198 p1199 => ?_)
                have hh1201 := Hid.i p1199
                clear p1199
                have f1202 : Fr pT I1180 I1196 := (Hid.o hh1201).2.1
                have f1203 : Fr (pW v1.toInt) I I1196 := Fr.tr f1188 f1202 (fun _ _ => trivial)
                have m1204 : PMp I1180 I1196 := (PMp.mk (Hid.o hh1201).2.2.1 (Hid.o hh1201).2.2.2.1)
                have q1205 : (1 : Int32).toInt = 1 := rfl
                have e1206 : ((I1180 97 12) : Int32).toInt = (I1076 97 12).toInt := Eq.trans (congrArg Int32.toInt (Eq.trans (Eq.trans (Eq.trans (Hid.o hh1186).1 (Hid.o hh1125).1) (rd_ne (by first | decide | omega))) (rd_ne (by first | decide | omega)))) rfl
                have e1207 : ((I1180 97 14) : Int32).toInt = (I1076 97 14).toInt := Eq.trans (congrArg Int32.toInt (Eq.trans (Eq.trans (Eq.trans (Hid.o hh1186).2.2.1 (Hid.o hh1125).2.2.1) (rd_ne (by first | decide | omega))) (rd_ne (by first | decide | omega)))) rfl
                have e1208 : ((I1180 97 16) : Int32).toInt = (I1076 97 16).toInt := Eq.trans (congrArg Int32.toInt (Eq.trans (Eq.trans (Eq.trans (Hid.o hh1186).2.2.2.1 (Hid.o hh1125).2.2.2.1) (rd_ne (by first | decide | omega))) (rd_ne (by first | decide | omega)))) rfl
                have b1209 := Bd.o hB1198 (show isO 112 97 12 = true from rfl) (show bnd 12 12 = some _ from rfl)
                have b1210 := Bd.o hB1198 (show isO 112 97 12 = true from rfl) (show bnd 12 14 = some _ from rfl)
                have b1211 := Bd.o hB1198 (show isO 112 97 12 = true from rfl) (show bnd 12 16 = some _ from rfl)
                refine sp_X12_count hB1198 hR0 (fun x1212 y1217 I1213 J1214 hB1215 p1216 => ?_)
                have hh1218 := Hid.i p1216
                clear p1216
                have f1219 : Fr pT I1196 I1213 := (Hid.o hh1218).2.1
                have f1220 : Fr (pW v1.toInt) I I1213 := Fr.tr f1203 f1219 (fun _ _ => trivial)
                have m1221 : PMp I1196 I1213 := (PMp.mk (Hid.o hh1218).2.2.1 (Hid.o hh1218).2.2.2.1)
                have wr1222 := Or.imp (fun z => z.2) (fun z => And.intro z.1 z.2.1) (Hid.o hh1218).2.2.2.2
                have q1223 : (0 : Int32).toInt = 0 := rfl
                have q1224 : (99 : Int32).toInt = 99 := rfl
                have b1225 := Bd.o hB1215 (show isO 112 97 12 = true from rfl) (show bnd 12 12 = some _ from rfl)
                have b1226 := Bd.o hB1215 (show isO 112 97 12 = true from rfl) (show bnd 12 14 = some _ from rfl)
                have b1227 := Bd.o hB1215 (show isO 112 97 12 = true from rfl) (show bnd 12 16 = some _ from rfl)
                have i1228 := i32 x1212
                have e1229 : ((v1 + 6) : Int32).toInt = (v1.toInt) + (6) := ti_add rfl rfl (by omega)
                refine ⟨vp_of (a := (v1.toInt + 6)) e1229 (by omega) (by omega), ?_⟩
                have hB1230 : Bd (uI I1213 102 (Int32.toNatClampNeg (v1 + 6)) x1212) := Bd.cnew hB1215 (show ((v1 + 6) : Int32).toInt = (v1.toInt + 6) from e1229) (show (x1212 : Int32).toInt = x1212.toInt from rfl) (by omega) (by omega) (by omega) 
                have f1231 : Fr (pW v1.toInt) I (uI I1213 102 (Int32.toNatClampNeg (v1 + 6)) x1212) := Fr.w f1220 (show ((v1 + 6) : Int32).toInt = (v1.toInt + 6) from e1229) (by omega) (fun j hj hp => by unfold pW at hp; omega)
                have td1232 : (((uI I1051 102 (Int32.toNatClampNeg (v1 + 5)) x1) 102 0)).toInt = (I 102 0).toInt := e1088
                have e1233 : (((uI I1213 102 (Int32.toNatClampNeg (v1 + 6)) x1212) 102 (Int32.toNatClampNeg (v1 + 1))) : Int32).toInt = x1075.toInt := Eq.trans (congrArg Int32.toInt (Eq.trans (Eq.trans (Eq.trans (Eq.trans (Eq.trans (Eq.trans (rd_k (fun z => by have z1 := tn_of (show ((v1 + 1) : Int32).toInt = (v1.toInt + 1) from e1096) (by omega); have z2 := tn_of (show ((v1 + 6) : Int32).toInt = (v1.toInt + 6) from e1229) (by omega); omega)) (f1219.1 (Int32.toNatClampNeg (v1 + 1)) trivial)) (f1202.1 (Int32.toNatClampNeg (v1 + 1)) trivial)) (f1187.1 (Int32.toNatClampNeg (v1 + 1)) trivial)) (f1126.1 (Int32.toNatClampNeg (v1 + 1)) trivial)) (rd_k (fun z => by have z1 := tn_of (show ((v1 + 1) : Int32).toInt = (v1.toInt + 1) from e1096) (by omega); have z2 := tn_of (show ((v1 + 7) : Int32).toInt = (v1.toInt + 7) from e1115) (by omega); omega))) rd_eq)) rfl
                have fl1234 : (((uI I1213 102 (Int32.toNatClampNeg (v1 + 6)) x1212) 102 (Int32.toNatClampNeg (v1 + 1))) : Int32).toInt = x1075.toInt := e1233
                have e1235 : (((uI I1213 102 (Int32.toNatClampNeg (v1 + 6)) x1212) 102 (Int32.toNatClampNeg (v1 + 5))) : Int32).toInt = x1.toInt := Eq.trans (congrArg Int32.toInt (Eq.trans (Eq.trans (Eq.trans (Eq.trans (Eq.trans (Eq.trans (Eq.trans (Eq.trans (rd_k (fun z => by have z1 := tn_of (show ((v1 + 5) : Int32).toInt = (v1.toInt + 5) from e1070) (by omega); have z2 := tn_of (show ((v1 + 6) : Int32).toInt = (v1.toInt + 6) from e1229) (by omega); omega)) (f1219.1 (Int32.toNatClampNeg (v1 + 5)) trivial)) (f1202.1 (Int32.toNatClampNeg (v1 + 5)) trivial)) (f1187.1 (Int32.toNatClampNeg (v1 + 5)) trivial)) (f1126.1 (Int32.toNatClampNeg (v1 + 5)) trivial)) (rd_k (fun z => by have z1 := tn_of (show ((v1 + 5) : Int32).toInt = (v1.toInt + 5) from e1070) (by omega); have z2 := tn_of (show ((v1 + 7) : Int32).toInt = (v1.toInt + 7) from e1115) (by omega); omega))) (rd_k (fun z => by have z1 := tn_of (show ((v1 + 5) : Int32).toInt = (v1.toInt + 5) from e1070) (by omega); have z2 := tn_of (show ((v1 + 1) : Int32).toInt = (v1.toInt + 1) from e1096) (by omega); omega))) (f1082.1 (Int32.toNatClampNeg (v1 + 5)) trivial)) rd_eq)) rfl
                have fl1236 : (((uI I1213 102 (Int32.toNatClampNeg (v1 + 6)) x1212) 102 (Int32.toNatClampNeg (v1 + 5))) : Int32).toInt = x1.toInt := e1235
                have e1237 : (((uI I1213 102 (Int32.toNatClampNeg (v1 + 6)) x1212) 97 12) : Int32).toInt = (I1213 97 12).toInt := Eq.trans (congrArg Int32.toInt (rd_ne (by first | decide | omega))) rfl
                have fl1238 : (((uI I1213 102 (Int32.toNatClampNeg (v1 + 6)) x1212) 97 12) : Int32).toInt = (I1213 97 12).toInt := e1237
                exact hQ _ _ _ _ hB1230 ⟨(Eq.trans (Eq.trans (Eq.trans (Eq.trans (Eq.trans (Eq.trans (Eq.trans (Eq.trans (Eq.trans (Eq.trans (rd_ne (by first | decide | omega)) (Hid.o hh1218).1) (Hid.o hh1201).1) (Hid.o hh1186).2.1) (Hid.o hh1125).2.1) (rd_ne (by first | decide | omega))) (rd_ne (by first | decide | omega))) (Hid.o hh1081).1) (rd_ne (by first | decide | omega))) (Hid.o hh1056).1) (Hid.o hh7).2.1), f1231, (PMp.o (PMp.tr (PMp.tr (PMp.tr (PMp.tr (PMp.o (PMp.o (PMp.tr (PMp.o (PMp.tr (PMp.tr (PMp.refl I) m10) m1059) (show ¬ (97 : Nat) = 102 by decide)) m1084) (show ¬ (97 : Nat) = 102 by decide)) (show ¬ (97 : Nat) = 102 by decide)) m1128) m1189) m1204) m1221) (show ¬ (97 : Nat) = 102 by decide)), (fun hz => by have op0 := (Hid.o hh1081).2.2.2 (PMp.bad (PMp.o (PMp.tr (PMp.tr (PMp.tr (PMp.tr (PMp.o (PMp.o (PMp.refl I1076) (show ¬ (97 : Nat) = 102 by decide)) (show ¬ (97 : Nat) = 102 by decide)) m1128) m1189) m1204) m1221) (show ¬ (97 : Nat) = 102 by decide)) hz) rfl; have op1 := Or.resolve_left (Hid.o hh1218).2.2.2.2 (fun z => by have b := PMp.bad (PMp.o (PMp.refl I1213) (show ¬ (97 : Nat) = 102 by decide)) hz; omega); omega)⟩
              · skip
                have d1239 : ((x1179.toInt) : Int) = (0) := ci_eq rfl rfl c1193
                refine sp_X12_isSign hB1182 hR0 (fun x1240 y1245 I1241 J1242 hB1243 p1244 => ?_)
                intro o1246
                have hh1247 := Hid.i p1244
                clear p1244
                have f1248 : Fr pT I1180 I1241 := (Hid.o hh1247).2.2.2.2.1
                have f1249 : Fr (pW v1.toInt) I I1241 := Fr.tr f1188 f1248 (fun _ _ => trivial)
                have m1250 : PMp I1180 I1241 := (PMp.keep (Hid.o hh1247).1 (Hid.o hh1247).2.2.1 (Hid.o hh1247).2.2.2.1)
                have q1251 : (61 : Int32).toInt = 61 := rfl
                have e1252 : ((I1180 97 14) : Int32).toInt = (I1076 97 14).toInt := Eq.trans (congrArg Int32.toInt (Eq.trans (Eq.trans (Eq.trans (Hid.o hh1186).2.2.1 (Hid.o hh1125).2.2.1) (rd_ne (by first | decide | omega))) (rd_ne (by first | decide | omega)))) rfl
                have i1253 := i32 x1240
                refine ⟨fun c1254 => ?_, fun c1254 => ?_⟩
                · skip
                  have d1255 : ((x1240.toInt) : Int) = (0) := ci_eq rfl rfl c1254
                  refine sp_X12_must hB1243 hR0 (fun x1256 y1261 I1257 J1258 hB1259 p1260 => ?_)
                  have hh1262 := Hid.i p1260
                  clear p1260
                  have f1263 : Fr pT I1241 I1257 := (Hid.o hh1262).2.1
                  have f1264 : Fr (pW v1.toInt) I I1257 := Fr.tr f1249 f1263 (fun _ _ => trivial)
                  have m1265 : PMp I1241 I1257 := (PMp.mk (Hid.o hh1262).2.2.1 (Hid.o hh1262).2.2.2.1)
                  have q1266 : (0 : Int32).toInt = 0 := rfl
                  have e1267 : ((I1241 97 12) : Int32).toInt = (I1076 97 12).toInt := Eq.trans (congrArg Int32.toInt (Eq.trans (Eq.trans (Eq.trans (Eq.trans (Hid.o hh1247).1 (Hid.o hh1186).1) (Hid.o hh1125).1) (rd_ne (by first | decide | omega))) (rd_ne (by first | decide | omega)))) rfl
                  have e1268 : ((I1241 97 14) : Int32).toInt = (I1076 97 14).toInt := Eq.trans (congrArg Int32.toInt (Eq.trans (Eq.trans (Eq.trans (Eq.trans (Hid.o hh1247).2.2.1 (Hid.o hh1186).2.2.1) (Hid.o hh1125).2.2.1) (rd_ne (by first | decide | omega))) (rd_ne (by first | decide | omega)))) rfl
                  have e1269 : ((I1241 97 16) : Int32).toInt = (I1076 97 16).toInt := Eq.trans (congrArg Int32.toInt (Eq.trans (Eq.trans (Eq.trans (Eq.trans (Hid.o hh1247).2.2.2.1 (Hid.o hh1186).2.2.2.1) (Hid.o hh1125).2.2.2.1) (rd_ne (by first | decide | omega))) (rd_ne (by first | decide | omega)))) rfl
                  have b1270 := Bd.o hB1259 (show isO 112 97 12 = true from rfl) (show bnd 12 12 = some _ from rfl)
                  have b1271 := Bd.o hB1259 (show isO 112 97 12 = true from rfl) (show bnd 12 14 = some _ from rfl)
                  have b1272 := Bd.o hB1259 (show isO 112 97 12 = true from rfl) (show bnd 12 16 = some _ from rfl)
                  refine sp_X12_count hB1259 hR0 (fun x1273 y1278 I1274 J1275 hB1276 p1277 => ?_)
                  have hh1279 := Hid.i p1277
                  clear p1277
                  have f1280 : Fr pT I1257 I1274 := (Hid.o hh1279).2.1
                  have f1281 : Fr (pW v1.toInt) I I1274 := Fr.tr f1264 f1280 (fun _ _ => trivial)
                  have m1282 : PMp I1257 I1274 := (PMp.mk (Hid.o hh1279).2.2.1 (Hid.o hh1279).2.2.2.1)
                  have wr1283 := Or.imp (fun z => z.2) (fun z => And.intro z.1 z.2.1) (Hid.o hh1279).2.2.2.2
                  have q1284 : (0 : Int32).toInt = 0 := rfl
                  have q1285 : (99 : Int32).toInt = 99 := rfl
                  have b1286 := Bd.o hB1276 (show isO 112 97 12 = true from rfl) (show bnd 12 12 = some _ from rfl)
                  have b1287 := Bd.o hB1276 (show isO 112 97 12 = true from rfl) (show bnd 12 14 = some _ from rfl)
                  have b1288 := Bd.o hB1276 (show isO 112 97 12 = true from rfl) (show bnd 12 16 = some _ from rfl)
                  have i1289 := i32 x1273
                  have e1290 : ((v1 + 6) : Int32).toInt = (v1.toInt) + (6) := ti_add rfl rfl (by omega)
                  refine ⟨vp_of (a := (v1.toInt + 6)) e1290 (by omega) (by omega), ?_⟩
                  have hB1291 : Bd (uI I1274 102 (Int32.toNatClampNeg (v1 + 6)) x1273) := Bd.cnew hB1276 (show ((v1 + 6) : Int32).toInt = (v1.toInt + 6) from e1290) (show (x1273 : Int32).toInt = x1273.toInt from rfl) (by omega) (by omega) (by omega) 
                  have f1292 : Fr (pW v1.toInt) I (uI I1274 102 (Int32.toNatClampNeg (v1 + 6)) x1273) := Fr.w f1281 (show ((v1 + 6) : Int32).toInt = (v1.toInt + 6) from e1290) (by omega) (fun j hj hp => by unfold pW at hp; omega)
                  have td1293 : (((uI I1051 102 (Int32.toNatClampNeg (v1 + 5)) x1) 102 0)).toInt = (I 102 0).toInt := e1088
                  have e1294 : (((uI I1274 102 (Int32.toNatClampNeg (v1 + 6)) x1273) 102 (Int32.toNatClampNeg (v1 + 1))) : Int32).toInt = x1075.toInt := Eq.trans (congrArg Int32.toInt (Eq.trans (Eq.trans (Eq.trans (Eq.trans (Eq.trans (Eq.trans (Eq.trans (rd_k (fun z => by have z1 := tn_of (show ((v1 + 1) : Int32).toInt = (v1.toInt + 1) from e1096) (by omega); have z2 := tn_of (show ((v1 + 6) : Int32).toInt = (v1.toInt + 6) from e1290) (by omega); omega)) (f1280.1 (Int32.toNatClampNeg (v1 + 1)) trivial)) (f1263.1 (Int32.toNatClampNeg (v1 + 1)) trivial)) (f1248.1 (Int32.toNatClampNeg (v1 + 1)) trivial)) (f1187.1 (Int32.toNatClampNeg (v1 + 1)) trivial)) (f1126.1 (Int32.toNatClampNeg (v1 + 1)) trivial)) (rd_k (fun z => by have z1 := tn_of (show ((v1 + 1) : Int32).toInt = (v1.toInt + 1) from e1096) (by omega); have z2 := tn_of (show ((v1 + 7) : Int32).toInt = (v1.toInt + 7) from e1115) (by omega); omega))) rd_eq)) rfl
                  have fl1295 : (((uI I1274 102 (Int32.toNatClampNeg (v1 + 6)) x1273) 102 (Int32.toNatClampNeg (v1 + 1))) : Int32).toInt = x1075.toInt := e1294
                  have e1296 : (((uI I1274 102 (Int32.toNatClampNeg (v1 + 6)) x1273) 102 (Int32.toNatClampNeg (v1 + 5))) : Int32).toInt = x1.toInt := Eq.trans (congrArg Int32.toInt (Eq.trans (Eq.trans (Eq.trans (Eq.trans (Eq.trans (Eq.trans (Eq.trans (Eq.trans (Eq.trans (rd_k (fun z => by have z1 := tn_of (show ((v1 + 5) : Int32).toInt = (v1.toInt + 5) from e1070) (by omega); have z2 := tn_of (show ((v1 + 6) : Int32).toInt = (v1.toInt + 6) from e1290) (by omega); omega)) (f1280.1 (Int32.toNatClampNeg (v1 + 5)) trivial)) (f1263.1 (Int32.toNatClampNeg (v1 + 5)) trivial)) (f1248.1 (Int32.toNatClampNeg (v1 + 5)) trivial)) (f1187.1 (Int32.toNatClampNeg (v1 + 5)) trivial)) (f1126.1 (Int32.toNatClampNeg (v1 + 5)) trivial)) (rd_k (fun z => by have z1 := tn_of (show ((v1 + 5) : Int32).toInt = (v1.toInt + 5) from e1070) (by omega); have z2 := tn_of (show ((v1 + 7) : Int32).toInt = (v1.toInt + 7) from e1115) (by omega); omega))) (rd_k (fun z => by have z1 := tn_of (show ((v1 + 5) : Int32).toInt = (v1.toInt + 5) from e1070) (by omega); have z2 := tn_of (show ((v1 + 1) : Int32).toInt = (v1.toInt + 1) from e1096) (by omega); omega))) (f1082.1 (Int32.toNatClampNeg (v1 + 5)) trivial)) rd_eq)) rfl
                  have fl1297 : (((uI I1274 102 (Int32.toNatClampNeg (v1 + 6)) x1273) 102 (Int32.toNatClampNeg (v1 + 5))) : Int32).toInt = x1.toInt := e1296
                  have e1298 : (((uI I1274 102 (Int32.toNatClampNeg (v1 + 6)) x1273) 97 12) : Int32).toInt = (I1274 97 12).toInt := Eq.trans (congrArg Int32.toInt (rd_ne (by first | decide | omega))) rfl
                  have fl1299 : (((uI I1274 102 (Int32.toNatClampNeg (v1 + 6)) x1273) 97 12) : Int32).toInt = (I1274 97 12).toInt := e1298
                  exact hQ _ _ _ _ hB1291 ⟨(Eq.trans (Eq.trans (Eq.trans (Eq.trans (Eq.trans (Eq.trans (Eq.trans (Eq.trans (Eq.trans (Eq.trans (Eq.trans (rd_ne (by first | decide | omega)) (Hid.o hh1279).1) (Hid.o hh1262).1) (Hid.o hh1247).2.1) (Hid.o hh1186).2.1) (Hid.o hh1125).2.1) (rd_ne (by first | decide | omega))) (rd_ne (by first | decide | omega))) (Hid.o hh1081).1) (rd_ne (by first | decide | omega))) (Hid.o hh1056).1) (Hid.o hh7).2.1), f1292, (PMp.o (PMp.tr (PMp.tr (PMp.tr (PMp.tr (PMp.tr (PMp.o (PMp.o (PMp.tr (PMp.o (PMp.tr (PMp.tr (PMp.refl I) m10) m1059) (show ¬ (97 : Nat) = 102 by decide)) m1084) (show ¬ (97 : Nat) = 102 by decide)) (show ¬ (97 : Nat) = 102 by decide)) m1128) m1189) m1250) m1265) m1282) (show ¬ (97 : Nat) = 102 by decide)), (fun hz => by have op0 := (Hid.o hh1081).2.2.2 (PMp.bad (PMp.o (PMp.tr (PMp.tr (PMp.tr (PMp.tr (PMp.tr (PMp.o (PMp.o (PMp.refl I1076) (show ¬ (97 : Nat) = 102 by decide)) (show ¬ (97 : Nat) = 102 by decide)) m1128) m1189) m1250) m1265) m1282) (show ¬ (97 : Nat) = 102 by decide)) hz) rfl; have op1 := Or.resolve_left (Hid.o hh1279).2.2.2.2 (fun z => by have b := PMp.bad (PMp.o (PMp.refl I1274) (show ¬ (97 : Nat) = 102 by decide)) hz; omega); omega)⟩
                · skip
                  have d1300 : ¬ ((x1240.toInt) : Int) = (0) := ci_ne rfl rfl c1254
                  refine sp_X12_must hB1243 hR0 (fun x1301 y1306 I1302 J1303 hB1304 p1305 => ?_)
                  have hh1307 := Hid.i p1305
                  clear p1305
                  have f1308 : Fr pT I1241 I1302 := (Hid.o hh1307).2.1
                  have f1309 : Fr (pW v1.toInt) I I1302 := Fr.tr f1249 f1308 (fun _ _ => trivial)
                  have m1310 : PMp I1241 I1302 := (PMp.mk (Hid.o hh1307).2.2.1 (Hid.o hh1307).2.2.2.1)
                  have q1311 : (1 : Int32).toInt = 1 := rfl
                  have e1312 : ((I1241 97 12) : Int32).toInt = (I1076 97 12).toInt := Eq.trans (congrArg Int32.toInt (Eq.trans (Eq.trans (Eq.trans (Eq.trans (Hid.o hh1247).1 (Hid.o hh1186).1) (Hid.o hh1125).1) (rd_ne (by first | decide | omega))) (rd_ne (by first | decide | omega)))) rfl
                  have e1313 : ((I1241 97 14) : Int32).toInt = (I1076 97 14).toInt := Eq.trans (congrArg Int32.toInt (Eq.trans (Eq.trans (Eq.trans (Eq.trans (Hid.o hh1247).2.2.1 (Hid.o hh1186).2.2.1) (Hid.o hh1125).2.2.1) (rd_ne (by first | decide | omega))) (rd_ne (by first | decide | omega)))) rfl
                  have e1314 : ((I1241 97 16) : Int32).toInt = (I1076 97 16).toInt := Eq.trans (congrArg Int32.toInt (Eq.trans (Eq.trans (Eq.trans (Eq.trans (Hid.o hh1247).2.2.2.1 (Hid.o hh1186).2.2.2.1) (Hid.o hh1125).2.2.2.1) (rd_ne (by first | decide | omega))) (rd_ne (by first | decide | omega)))) rfl
                  have b1315 := Bd.o hB1304 (show isO 112 97 12 = true from rfl) (show bnd 12 12 = some _ from rfl)
                  have b1316 := Bd.o hB1304 (show isO 112 97 12 = true from rfl) (show bnd 12 14 = some _ from rfl)
                  have b1317 := Bd.o hB1304 (show isO 112 97 12 = true from rfl) (show bnd 12 16 = some _ from rfl)
                  refine sp_X12_count hB1304 hR0 (fun x1318 y1323 I1319 J1320 hB1321 p1322 => ?_)
                  have hh1324 := Hid.i p1322
                  clear p1322
                  have f1325 : Fr pT I1302 I1319 := (Hid.o hh1324).2.1
                  have f1326 : Fr (pW v1.toInt) I I1319 := Fr.tr f1309 f1325 (fun _ _ => trivial)
                  have m1327 : PMp I1302 I1319 := (PMp.mk (Hid.o hh1324).2.2.1 (Hid.o hh1324).2.2.2.1)
                  have wr1328 := Or.imp (fun z => z.2) (fun z => And.intro z.1 z.2.1) (Hid.o hh1324).2.2.2.2
                  have q1329 : (0 : Int32).toInt = 0 := rfl
                  have q1330 : (99 : Int32).toInt = 99 := rfl
                  have b1331 := Bd.o hB1321 (show isO 112 97 12 = true from rfl) (show bnd 12 12 = some _ from rfl)
                  have b1332 := Bd.o hB1321 (show isO 112 97 12 = true from rfl) (show bnd 12 14 = some _ from rfl)
                  have b1333 := Bd.o hB1321 (show isO 112 97 12 = true from rfl) (show bnd 12 16 = some _ from rfl)
                  have i1334 := i32 x1318
                  have e1335 : ((v1 + 6) : Int32).toInt = (v1.toInt) + (6) := ti_add rfl rfl (by omega)
                  refine ⟨vp_of (a := (v1.toInt + 6)) e1335 (by omega) (by omega), ?_⟩
                  have hB1336 : Bd (uI I1319 102 (Int32.toNatClampNeg (v1 + 6)) x1318) := Bd.cnew hB1321 (show ((v1 + 6) : Int32).toInt = (v1.toInt + 6) from e1335) (show (x1318 : Int32).toInt = x1318.toInt from rfl) (by omega) (by omega) (by omega) 
                  have f1337 : Fr (pW v1.toInt) I (uI I1319 102 (Int32.toNatClampNeg (v1 + 6)) x1318) := Fr.w f1326 (show ((v1 + 6) : Int32).toInt = (v1.toInt + 6) from e1335) (by omega) (fun j hj hp => by unfold pW at hp; omega)
                  have td1338 : (((uI I1051 102 (Int32.toNatClampNeg (v1 + 5)) x1) 102 0)).toInt = (I 102 0).toInt := e1088
                  have e1339 : (((uI I1319 102 (Int32.toNatClampNeg (v1 + 6)) x1318) 102 (Int32.toNatClampNeg (v1 + 1))) : Int32).toInt = x1075.toInt := Eq.trans (congrArg Int32.toInt (Eq.trans (Eq.trans (Eq.trans (Eq.trans (Eq.trans (Eq.trans (Eq.trans (rd_k (fun z => by have z1 := tn_of (show ((v1 + 1) : Int32).toInt = (v1.toInt + 1) from e1096) (by omega); have z2 := tn_of (show ((v1 + 6) : Int32).toInt = (v1.toInt + 6) from e1335) (by omega); omega)) (f1325.1 (Int32.toNatClampNeg (v1 + 1)) trivial)) (f1308.1 (Int32.toNatClampNeg (v1 + 1)) trivial)) (f1248.1 (Int32.toNatClampNeg (v1 + 1)) trivial)) (f1187.1 (Int32.toNatClampNeg (v1 + 1)) trivial)) (f1126.1 (Int32.toNatClampNeg (v1 + 1)) trivial)) (rd_k (fun z => by have z1 := tn_of (show ((v1 + 1) : Int32).toInt = (v1.toInt + 1) from e1096) (by omega); have z2 := tn_of (show ((v1 + 7) : Int32).toInt = (v1.toInt + 7) from e1115) (by omega); omega))) rd_eq)) rfl
                  have fl1340 : (((uI I1319 102 (Int32.toNatClampNeg (v1 + 6)) x1318) 102 (Int32.toNatClampNeg (v1 + 1))) : Int32).toInt = x1075.toInt := e1339
                  have e1341 : (((uI I1319 102 (Int32.toNatClampNeg (v1 + 6)) x1318) 102 (Int32.toNatClampNeg (v1 + 5))) : Int32).toInt = x1.toInt := Eq.trans (congrArg Int32.toInt (Eq.trans (Eq.trans (Eq.trans (Eq.trans (Eq.trans (Eq.trans (Eq.trans (Eq.trans (Eq.trans (rd_k (fun z => by have z1 := tn_of (show ((v1 + 5) : Int32).toInt = (v1.toInt + 5) from e1070) (by omega); have z2 := tn_of (show ((v1 + 6) : Int32).toInt = (v1.toInt + 6) from e1335) (by omega); omega)) (f1325.1 (Int32.toNatClampNeg (v1 + 5)) trivial)) (f1308.1 (Int32.toNatClampNeg (v1 + 5)) trivial)) (f1248.1 (Int32.toNatClampNeg (v1 + 5)) trivial)) (f1187.1 (Int32.toNatClampNeg (v1 + 5)) trivial)) (f1126.1 (Int32.toNatClampNeg (v1 + 5)) trivial)) (rd_k (fun z => by have z1 := tn_of (show ((v1 + 5) : Int32).toInt = (v1.toInt + 5) from e1070) (by omega); have z2 := tn_of (show ((v1 + 7) : Int32).toInt = (v1.toInt + 7) from e1115) (by omega); omega))) (rd_k (fun z => by have z1 := tn_of (show ((v1 + 5) : Int32).toInt = (v1.toInt + 5) from e1070) (by omega); have z2 := tn_of (show ((v1 + 1) : Int32).toInt = (v1.toInt + 1) from e1096) (by omega); omega))) (f1082.1 (Int32.toNatClampNeg (v1 + 5)) trivial)) rd_eq)) rfl
                  have fl1342 : (((uI I1319 102 (Int32.toNatClampNeg (v1 + 6)) x1318) 102 (Int32.toNatClampNeg (v1 + 5))) : Int32).toInt = x1.toInt := e1341
                  have e1343 : (((uI I1319 102 (Int32.toNatClampNeg (v1 + 6)) x1318) 97 12) : Int32).toInt = (I1319 97 12).toInt := Eq.trans (congrArg Int32.toInt (rd_ne (by first | decide | omega))) rfl
                  have fl1344 : (((uI I1319 102 (Int32.toNatClampNeg (v1 + 6)) x1318) 97 12) : Int32).toInt = (I1319 97 12).toInt := e1343
                  exact hQ _ _ _ _ hB1336 ⟨(Eq.trans (Eq.trans (Eq.trans (Eq.trans (Eq.trans (Eq.trans (Eq.trans (Eq.trans (Eq.trans (Eq.trans (Eq.trans (rd_ne (by first | decide | omega)) (Hid.o hh1324).1) (Hid.o hh1307).1) (Hid.o hh1247).2.1) (Hid.o hh1186).2.1) (Hid.o hh1125).2.1) (rd_ne (by first | decide | omega))) (rd_ne (by first | decide | omega))) (Hid.o hh1081).1) (rd_ne (by first | decide | omega))) (Hid.o hh1056).1) (Hid.o hh7).2.1), f1337, (PMp.o (PMp.tr (PMp.tr (PMp.tr (PMp.tr (PMp.tr (PMp.o (PMp.o (PMp.tr (PMp.o (PMp.tr (PMp.tr (PMp.refl I) m10) m1059) (show ¬ (97 : Nat) = 102 by decide)) m1084) (show ¬ (97 : Nat) = 102 by decide)) (show ¬ (97 : Nat) = 102 by decide)) m1128) m1189) m1250) m1310) m1327) (show ¬ (97 : Nat) = 102 by decide)), (fun hz => by have op0 := (Hid.o hh1081).2.2.2 (PMp.bad (PMp.o (PMp.tr (PMp.tr (PMp.tr (PMp.tr (PMp.tr (PMp.o (PMp.o (PMp.refl I1076) (show ¬ (97 : Nat) = 102 by decide)) (show ¬ (97 : Nat) = 102 by decide)) m1128) m1189) m1250) m1310) m1327) (show ¬ (97 : Nat) = 102 by decide)) hz) rfl; have op1 := Or.resolve_left (Hid.o hh1324).2.2.2.2 (fun z => by have b := PMp.bad (PMp.o (PMp.refl I1319) (show ¬ (97 : Nat) = 102 by decide)) hz; omega); omega)⟩
          · skip
            have e1345 : (((uI I1076 102 (Int32.toNatClampNeg (v1 + 1)) x1075) 97 14) : Int32).toInt = (I1076 97 14).toInt := Eq.trans (congrArg Int32.toInt (rd_ne (by first | decide | omega))) rfl
            have d1346 : (((I1076 97 14).toInt) : Int) = (3) := ci_eq e1345 rfl c1112
            have e1347 : ((v1 + 7) : Int32).toInt = (v1.toInt) + (7) := ti_add rfl rfl (by omega)
            refine ⟨vp_of (a := (v1.toInt + 7)) e1347 (by omega) (by omega), ?_⟩
            have e1349 : (((uI I1076 102 (Int32.toNatClampNeg (v1 + 1)) x1075) 97 17) : Int32).toInt = (I1076 97 17).toInt := Eq.trans (congrArg Int32.toInt (rd_ne (by first | decide | omega))) rfl
            have hB1348 : Bd (uI (uI I1076 102 (Int32.toNatClampNeg (v1 + 1)) x1075) 102 (Int32.toNatClampNeg (v1 + 7)) ((uI I1076 102 (Int32.toNatClampNeg (v1 + 1)) x1075) 97 17)) := Bd.cnew hB1097 (show ((v1 + 7) : Int32).toInt = (v1.toInt + 7) from e1347) (show (((uI I1076 102 (Int32.toNatClampNeg (v1 + 1)) x1075) 97 17) : Int32).toInt = (I1076 97 17).toInt from e1349) (by omega) (by omega) (by omega) 
            have f1350 : Fr (pW v1.toInt) I (uI (uI I1076 102 (Int32.toNatClampNeg (v1 + 1)) x1075) 102 (Int32.toNatClampNeg (v1 + 7)) ((uI I1076 102 (Int32.toNatClampNeg (v1 + 1)) x1075) 97 17)) := Fr.w f1098 (show ((v1 + 7) : Int32).toInt = (v1.toInt + 7) from e1347) (by omega) (fun j hj hp => by unfold pW at hp; omega)
            refine sp_X12_isSign hB1348 hR0 (fun x1351 y1356 I1352 J1353 hB1354 p1355 => ?_)
            intro o1357
            have hh1358 := Hid.i p1355
            clear p1355
            have f1359 : Fr pT (uI (uI I1076 102 (Int32.toNatClampNeg (v1 + 1)) x1075) 102 (Int32.toNatClampNeg (v1 + 7)) ((uI I1076 102 (Int32.toNatClampNeg (v1 + 1)) x1075) 97 17)) I1352 := (Hid.o hh1358).2.2.2.2.1
            have f1360 : Fr (pW v1.toInt) I I1352 := Fr.tr f1350 f1359 (fun _ _ => trivial)
            have m1361 : PMp (uI (uI I1076 102 (Int32.toNatClampNeg (v1 + 1)) x1075) 102 (Int32.toNatClampNeg (v1 + 7)) ((uI I1076 102 (Int32.toNatClampNeg (v1 + 1)) x1075) 97 17)) I1352 := (PMp.keep (Hid.o hh1358).1 (Hid.o hh1358).2.2.1 (Hid.o hh1358).2.2.2.1)
            have q1362 : (60 : Int32).toInt = 60 := rfl
            have e1363 : (((uI (uI I1076 102 (Int32.toNatClampNeg (v1 + 1)) x1075) 102 (Int32.toNatClampNeg (v1 + 7)) ((uI I1076 102 (Int32.toNatClampNeg (v1 + 1)) x1075) 97 17)) 97 14) : Int32).toInt = (I1076 97 14).toInt := Eq.trans (congrArg Int32.toInt (Eq.trans (rd_ne (by first | decide | omega)) (rd_ne (by first | decide | omega)))) rfl
            have i1364 := i32 x1351
            refine ⟨fun c1365 => ?_, fun c1365 => ?_⟩
            · skip
              have d1366 : ¬ ((x1351.toInt) : Int) = (0) := ci_ne rfl rfl c1365
              refine sp_X12_must hB1354 hR0 (fun x1367 y1372 I1368 J1369 hB1370 p1371 => ?_)
              have hh1373 := Hid.i p1371
              clear p1371
              have f1374 : Fr pT I1352 I1368 := (Hid.o hh1373).2.1
              have f1375 : Fr (pW v1.toInt) I I1368 := Fr.tr f1360 f1374 (fun _ _ => trivial)
              have m1376 : PMp I1352 I1368 := (PMp.mk (Hid.o hh1373).2.2.1 (Hid.o hh1373).2.2.2.1)
              have q1377 : (1 : Int32).toInt = 1 := rfl
              have e1378 : ((I1352 97 12) : Int32).toInt = (I1076 97 12).toInt := Eq.trans (congrArg Int32.toInt (Eq.trans (Eq.trans (Hid.o hh1358).1 (rd_ne (by first | decide | omega))) (rd_ne (by first | decide | omega)))) rfl
              have e1379 : ((I1352 97 14) : Int32).toInt = (I1076 97 14).toInt := Eq.trans (congrArg Int32.toInt (Eq.trans (Eq.trans (Hid.o hh1358).2.2.1 (rd_ne (by first | decide | omega))) (rd_ne (by first | decide | omega)))) rfl
              have e1380 : ((I1352 97 16) : Int32).toInt = (I1076 97 16).toInt := Eq.trans (congrArg Int32.toInt (Eq.trans (Eq.trans (Hid.o hh1358).2.2.2.1 (rd_ne (by first | decide | omega))) (rd_ne (by first | decide | omega)))) rfl
              have b1381 := Bd.o hB1370 (show isO 112 97 12 = true from rfl) (show bnd 12 12 = some _ from rfl)
              have b1382 := Bd.o hB1370 (show isO 112 97 12 = true from rfl) (show bnd 12 14 = some _ from rfl)
              have b1383 := Bd.o hB1370 (show isO 112 97 12 = true from rfl) (show bnd 12 16 = some _ from rfl)
              refine sp_X12_count hB1370 hR0 (fun x1384 y1389 I1385 J1386 hB1387 p1388 => ?_)
              have hh1390 := Hid.i p1388
              clear p1388
              have f1391 : Fr pT I1368 I1385 := (Hid.o hh1390).2.1
              have f1392 : Fr (pW v1.toInt) I I1385 := Fr.tr f1375 f1391 (fun _ _ => trivial)
              have m1393 : PMp I1368 I1385 := (PMp.mk (Hid.o hh1390).2.2.1 (Hid.o hh1390).2.2.2.1)
              have wr1394 := Or.imp (fun z => z.2) (fun z => And.intro z.1 z.2.1) (Hid.o hh1390).2.2.2.2
              have q1395 : (0 : Int32).toInt = 0 := rfl
              have q1396 : (99 : Int32).toInt = 99 := rfl
              have b1397 := Bd.o hB1387 (show isO 112 97 12 = true from rfl) (show bnd 12 12 = some _ from rfl)
              have b1398 := Bd.o hB1387 (show isO 112 97 12 = true from rfl) (show bnd 12 14 = some _ from rfl)
              have b1399 := Bd.o hB1387 (show isO 112 97 12 = true from rfl) (show bnd 12 16 = some _ from rfl)
              have i1400 := i32 x1384
              have e1401 : ((v1 + 6) : Int32).toInt = (v1.toInt) + (6) := ti_add rfl rfl (by omega)
              refine ⟨vp_of (a := (v1.toInt + 6)) e1401 (by omega) (by omega), ?_⟩
              have hB1402 : Bd (uI I1385 102 (Int32.toNatClampNeg (v1 + 6)) x1384) := Bd.cnew hB1387 (show ((v1 + 6) : Int32).toInt = (v1.toInt + 6) from e1401) (show (x1384 : Int32).toInt = x1384.toInt from rfl) (by omega) (by omega) (by omega) 
              have f1403 : Fr (pW v1.toInt) I (uI I1385 102 (Int32.toNatClampNeg (v1 + 6)) x1384) := Fr.w f1392 (show ((v1 + 6) : Int32).toInt = (v1.toInt + 6) from e1401) (by omega) (fun j hj hp => by unfold pW at hp; omega)
              have td1404 : (((uI I1051 102 (Int32.toNatClampNeg (v1 + 5)) x1) 102 0)).toInt = (I 102 0).toInt := e1088
              have e1405 : (((uI I1385 102 (Int32.toNatClampNeg (v1 + 6)) x1384) 102 (Int32.toNatClampNeg (v1 + 1))) : Int32).toInt = x1075.toInt := Eq.trans (congrArg Int32.toInt (Eq.trans (Eq.trans (Eq.trans (Eq.trans (Eq.trans (rd_k (fun z => by have z1 := tn_of (show ((v1 + 1) : Int32).toInt = (v1.toInt + 1) from e1096) (by omega); have z2 := tn_of (show ((v1 + 6) : Int32).toInt = (v1.toInt + 6) from e1401) (by omega); omega)) (f1391.1 (Int32.toNatClampNeg (v1 + 1)) trivial)) (f1374.1 (Int32.toNatClampNeg (v1 + 1)) trivial)) (f1359.1 (Int32.toNatClampNeg (v1 + 1)) trivial)) (rd_k (fun z => by have z1 := tn_of (show ((v1 + 1) : Int32).toInt = (v1.toInt + 1) from e1096) (by omega); have z2 := tn_of (show ((v1 + 7) : Int32).toInt = (v1.toInt + 7) from e1347) (by omega); omega))) rd_eq)) rfl
              have fl1406 : (((uI I1385 102 (Int32.toNatClampNeg (v1 + 6)) x1384) 102 (Int32.toNatClampNeg (v1 + 1))) : Int32).toInt = x1075.toInt := e1405
              have e1407 : (((uI I1385 102 (Int32.toNatClampNeg (v1 + 6)) x1384) 102 (Int32.toNatClampNeg (v1 + 5))) : Int32).toInt = x1.toInt := Eq.trans (congrArg Int32.toInt (Eq.trans (Eq.trans (Eq.trans (Eq.trans (Eq.trans (Eq.trans (Eq.trans (rd_k (fun z => by have z1 := tn_of (show ((v1 + 5) : Int32).toInt = (v1.toInt + 5) from e1070) (by omega); have z2 := tn_of (show ((v1 + 6) : Int32).toInt = (v1.toInt + 6) from e1401) (by omega); omega)) (f1391.1 (Int32.toNatClampNeg (v1 + 5)) trivial)) (f1374.1 (Int32.toNatClampNeg (v1 + 5)) trivial)) (f1359.1 (Int32.toNatClampNeg (v1 + 5)) trivial)) (rd_k (fun z => by have z1 := tn_of (show ((v1 + 5) : Int32).toInt = (v1.toInt + 5) from e1070) (by omega); have z2 := tn_of (show ((v1 + 7) : Int32).toInt = (v1.toInt + 7) from e1347) (by omega); omega))) (rd_k (fun z => by have z1 := tn_of (show ((v1 + 5) : Int32).toInt = (v1.toInt + 5) from e1070) (by omega); have z2 := tn_of (show ((v1 + 1) : Int32).toInt = (v1.toInt + 1) from e1096) (by omega); omega))) (f1082.1 (Int32.toNatClampNeg (v1 + 5)) trivial)) rd_eq)) rfl
              have fl1408 : (((uI I1385 102 (Int32.toNatClampNeg (v1 + 6)) x1384) 102 (Int32.toNatClampNeg (v1 + 5))) : Int32).toInt = x1.toInt := e1407
              have e1409 : (((uI I1385 102 (Int32.toNatClampNeg (v1 + 6)) x1384) 97 12) : Int32).toInt = (I1385 97 12).toInt := Eq.trans (congrArg Int32.toInt (rd_ne (by first | decide | omega))) rfl
              have fl1410 : (((uI I1385 102 (Int32.toNatClampNeg (v1 + 6)) x1384) 97 12) : Int32).toInt = (I1385 97 12).toInt := e1409
              exact hQ _ _ _ _ hB1402 ⟨(Eq.trans (Eq.trans (Eq.trans (Eq.trans (Eq.trans (Eq.trans (Eq.trans (Eq.trans (Eq.trans (rd_ne (by first | decide | omega)) (Hid.o hh1390).1) (Hid.o hh1373).1) (Hid.o hh1358).2.1) (rd_ne (by first | decide | omega))) (rd_ne (by first | decide | omega))) (Hid.o hh1081).1) (rd_ne (by first | decide | omega))) (Hid.o hh1056).1) (Hid.o hh7).2.1), f1403, (PMp.o (PMp.tr (PMp.tr (PMp.tr (PMp.o (PMp.o (PMp.tr (PMp.o (PMp.tr (PMp.tr (PMp.refl I) m10) m1059) (show ¬ (97 : Nat) = 102 by decide)) m1084) (show ¬ (97 : Nat) = 102 by decide)) (show ¬ (97 : Nat) = 102 by decide)) m1361) m1376) m1393) (show ¬ (97 : Nat) = 102 by decide)), (fun hz => by have op0 := (Hid.o hh1081).2.2.2 (PMp.bad (PMp.o (PMp.tr (PMp.tr (PMp.tr (PMp.o (PMp.o (PMp.refl I1076) (show ¬ (97 : Nat) = 102 by decide)) (show ¬ (97 : Nat) = 102 by decide)) m1361) m1376) m1393) (show ¬ (97 : Nat) = 102 by decide)) hz) rfl; have op1 := Or.resolve_left (Hid.o hh1390).2.2.2.2 (fun z => by have b := PMp.bad (PMp.o (PMp.refl I1385) (show ¬ (97 : Nat) = 102 by decide)) hz; omega); omega)⟩
            · skip
              have d1411 : ((x1351.toInt) : Int) = (0) := ci_eq rfl rfl c1365
              refine sp_X12_isSign hB1354 hR0 (fun x1412 y1417 I1413 J1414 hB1415 p1416 => ?_)
              intro o1418
              have hh1419 := Hid.i p1416
              clear p1416
              have f1420 : Fr pT I1352 I1413 := (Hid.o hh1419).2.2.2.2.1
              have f1421 : Fr (pW v1.toInt) I I1413 := Fr.tr f1360 f1420 (fun _ _ => trivial)
              have m1422 : PMp I1352 I1413 := (PMp.keep (Hid.o hh1419).1 (Hid.o hh1419).2.2.1 (Hid.o hh1419).2.2.2.1)
              have q1423 : (62 : Int32).toInt = 62 := rfl
              have e1424 : ((I1352 97 14) : Int32).toInt = (I1076 97 14).toInt := Eq.trans (congrArg Int32.toInt (Eq.trans (Eq.trans (Hid.o hh1358).2.2.1 (rd_ne (by first | decide | omega))) (rd_ne (by first | decide | omega)))) rfl
              have i1425 := i32 x1412
              refine ⟨fun c1426 => ?_, fun c1426 => ?_⟩
              · skip
                have d1427 : ¬ ((x1412.toInt) : Int) = (0) := ci_ne rfl rfl c1426
                refine sp_X12_must hB1415 hR0 (fun x1428 y1433 I1429 J1430 hB1431 p1432 => ?_)
                have hh1434 := Hid.i p1432
                clear p1432
                have f1435 : Fr pT I1413 I1429 := (Hid.o hh1434).2.1
                have f1436 : Fr (pW v1.toInt) I I1429 := Fr.tr f1421 f1435 (fun _ _ => trivial)
                have m1437 : PMp I1413 I1429 := (PMp.mk (Hid.o hh1434).2.2.1 (Hid.o hh1434).2.2.2.1)
                have q1438 : (1 : Int32).toInt = 1 := rfl
                have e1439 : ((I1413 97 12) : Int32).toInt = (I1076 97 12).toInt := Eq.trans (congrArg Int32.toInt (Eq.trans (Eq.trans (Eq.trans (Hid.o hh1419).1 (Hid.o hh1358).1) (rd_ne (by first | decide | omega))) (rd_ne (by first | decide | omega)))) rfl
                have e1440 : ((I1413 97 14) : Int32).toInt = (I1076 97 14).toInt := Eq.trans (congrArg Int32.toInt (Eq.trans (Eq.trans (Eq.trans (Hid.o hh1419).2.2.1 (Hid.o hh1358).2.2.1) (rd_ne (by first | decide | omega))) (rd_ne (by first | decide | omega)))) rfl
                have e1441 : ((I1413 97 16) : Int32).toInt = (I1076 97 16).toInt := Eq.trans (congrArg Int32.toInt (Eq.trans (Eq.trans (Eq.trans (Hid.o hh1419).2.2.2.1 (Hid.o hh1358).2.2.2.1) (rd_ne (by first | decide | omega))) (rd_ne (by first | decide | omega)))) rfl
                have b1442 := Bd.o hB1431 (show isO 112 97 12 = true from rfl) (show bnd 12 12 = some _ from rfl)
                have b1443 := Bd.o hB1431 (show isO 112 97 12 = true from rfl) (show bnd 12 14 = some _ from rfl)
                have b1444 := Bd.o hB1431 (show isO 112 97 12 = true from rfl) (show bnd 12 16 = some _ from rfl)
                refine sp_X12_count hB1431 hR0 (fun x1445 y1450 I1446 J1447 hB1448 p1449 => ?_)
                have hh1451 := Hid.i p1449
                clear p1449
                have f1452 : Fr pT I1429 I1446 := (Hid.o hh1451).2.1
                have f1453 : Fr (pW v1.toInt) I I1446 := Fr.tr f1436 f1452 (fun _ _ => trivial)
                have m1454 : PMp I1429 I1446 := (PMp.mk (Hid.o hh1451).2.2.1 (Hid.o hh1451).2.2.2.1)
                have wr1455 := Or.imp (fun z => z.2) (fun z => And.intro z.1 z.2.1) (Hid.o hh1451).2.2.2.2
                have q1456 : (0 : Int32).toInt = 0 := rfl
                have q1457 : (99 : Int32).toInt = 99 := rfl
                have b1458 := Bd.o hB1448 (show isO 112 97 12 = true from rfl) (show bnd 12 12 = some _ from rfl)
                have b1459 := Bd.o hB1448 (show isO 112 97 12 = true from rfl) (show bnd 12 14 = some _ from rfl)
                have b1460 := Bd.o hB1448 (show isO 112 97 12 = true from rfl) (show bnd 12 16 = some _ from rfl)
                have i1461 := i32 x1445
                have e1462 : ((v1 + 6) : Int32).toInt = (v1.toInt) + (6) := ti_add rfl rfl (by omega)
                refine ⟨vp_of (a := (v1.toInt + 6)) e1462 (by omega) (by omega), ?_⟩
                have hB1463 : Bd (uI I1446 102 (Int32.toNatClampNeg (v1 + 6)) x1445) := Bd.cnew hB1448 (show ((v1 + 6) : Int32).toInt = (v1.toInt + 6) from e1462) (show (x1445 : Int32).toInt = x1445.toInt from rfl) (by omega) (by omega) (by omega) 
                have f1464 : Fr (pW v1.toInt) I (uI I1446 102 (Int32.toNatClampNeg (v1 + 6)) x1445) := Fr.w f1453 (show ((v1 + 6) : Int32).toInt = (v1.toInt + 6) from e1462) (by omega) (fun j hj hp => by unfold pW at hp; omega)
                have td1465 : (((uI I1051 102 (Int32.toNatClampNeg (v1 + 5)) x1) 102 0)).toInt = (I 102 0).toInt := e1088
                have e1466 : (((uI I1446 102 (Int32.toNatClampNeg (v1 + 6)) x1445) 102 (Int32.toNatClampNeg (v1 + 1))) : Int32).toInt = x1075.toInt := Eq.trans (congrArg Int32.toInt (Eq.trans (Eq.trans (Eq.trans (Eq.trans (Eq.trans (Eq.trans (rd_k (fun z => by have z1 := tn_of (show ((v1 + 1) : Int32).toInt = (v1.toInt + 1) from e1096) (by omega); have z2 := tn_of (show ((v1 + 6) : Int32).toInt = (v1.toInt + 6) from e1462) (by omega); omega)) (f1452.1 (Int32.toNatClampNeg (v1 + 1)) trivial)) (f1435.1 (Int32.toNatClampNeg (v1 + 1)) trivial)) (f1420.1 (Int32.toNatClampNeg (v1 + 1)) trivial)) (f1359.1 (Int32.toNatClampNeg (v1 + 1)) trivial)) (rd_k (fun z => by have z1 := tn_of (show ((v1 + 1) : Int32).toInt = (v1.toInt + 1) from e1096) (by omega); have z2 := tn_of (show ((v1 + 7) : Int32).toInt = (v1.toInt + 7) from e1347) (by omega); omega))) rd_eq)) rfl
                have fl1467 : (((uI I1446 102 (Int32.toNatClampNeg (v1 + 6)) x1445) 102 (Int32.toNatClampNeg (v1 + 1))) : Int32).toInt = x1075.toInt := e1466
                have e1468 : (((uI I1446 102 (Int32.toNatClampNeg (v1 + 6)) x1445) 102 (Int32.toNatClampNeg (v1 + 5))) : Int32).toInt = x1.toInt := Eq.trans (congrArg Int32.toInt (Eq.trans (Eq.trans (Eq.trans (Eq.trans (Eq.trans (Eq.trans (Eq.trans (Eq.trans (rd_k (fun z => by have z1 := tn_of (show ((v1 + 5) : Int32).toInt = (v1.toInt + 5) from e1070) (by omega); have z2 := tn_of (show ((v1 + 6) : Int32).toInt = (v1.toInt + 6) from e1462) (by omega); omega)) (f1452.1 (Int32.toNatClampNeg (v1 + 5)) trivial)) (f1435.1 (Int32.toNatClampNeg (v1 + 5)) trivial)) (f1420.1 (Int32.toNatClampNeg (v1 + 5)) trivial)) (f1359.1 (Int32.toNatClampNeg (v1 + 5)) trivial)) (rd_k (fun z => by have z1 := tn_of (show ((v1 + 5) : Int32).toInt = (v1.toInt + 5) from e1070) (by omega); have z2 := tn_of (show ((v1 + 7) : Int32).toInt = (v1.toInt + 7) from e1347) (by omega); omega))) (rd_k (fun z => by have z1 := tn_of (show ((v1 + 5) : Int32).toInt = (v1.toInt + 5) from e1070) (by omega); have z2 := tn_of (show ((v1 + 1) : Int32).toInt = (v1.toInt + 1) from e1096) (by omega); omega))) (f1082.1 (Int32.toNatClampNeg (v1 + 5)) trivial)) rd_eq)) rfl
                have fl1469 : (((uI I1446 102 (Int32.toNatClampNeg (v1 + 6)) x1445) 102 (Int32.toNatClampNeg (v1 + 5))) : Int32).toInt = x1.toInt := e1468
                have e1470 : (((uI I1446 102 (Int32.toNatClampNeg (v1 + 6)) x1445) 97 12) : Int32).toInt = (I1446 97 12).toInt := Eq.trans (congrArg Int32.toInt (rd_ne (by first | decide | omega))) rfl
                have fl1471 : (((uI I1446 102 (Int32.toNatClampNeg (v1 + 6)) x1445) 97 12) : Int32).toInt = (I1446 97 12).toInt := e1470
                exact hQ _ _ _ _ hB1463 ⟨(Eq.trans (Eq.trans (Eq.trans (Eq.trans (Eq.trans (Eq.trans (Eq.trans (Eq.trans (Eq.trans (Eq.trans (rd_ne (by first | decide | omega)) (Hid.o hh1451).1) (Hid.o hh1434).1) (Hid.o hh1419).2.1) (Hid.o hh1358).2.1) (rd_ne (by first | decide | omega))) (rd_ne (by first | decide | omega))) (Hid.o hh1081).1) (rd_ne (by first | decide | omega))) (Hid.o hh1056).1) (Hid.o hh7).2.1), f1464, (PMp.o (PMp.tr (PMp.tr (PMp.tr (PMp.tr (PMp.o (PMp.o (PMp.tr (PMp.o (PMp.tr (PMp.tr (PMp.refl I) m10) m1059) (show ¬ (97 : Nat) = 102 by decide)) m1084) (show ¬ (97 : Nat) = 102 by decide)) (show ¬ (97 : Nat) = 102 by decide)) m1361) m1422) m1437) m1454) (show ¬ (97 : Nat) = 102 by decide)), (fun hz => by have op0 := (Hid.o hh1081).2.2.2 (PMp.bad (PMp.o (PMp.tr (PMp.tr (PMp.tr (PMp.tr (PMp.o (PMp.o (PMp.refl I1076) (show ¬ (97 : Nat) = 102 by decide)) (show ¬ (97 : Nat) = 102 by decide)) m1361) m1422) m1437) m1454) (show ¬ (97 : Nat) = 102 by decide)) hz) rfl; have op1 := Or.resolve_left (Hid.o hh1451).2.2.2.2 (fun z => by have b := PMp.bad (PMp.o (PMp.refl I1446) (show ¬ (97 : Nat) = 102 by decide)) hz; omega); omega)⟩
              · skip
                have d1472 : ((x1412.toInt) : Int) = (0) := ci_eq rfl rfl c1426
                refine sp_X12_isSign hB1415 hR0 (fun x1473 y1478 I1474 J1475 hB1476 p1477 => ?_)
                intro o1479
                have hh1480 := Hid.i p1477
                clear p1477
                have f1481 : Fr pT I1413 I1474 := (Hid.o hh1480).2.2.2.2.1
                have f1482 : Fr (pW v1.toInt) I I1474 := Fr.tr f1421 f1481 (fun _ _ => trivial)
                have m1483 : PMp I1413 I1474 := (PMp.keep (Hid.o hh1480).1 (Hid.o hh1480).2.2.1 (Hid.o hh1480).2.2.2.1)
                have q1484 : (61 : Int32).toInt = 61 := rfl
                have e1485 : ((I1413 97 14) : Int32).toInt = (I1076 97 14).toInt := Eq.trans (congrArg Int32.toInt (Eq.trans (Eq.trans (Eq.trans (Hid.o hh1419).2.2.1 (Hid.o hh1358).2.2.1) (rd_ne (by first | decide | omega))) (rd_ne (by first | decide | omega)))) rfl
                have i1486 := i32 x1473
                refine ⟨fun c1487 => ?_, fun c1487 => ?_⟩
                · skip
                  have d1488 : ((x1473.toInt) : Int) = (0) := ci_eq rfl rfl c1487
                  refine sp_X12_must hB1476 hR0 (fun x1489 y1494 I1490 J1491 hB1492 p1493 => ?_)
                  have hh1495 := Hid.i p1493
                  clear p1493
                  have f1496 : Fr pT I1474 I1490 := (Hid.o hh1495).2.1
                  have f1497 : Fr (pW v1.toInt) I I1490 := Fr.tr f1482 f1496 (fun _ _ => trivial)
                  have m1498 : PMp I1474 I1490 := (PMp.mk (Hid.o hh1495).2.2.1 (Hid.o hh1495).2.2.2.1)
                  have q1499 : (0 : Int32).toInt = 0 := rfl
                  have e1500 : ((I1474 97 12) : Int32).toInt = (I1076 97 12).toInt := Eq.trans (congrArg Int32.toInt (Eq.trans (Eq.trans (Eq.trans (Eq.trans (Hid.o hh1480).1 (Hid.o hh1419).1) (Hid.o hh1358).1) (rd_ne (by first | decide | omega))) (rd_ne (by first | decide | omega)))) rfl
                  have e1501 : ((I1474 97 14) : Int32).toInt = (I1076 97 14).toInt := Eq.trans (congrArg Int32.toInt (Eq.trans (Eq.trans (Eq.trans (Eq.trans (Hid.o hh1480).2.2.1 (Hid.o hh1419).2.2.1) (Hid.o hh1358).2.2.1) (rd_ne (by first | decide | omega))) (rd_ne (by first | decide | omega)))) rfl
                  have e1502 : ((I1474 97 16) : Int32).toInt = (I1076 97 16).toInt := Eq.trans (congrArg Int32.toInt (Eq.trans (Eq.trans (Eq.trans (Eq.trans (Hid.o hh1480).2.2.2.1 (Hid.o hh1419).2.2.2.1) (Hid.o hh1358).2.2.2.1) (rd_ne (by first | decide | omega))) (rd_ne (by first | decide | omega)))) rfl
                  have b1503 := Bd.o hB1492 (show isO 112 97 12 = true from rfl) (show bnd 12 12 = some _ from rfl)
                  have b1504 := Bd.o hB1492 (show isO 112 97 12 = true from rfl) (show bnd 12 14 = some _ from rfl)
                  have b1505 := Bd.o hB1492 (show isO 112 97 12 = true from rfl) (show bnd 12 16 = some _ from rfl)
                  refine sp_X12_count hB1492 hR0 (fun x1506 y1511 I1507 J1508 hB1509 p1510 => ?_)
                  have hh1512 := Hid.i p1510
                  clear p1510
                  have f1513 : Fr pT I1490 I1507 := (Hid.o hh1512).2.1
                  have f1514 : Fr (pW v1.toInt) I I1507 := Fr.tr f1497 f1513 (fun _ _ => trivial)
                  have m1515 : PMp I1490 I1507 := (PMp.mk (Hid.o hh1512).2.2.1 (Hid.o hh1512).2.2.2.1)
                  have wr1516 := Or.imp (fun z => z.2) (fun z => And.intro z.1 z.2.1) (Hid.o hh1512).2.2.2.2
                  have q1517 : (0 : Int32).toInt = 0 := rfl
                  have q1518 : (99 : Int32).toInt = 99 := rfl
                  have b1519 := Bd.o hB1509 (show isO 112 97 12 = true from rfl) (show bnd 12 12 = some _ from rfl)
                  have b1520 := Bd.o hB1509 (show isO 112 97 12 = true from rfl) (show bnd 12 14 = some _ from rfl)
                  have b1521 := Bd.o hB1509 (show isO 112 97 12 = true from rfl) (show bnd 12 16 = some _ from rfl)
                  have i1522 := i32 x1506
                  have e1523 : ((v1 + 6) : Int32).toInt = (v1.toInt) + (6) := ti_add rfl rfl (by omega)
                  refine ⟨vp_of (a := (v1.toInt + 6)) e1523 (by omega) (by omega), ?_⟩
                  have hB1524 : Bd (uI I1507 102 (Int32.toNatClampNeg (v1 + 6)) x1506) := Bd.cnew hB1509 (show ((v1 + 6) : Int32).toInt = (v1.toInt + 6) from e1523) (show (x1506 : Int32).toInt = x1506.toInt from rfl) (by omega) (by omega) (by omega) 
                  have f1525 : Fr (pW v1.toInt) I (uI I1507 102 (Int32.toNatClampNeg (v1 + 6)) x1506) := Fr.w f1514 (show ((v1 + 6) : Int32).toInt = (v1.toInt + 6) from e1523) (by omega) (fun j hj hp => by unfold pW at hp; omega)
                  have td1526 : (((uI I1051 102 (Int32.toNatClampNeg (v1 + 5)) x1) 102 0)).toInt = (I 102 0).toInt := e1088
                  have e1527 : (((uI I1507 102 (Int32.toNatClampNeg (v1 + 6)) x1506) 102 (Int32.toNatClampNeg (v1 + 1))) : Int32).toInt = x1075.toInt := Eq.trans (congrArg Int32.toInt (Eq.trans (Eq.trans (Eq.trans (Eq.trans (Eq.trans (Eq.trans (Eq.trans (rd_k (fun z => by have z1 := tn_of (show ((v1 + 1) : Int32).toInt = (v1.toInt + 1) from e1096) (by omega); have z2 := tn_of (show ((v1 + 6) : Int32).toInt = (v1.toInt + 6) from e1523) (by omega); omega)) (f1513.1 (Int32.toNatClampNeg (v1 + 1)) trivial)) (f1496.1 (Int32.toNatClampNeg (v1 + 1)) trivial)) (f1481.1 (Int32.toNatClampNeg (v1 + 1)) trivial)) (f1420.1 (Int32.toNatClampNeg (v1 + 1)) trivial)) (f1359.1 (Int32.toNatClampNeg (v1 + 1)) trivial)) (rd_k (fun z => by have z1 := tn_of (show ((v1 + 1) : Int32).toInt = (v1.toInt + 1) from e1096) (by omega); have z2 := tn_of (show ((v1 + 7) : Int32).toInt = (v1.toInt + 7) from e1347) (by omega); omega))) rd_eq)) rfl
                  have fl1528 : (((uI I1507 102 (Int32.toNatClampNeg (v1 + 6)) x1506) 102 (Int32.toNatClampNeg (v1 + 1))) : Int32).toInt = x1075.toInt := e1527
                  have e1529 : (((uI I1507 102 (Int32.toNatClampNeg (v1 + 6)) x1506) 102 (Int32.toNatClampNeg (v1 + 5))) : Int32).toInt = x1.toInt := Eq.trans (congrArg Int32.toInt (Eq.trans (Eq.trans (Eq.trans (Eq.trans (Eq.trans (Eq.trans (Eq.trans (Eq.trans (Eq.trans (rd_k (fun z => by have z1 := tn_of (show ((v1 + 5) : Int32).toInt = (v1.toInt + 5) from e1070) (by omega); have z2 := tn_of (show ((v1 + 6) : Int32).toInt = (v1.toInt + 6) from e1523) (by omega); omega)) (f1513.1 (Int32.toNatClampNeg (v1 + 5)) trivial)) (f1496.1 (Int32.toNatClampNeg (v1 + 5)) trivial)) (f1481.1 (Int32.toNatClampNeg (v1 + 5)) trivial)) (f1420.1 (Int32.toNatClampNeg (v1 + 5)) trivial)) (f1359.1 (Int32.toNatClampNeg (v1 + 5)) trivial)) (rd_k (fun z => by have z1 := tn_of (show ((v1 + 5) : Int32).toInt = (v1.toInt + 5) from e1070) (by omega); have z2 := tn_of (show ((v1 + 7) : Int32).toInt = (v1.toInt + 7) from e1347) (by omega); omega))) (rd_k (fun z => by have z1 := tn_of (show ((v1 + 5) : Int32).toInt = (v1.toInt + 5) from e1070) (by omega); have z2 := tn_of (show ((v1 + 1) : Int32).toInt = (v1.toInt + 1) from e1096) (by omega); omega))) (f1082.1 (Int32.toNatClampNeg (v1 + 5)) trivial)) rd_eq)) rfl
                  have fl1530 : (((uI I1507 102 (Int32.toNatClampNeg (v1 + 6)) x1506) 102 (Int32.toNatClampNeg (v1 + 5))) : Int32).toInt = x1.toInt := e1529
                  have e1531 : (((uI I1507 102 (Int32.toNatClampNeg (v1 + 6)) x1506) 97 12) : Int32).toInt = (I1507 97 12).toInt := Eq.trans (congrArg Int32.toInt (rd_ne (by first | decide | omega))) rfl
                  have fl1532 : (((uI I1507 102 (Int32.toNatClampNeg (v1 + 6)) x1506) 97 12) : Int32).toInt = (I1507 97 12).toInt := e1531
                  exact hQ _ _ _ _ hB1524 ⟨(Eq.trans (Eq.trans (Eq.trans (Eq.trans (Eq.trans (Eq.trans (Eq.trans (Eq.trans (Eq.trans (Eq.trans (Eq.trans (rd_ne (by first | decide | omega)) (Hid.o hh1512).1) (Hid.o hh1495).1) (Hid.o hh1480).2.1) (Hid.o hh1419).2.1) (Hid.o hh1358).2.1) (rd_ne (by first | decide | omega))) (rd_ne (by first | decide | omega))) (Hid.o hh1081).1) (rd_ne (by first | decide | omega))) (Hid.o hh1056).1) (Hid.o hh7).2.1), f1525, (PMp.o (PMp.tr (PMp.tr (PMp.tr (PMp.tr (PMp.tr (PMp.o (PMp.o (PMp.tr (PMp.o (PMp.tr (PMp.tr (PMp.refl I) m10) m1059) (show ¬ (97 : Nat) = 102 by decide)) m1084) (show ¬ (97 : Nat) = 102 by decide)) (show ¬ (97 : Nat) = 102 by decide)) m1361) m1422) m1483) m1498) m1515) (show ¬ (97 : Nat) = 102 by decide)), (fun hz => by have op0 := (Hid.o hh1081).2.2.2 (PMp.bad (PMp.o (PMp.tr (PMp.tr (PMp.tr (PMp.tr (PMp.tr (PMp.o (PMp.o (PMp.refl I1076) (show ¬ (97 : Nat) = 102 by decide)) (show ¬ (97 : Nat) = 102 by decide)) m1361) m1422) m1483) m1498) m1515) (show ¬ (97 : Nat) = 102 by decide)) hz) rfl; have op1 := Or.resolve_left (Hid.o hh1512).2.2.2.2 (fun z => by have b := PMp.bad (PMp.o (PMp.refl I1507) (show ¬ (97 : Nat) = 102 by decide)) hz; omega); omega)⟩
                · skip
                  have d1533 : ¬ ((x1473.toInt) : Int) = (0) := ci_ne rfl rfl c1487
                  refine sp_X12_must hB1476 hR0 (fun x1534 y1539 I1535 J1536 hB1537 p1538 => ?_)
                  have hh1540 := Hid.i p1538
                  clear p1538
                  have f1541 : Fr pT I1474 I1535 := (Hid.o hh1540).2.1
                  have f1542 : Fr (pW v1.toInt) I I1535 := Fr.tr f1482 f1541 (fun _ _ => trivial)
                  have m1543 : PMp I1474 I1535 := (PMp.mk (Hid.o hh1540).2.2.1 (Hid.o hh1540).2.2.2.1)
                  have q1544 : (1 : Int32).toInt = 1 := rfl
                  have e1545 : ((I1474 97 12) : Int32).toInt = (I1076 97 12).toInt := Eq.trans (congrArg Int32.toInt (Eq.trans (Eq.trans (Eq.trans (Eq.trans (Hid.o hh1480).1 (Hid.o hh1419).1) (Hid.o hh1358).1) (rd_ne (by first | decide | omega))) (rd_ne (by first | decide | omega)))) rfl
                  have e1546 : ((I1474 97 14) : Int32).toInt = (I1076 97 14).toInt := Eq.trans (congrArg Int32.toInt (Eq.trans (Eq.trans (Eq.trans (Eq.trans (Hid.o hh1480).2.2.1 (Hid.o hh1419).2.2.1) (Hid.o hh1358).2.2.1) (rd_ne (by first | decide | omega))) (rd_ne (by first | decide | omega)))) rfl
                  have e1547 : ((I1474 97 16) : Int32).toInt = (I1076 97 16).toInt := Eq.trans (congrArg Int32.toInt (Eq.trans (Eq.trans (Eq.trans (Eq.trans (Hid.o hh1480).2.2.2.1 (Hid.o hh1419).2.2.2.1) (Hid.o hh1358).2.2.2.1) (rd_ne (by first | decide | omega))) (rd_ne (by first | decide | omega)))) rfl
                  have b1548 := Bd.o hB1537 (show isO 112 97 12 = true from rfl) (show bnd 12 12 = some _ from rfl)
                  have b1549 := Bd.o hB1537 (show isO 112 97 12 = true from rfl) (show bnd 12 14 = some _ from rfl)
                  have b1550 := Bd.o hB1537 (show isO 112 97 12 = true from rfl) (show bnd 12 16 = some _ from rfl)
                  refine sp_X12_count hB1537 hR0 (fun x1551 y1556 I1552 J1553 hB1554 p1555 => ?_)
                  have hh1557 := Hid.i p1555
                  clear p1555
                  have f1558 : Fr pT I1535 I1552 := (Hid.o hh1557).2.1
                  have f1559 : Fr (pW v1.toInt) I I1552 := Fr.tr f1542 f1558 (fun _ _ => trivial)
                  have m1560 : PMp I1535 I1552 := (PMp.mk (Hid.o hh1557).2.2.1 (Hid.o hh1557).2.2.2.1)
                  have wr1561 := Or.imp (fun z => z.2) (fun z => And.intro z.1 z.2.1) (Hid.o hh1557).2.2.2.2
                  have q1562 : (0 : Int32).toInt = 0 := rfl
                  have q1563 : (99 : Int32).toInt = 99 := rfl
                  have b1564 := Bd.o hB1554 (show isO 112 97 12 = true from rfl) (show bnd 12 12 = some _ from rfl)
                  have b1565 := Bd.o hB1554 (show isO 112 97 12 = true from rfl) (show bnd 12 14 = some _ from rfl)
                  have b1566 := Bd.o hB1554 (show isO 112 97 12 = true from rfl) (show bnd 12 16 = some _ from rfl)
                  have i1567 := i32 x1551
                  have e1568 : ((v1 + 6) : Int32).toInt = (v1.toInt) + (6) := ti_add rfl rfl (by omega)
                  refine ⟨vp_of (a := (v1.toInt + 6)) e1568 (by omega) (by omega), ?_⟩
                  have hB1569 : Bd (uI I1552 102 (Int32.toNatClampNeg (v1 + 6)) x1551) := Bd.cnew hB1554 (show ((v1 + 6) : Int32).toInt = (v1.toInt + 6) from e1568) (show (x1551 : Int32).toInt = x1551.toInt from rfl) (by omega) (by omega) (by omega) 
                  have f1570 : Fr (pW v1.toInt) I (uI I1552 102 (Int32.toNatClampNeg (v1 + 6)) x1551) := Fr.w f1559 (show ((v1 + 6) : Int32).toInt = (v1.toInt + 6) from e1568) (by omega) (fun j hj hp => by unfold pW at hp; omega)
                  have td1571 : (((uI I1051 102 (Int32.toNatClampNeg (v1 + 5)) x1) 102 0)).toInt = (I 102 0).toInt := e1088
                  have e1572 : (((uI I1552 102 (Int32.toNatClampNeg (v1 + 6)) x1551) 102 (Int32.toNatClampNeg (v1 + 1))) : Int32).toInt = x1075.toInt := Eq.trans (congrArg Int32.toInt (Eq.trans (Eq.trans (Eq.trans (Eq.trans (Eq.trans (Eq.trans (Eq.trans (rd_k (fun z => by have z1 := tn_of (show ((v1 + 1) : Int32).toInt = (v1.toInt + 1) from e1096) (by omega); have z2 := tn_of (show ((v1 + 6) : Int32).toInt = (v1.toInt + 6) from e1568) (by omega); omega)) (f1558.1 (Int32.toNatClampNeg (v1 + 1)) trivial)) (f1541.1 (Int32.toNatClampNeg (v1 + 1)) trivial)) (f1481.1 (Int32.toNatClampNeg (v1 + 1)) trivial)) (f1420.1 (Int32.toNatClampNeg (v1 + 1)) trivial)) (f1359.1 (Int32.toNatClampNeg (v1 + 1)) trivial)) (rd_k (fun z => by have z1 := tn_of (show ((v1 + 1) : Int32).toInt = (v1.toInt + 1) from e1096) (by omega); have z2 := tn_of (show ((v1 + 7) : Int32).toInt = (v1.toInt + 7) from e1347) (by omega); omega))) rd_eq)) rfl
                  have fl1573 : (((uI I1552 102 (Int32.toNatClampNeg (v1 + 6)) x1551) 102 (Int32.toNatClampNeg (v1 + 1))) : Int32).toInt = x1075.toInt := e1572
                  have e1574 : (((uI I1552 102 (Int32.toNatClampNeg (v1 + 6)) x1551) 102 (Int32.toNatClampNeg (v1 + 5))) : Int32).toInt = x1.toInt := Eq.trans (congrArg Int32.toInt (Eq.trans (Eq.trans (Eq.trans (Eq.trans (Eq.trans (Eq.trans (Eq.trans (Eq.trans (Eq.trans (rd_k (fun z => by have z1 := tn_of (show ((v1 + 5) : Int32).toInt = (v1.toInt + 5) from e1070) (by omega); have z2 := tn_of (show ((v1 + 6) : Int32).toInt = (v1.toInt + 6) from e1568) (by omega); omega)) (f1558.1 (Int32.toNatClampNeg (v1 + 5)) trivial)) (f1541.1 (Int32.toNatClampNeg (v1 + 5)) trivial)) (f1481.1 (Int32.toNatClampNeg (v1 + 5)) trivial)) (f1420.1 (Int32.toNatClampNeg (v1 + 5)) trivial)) (f1359.1 (Int32.toNatClampNeg (v1 + 5)) trivial)) (rd_k (fun z => by have z1 := tn_of (show ((v1 + 5) : Int32).toInt = (v1.toInt + 5) from e1070) (by omega); have z2 := tn_of (show ((v1 + 7) : Int32).toInt = (v1.toInt + 7) from e1347) (by omega); omega))) (rd_k (fun z => by have z1 := tn_of (show ((v1 + 5) : Int32).toInt = (v1.toInt + 5) from e1070) (by omega); have z2 := tn_of (show ((v1 + 1) : Int32).toInt = (v1.toInt + 1) from e1096) (by omega); omega))) (f1082.1 (Int32.toNatClampNeg (v1 + 5)) trivial)) rd_eq)) rfl
                  have fl1575 : (((uI I1552 102 (Int32.toNatClampNeg (v1 + 6)) x1551) 102 (Int32.toNatClampNeg (v1 + 5))) : Int32).toInt = x1.toInt := e1574
                  have e1576 : (((uI I1552 102 (Int32.toNatClampNeg (v1 + 6)) x1551) 97 12) : Int32).toInt = (I1552 97 12).toInt := Eq.trans (congrArg Int32.toInt (rd_ne (by first | decide | omega))) rfl
                  have fl1577 : (((uI I1552 102 (Int32.toNatClampNeg (v1 + 6)) x1551) 97 12) : Int32).toInt = (I1552 97 12).toInt := e1576
                  exact hQ _ _ _ _ hB1569 ⟨(Eq.trans (Eq.trans (Eq.trans (Eq.trans (Eq.trans (Eq.trans (Eq.trans (Eq.trans (Eq.trans (Eq.trans (Eq.trans (rd_ne (by first | decide | omega)) (Hid.o hh1557).1) (Hid.o hh1540).1) (Hid.o hh1480).2.1) (Hid.o hh1419).2.1) (Hid.o hh1358).2.1) (rd_ne (by first | decide | omega))) (rd_ne (by first | decide | omega))) (Hid.o hh1081).1) (rd_ne (by first | decide | omega))) (Hid.o hh1056).1) (Hid.o hh7).2.1), f1570, (PMp.o (PMp.tr (PMp.tr (PMp.tr (PMp.tr (PMp.tr (PMp.o (PMp.o (PMp.tr (PMp.o (PMp.tr (PMp.tr (PMp.refl I) m10) m1059) (show ¬ (97 : Nat) = 102 by decide)) m1084) (show ¬ (97 : Nat) = 102 by decide)) (show ¬ (97 : Nat) = 102 by decide)) m1361) m1422) m1483) m1543) m1560) (show ¬ (97 : Nat) = 102 by decide)), (fun hz => by have op0 := (Hid.o hh1081).2.2.2 (PMp.bad (PMp.o (PMp.tr (PMp.tr (PMp.tr (PMp.tr (PMp.tr (PMp.o (PMp.o (PMp.refl I1076) (show ¬ (97 : Nat) = 102 by decide)) (show ¬ (97 : Nat) = 102 by decide)) m1361) m1422) m1483) m1543) m1560) (show ¬ (97 : Nat) = 102 by decide)) hz) rfl; have op1 := Or.resolve_left (Hid.o hh1557).2.2.2.2 (fun z => by have b := PMp.bad (PMp.o (PMp.refl I1552) (show ¬ (97 : Nat) = 102 by decide)) hz; omega); omega)⟩
        · skip
          have d1578 : ((x1.toInt) : Int) = (0) := ci_eq rfl rfl c1110
          have td1579 : (((uI I1051 102 (Int32.toNatClampNeg (v1 + 5)) x1) 102 0)).toInt = (I 102 0).toInt := e1088
          have e1580 : (((uI I1076 102 (Int32.toNatClampNeg (v1 + 1)) x1075) 102 (Int32.toNatClampNeg (v1 + 1))) : Int32).toInt = x1075.toInt := Eq.trans (congrArg Int32.toInt rd_eq) rfl
          have fl1581 : (((uI I1076 102 (Int32.toNatClampNeg (v1 + 1)) x1075) 102 (Int32.toNatClampNeg (v1 + 1))) : Int32).toInt = x1075.toInt := e1580
          have e1582 : (((uI I1076 102 (Int32.toNatClampNeg (v1 + 1)) x1075) 102 (Int32.toNatClampNeg (v1 + 5))) : Int32).toInt = x1.toInt := Eq.trans (congrArg Int32.toInt (Eq.trans (Eq.trans (rd_k (fun z => by have z1 := tn_of (show ((v1 + 5) : Int32).toInt = (v1.toInt + 5) from e1070) (by omega); have z2 := tn_of (show ((v1 + 1) : Int32).toInt = (v1.toInt + 1) from e1096) (by omega); omega)) (f1082.1 (Int32.toNatClampNeg (v1 + 5)) trivial)) rd_eq)) rfl
          have fl1583 : (((uI I1076 102 (Int32.toNatClampNeg (v1 + 1)) x1075) 102 (Int32.toNatClampNeg (v1 + 5))) : Int32).toInt = x1.toInt := e1582
          have fl1584 : (((uI I1076 102 (Int32.toNatClampNeg (v1 + 1)) x1075) 97 12) : Int32).toInt = (I1076 97 12).toInt := e1108
          exact hQ _ _ _ _ hB1097 ⟨(Eq.trans (Eq.trans (Eq.trans (Eq.trans (rd_ne (by first | decide | omega)) (Hid.o hh1081).1) (rd_ne (by first | decide | omega))) (Hid.o hh1056).1) (Hid.o hh7).2.1), f1098, (PMp.o (PMp.tr (PMp.o (PMp.tr (PMp.tr (PMp.refl I) m10) m1059) (show ¬ (97 : Nat) = 102 by decide)) m1084) (show ¬ (97 : Nat) = 102 by decide)), (fun hz => by have op0 := (Hid.o hh1081).2.2.2 (PMp.bad (PMp.o (PMp.refl I1076) (show ¬ (97 : Nat) = 102 by decide)) hz) rfl; omega)⟩
    · skip
      have d1585 : ((x1.toInt) : Int) = (1) := ci_eq rfl rfl c1073
      refine sp_X12_count hB1071 hR0 (fun x1586 y1591 I1587 J1588 hB1589 p1590 => ?_)
      have hh1592 := Hid.i p1590
      clear p1590
      have f1593 : Fr pT (uI I1051 102 (Int32.toNatClampNeg (v1 + 5)) x1) I1587 := (Hid.o hh1592).2.1
      have f1594 : Fr (pW v1.toInt) I I1587 := Fr.tr f1072 f1593 (fun _ _ => trivial)
      have m1595 : PMp (uI I1051 102 (Int32.toNatClampNeg (v1 + 5)) x1) I1587 := (PMp.mk (Hid.o hh1592).2.2.1 (Hid.o hh1592).2.2.2.1)
      have wr1596 := Or.imp (fun z => z.2) (fun z => And.intro z.1 z.2.1) (Hid.o hh1592).2.2.2.2
      have q1597 : (1 : Int32).toInt = 1 := rfl
      have q1598 : (30 : Int32).toInt = 30 := rfl
      have e1599 : (((uI I1051 102 (Int32.toNatClampNeg (v1 + 5)) x1) 97 12) : Int32).toInt = (I1051 97 12).toInt := Eq.trans (congrArg Int32.toInt (rd_ne (by first | decide | omega))) rfl
      have e1600 : (((uI I1051 102 (Int32.toNatClampNeg (v1 + 5)) x1) 97 14) : Int32).toInt = (I1051 97 14).toInt := Eq.trans (congrArg Int32.toInt (rd_ne (by first | decide | omega))) rfl
      have e1601 : (((uI I1051 102 (Int32.toNatClampNeg (v1 + 5)) x1) 97 16) : Int32).toInt = (I1051 97 16).toInt := Eq.trans (congrArg Int32.toInt (rd_ne (by first | decide | omega))) rfl
      have b1602 := Bd.o hB1589 (show isO 112 97 12 = true from rfl) (show bnd 12 12 = some _ from rfl)
      have b1603 := Bd.o hB1589 (show isO 112 97 12 = true from rfl) (show bnd 12 14 = some _ from rfl)
      have b1604 := Bd.o hB1589 (show isO 112 97 12 = true from rfl) (show bnd 12 16 = some _ from rfl)
      have i1605 := i32 x1586
      have e1606 : ((v1 + 1) : Int32).toInt = (v1.toInt) + (1) := ti_add rfl rfl (by omega)
      refine ⟨vp_of (a := (v1.toInt + 1)) e1606 (by omega) (by omega), ?_⟩
      have hB1607 : Bd (uI I1587 102 (Int32.toNatClampNeg (v1 + 1)) x1586) := Bd.cnew hB1589 (show ((v1 + 1) : Int32).toInt = (v1.toInt + 1) from e1606) (show (x1586 : Int32).toInt = x1586.toInt from rfl) (by omega) (by omega) (by omega) 
      have f1608 : Fr (pW v1.toInt) I (uI I1587 102 (Int32.toNatClampNeg (v1 + 1)) x1586) := Fr.w f1594 (show ((v1 + 1) : Int32).toInt = (v1.toInt + 1) from e1606) (by omega) (fun j hj hp => by unfold pW at hp; omega)
      refine ⟨fun c1609 => ?_, fun c1609 => ?_⟩
      · skip
        have e1610 : (((uI I1587 102 (Int32.toNatClampNeg (v1 + 1)) x1586) 97 12) : Int32).toInt = (I1587 97 12).toInt := Eq.trans (congrArg Int32.toInt (rd_ne (by first | decide | omega))) rfl
        have d1611 : ((0) : Int) < ((I1587 97 12).toInt) := ci_lt rfl e1610 c1609
        have e1612 : (((uI I1587 102 (Int32.toNatClampNeg (v1 + 1)) x1586) 102 (Int32.toNatClampNeg (v1 + 1))) : Int32).toInt = x1586.toInt := Eq.trans (congrArg Int32.toInt rd_eq) rfl
        have fl1613 : (((uI I1587 102 (Int32.toNatClampNeg (v1 + 1)) x1586) 102 (Int32.toNatClampNeg (v1 + 1))) : Int32).toInt = x1586.toInt := e1612
        have e1614 : (((uI I1587 102 (Int32.toNatClampNeg (v1 + 1)) x1586) 102 (Int32.toNatClampNeg (v1 + 5))) : Int32).toInt = x1.toInt := Eq.trans (congrArg Int32.toInt (Eq.trans (Eq.trans (rd_k (fun z => by have z1 := tn_of (show ((v1 + 5) : Int32).toInt = (v1.toInt + 5) from e1070) (by omega); have z2 := tn_of (show ((v1 + 1) : Int32).toInt = (v1.toInt + 1) from e1606) (by omega); omega)) (f1593.1 (Int32.toNatClampNeg (v1 + 5)) trivial)) rd_eq)) rfl
        have fl1615 : (((uI I1587 102 (Int32.toNatClampNeg (v1 + 1)) x1586) 102 (Int32.toNatClampNeg (v1 + 5))) : Int32).toInt = x1.toInt := e1614
        have fl1616 : (((uI I1587 102 (Int32.toNatClampNeg (v1 + 1)) x1586) 97 12) : Int32).toInt = (I1587 97 12).toInt := e1610
        exact hQ _ _ _ _ hB1607 ⟨(Eq.trans (Eq.trans (Eq.trans (Eq.trans (rd_ne (by first | decide | omega)) (Hid.o hh1592).1) (rd_ne (by first | decide | omega))) (Hid.o hh1056).1) (Hid.o hh7).2.1), f1608, (PMp.o (PMp.tr (PMp.o (PMp.tr (PMp.tr (PMp.refl I) m10) m1059) (show ¬ (97 : Nat) = 102 by decide)) m1595) (show ¬ (97 : Nat) = 102 by decide)), (fun hz => by have op0 := Or.resolve_left (Hid.o hh1592).2.2.2.2 (fun z => by have b := PMp.bad (PMp.o (PMp.refl I1587) (show ¬ (97 : Nat) = 102 by decide)) hz; omega); omega)⟩
      · skip
        have e1617 : (((uI I1587 102 (Int32.toNatClampNeg (v1 + 1)) x1586) 97 12) : Int32).toInt = (I1587 97 12).toInt := Eq.trans (congrArg Int32.toInt (rd_ne (by first | decide | omega))) rfl
        have d1618 : (((I1587 97 12).toInt) : Int) ≤ (0) := ci_nlt rfl e1617 c1609
        refine ⟨fun c1619 => ?_, fun c1619 => ?_⟩
        · skip
          have d1620 : ¬ ((x1.toInt) : Int) = (0) := ci_ne rfl rfl c1619
          refine ⟨fun c1621 => ?_, fun c1621 => ?_⟩
          · skip
            have e1622 : (((uI I1587 102 (Int32.toNatClampNeg (v1 + 1)) x1586) 97 14) : Int32).toInt = (I1587 97 14).toInt := Eq.trans (congrArg Int32.toInt (rd_ne (by first | decide | omega))) rfl
            have d1623 : ¬ (((I1587 97 14).toInt) : Int) = (3) := ci_ne e1622 rfl c1621
            have e1624 : ((v1 + 7) : Int32).toInt = (v1.toInt) + (7) := ti_add rfl rfl (by omega)
            refine ⟨vp_of (a := (v1.toInt + 7)) e1624 (by omega) (by omega), ?_⟩
            have hB1625 : Bd (uI (uI I1587 102 (Int32.toNatClampNeg (v1 + 1)) x1586) 102 (Int32.toNatClampNeg (v1 + 7)) 0) := Bd.cnew hB1607 (show ((v1 + 7) : Int32).toInt = (v1.toInt + 7) from e1624) (show (0 : Int32).toInt = 0 from rfl) (by omega) (by omega) (by omega) 
            have f1626 : Fr (pW v1.toInt) I (uI (uI I1587 102 (Int32.toNatClampNeg (v1 + 1)) x1586) 102 (Int32.toNatClampNeg (v1 + 7)) 0) := Fr.w f1608 (show ((v1 + 7) : Int32).toInt = (v1.toInt + 7) from e1624) (by omega) (fun j hj hp => by unfold pW at hp; omega)
            refine sp_X12_isSign hB1625 hR0 (fun x1627 y1632 I1628 J1629 hB1630 p1631 => ?_)
            intro o1633
            have hh1634 := Hid.i p1631
            clear p1631
            have f1635 : Fr pT (uI (uI I1587 102 (Int32.toNatClampNeg (v1 + 1)) x1586) 102 (Int32.toNatClampNeg (v1 + 7)) 0) I1628 := (Hid.o hh1634).2.2.2.2.1
            have f1636 : Fr (pW v1.toInt) I I1628 := Fr.tr f1626 f1635 (fun _ _ => trivial)
            have m1637 : PMp (uI (uI I1587 102 (Int32.toNatClampNeg (v1 + 1)) x1586) 102 (Int32.toNatClampNeg (v1 + 7)) 0) I1628 := (PMp.keep (Hid.o hh1634).1 (Hid.o hh1634).2.2.1 (Hid.o hh1634).2.2.2.1)
            have q1638 : (60 : Int32).toInt = 60 := rfl
            have e1639 : (((uI (uI I1587 102 (Int32.toNatClampNeg (v1 + 1)) x1586) 102 (Int32.toNatClampNeg (v1 + 7)) 0) 97 14) : Int32).toInt = (I1587 97 14).toInt := Eq.trans (congrArg Int32.toInt (Eq.trans (rd_ne (by first | decide | omega)) (rd_ne (by first | decide | omega)))) rfl
            have i1640 := i32 x1627
            refine ⟨fun c1641 => ?_, fun c1641 => ?_⟩
            · skip
              have d1642 : ¬ ((x1627.toInt) : Int) = (0) := ci_ne rfl rfl c1641
              refine sp_X12_must hB1630 hR0 (fun x1643 y1648 I1644 J1645 hB1646 p1647 => ?_)
              have hh1649 := Hid.i p1647
              clear p1647
              have f1650 : Fr pT I1628 I1644 := (Hid.o hh1649).2.1
              have f1651 : Fr (pW v1.toInt) I I1644 := Fr.tr f1636 f1650 (fun _ _ => trivial)
              have m1652 : PMp I1628 I1644 := (PMp.mk (Hid.o hh1649).2.2.1 (Hid.o hh1649).2.2.2.1)
              have q1653 : (1 : Int32).toInt = 1 := rfl
              have e1654 : ((I1628 97 12) : Int32).toInt = (I1587 97 12).toInt := Eq.trans (congrArg Int32.toInt (Eq.trans (Eq.trans (Hid.o hh1634).1 (rd_ne (by first | decide | omega))) (rd_ne (by first | decide | omega)))) rfl
              have e1655 : ((I1628 97 14) : Int32).toInt = (I1587 97 14).toInt := Eq.trans (congrArg Int32.toInt (Eq.trans (Eq.trans (Hid.o hh1634).2.2.1 (rd_ne (by first | decide | omega))) (rd_ne (by first | decide | omega)))) rfl
              have e1656 : ((I1628 97 16) : Int32).toInt = (I1587 97 16).toInt := Eq.trans (congrArg Int32.toInt (Eq.trans (Eq.trans (Hid.o hh1634).2.2.2.1 (rd_ne (by first | decide | omega))) (rd_ne (by first | decide | omega)))) rfl
              have b1657 := Bd.o hB1646 (show isO 112 97 12 = true from rfl) (show bnd 12 12 = some _ from rfl)
              have b1658 := Bd.o hB1646 (show isO 112 97 12 = true from rfl) (show bnd 12 14 = some _ from rfl)
              have b1659 := Bd.o hB1646 (show isO 112 97 12 = true from rfl) (show bnd 12 16 = some _ from rfl)
              refine sp_X12_count hB1646 hR0 (fun x1660 y1665 I1661 J1662 hB1663 p1664 => ?_)
              have hh1666 := Hid.i p1664
              clear p1664
              have f1667 : Fr pT I1644 I1661 := (Hid.o hh1666).2.1
              have f1668 : Fr (pW v1.toInt) I I1661 := Fr.tr f1651 f1667 (fun _ _ => trivial)
              have m1669 : PMp I1644 I1661 := (PMp.mk (Hid.o hh1666).2.2.1 (Hid.o hh1666).2.2.2.1)
              have wr1670 := Or.imp (fun z => z.2) (fun z => And.intro z.1 z.2.1) (Hid.o hh1666).2.2.2.2
              have q1671 : (0 : Int32).toInt = 0 := rfl
              have q1672 : (99 : Int32).toInt = 99 := rfl
              have b1673 := Bd.o hB1663 (show isO 112 97 12 = true from rfl) (show bnd 12 12 = some _ from rfl)
              have b1674 := Bd.o hB1663 (show isO 112 97 12 = true from rfl) (show bnd 12 14 = some _ from rfl)
              have b1675 := Bd.o hB1663 (show isO 112 97 12 = true from rfl) (show bnd 12 16 = some _ from rfl)
              have i1676 := i32 x1660
              have e1677 : ((v1 + 6) : Int32).toInt = (v1.toInt) + (6) := ti_add rfl rfl (by omega)
              refine ⟨vp_of (a := (v1.toInt + 6)) e1677 (by omega) (by omega), ?_⟩
              have hB1678 : Bd (uI I1661 102 (Int32.toNatClampNeg (v1 + 6)) x1660) := Bd.cnew hB1663 (show ((v1 + 6) : Int32).toInt = (v1.toInt + 6) from e1677) (show (x1660 : Int32).toInt = x1660.toInt from rfl) (by omega) (by omega) (by omega) 
              have f1679 : Fr (pW v1.toInt) I (uI I1661 102 (Int32.toNatClampNeg (v1 + 6)) x1660) := Fr.w f1668 (show ((v1 + 6) : Int32).toInt = (v1.toInt + 6) from e1677) (by omega) (fun j hj hp => by unfold pW at hp; omega)
              have e1680 : (((uI I1661 102 (Int32.toNatClampNeg (v1 + 6)) x1660) 102 (Int32.toNatClampNeg (v1 + 1))) : Int32).toInt = x1586.toInt := Eq.trans (congrArg Int32.toInt (Eq.trans (Eq.trans (Eq.trans (Eq.trans (Eq.trans (rd_k (fun z => by have z1 := tn_of (show ((v1 + 1) : Int32).toInt = (v1.toInt + 1) from e1606) (by omega); have z2 := tn_of (show ((v1 + 6) : Int32).toInt = (v1.toInt + 6) from e1677) (by omega); omega)) (f1667.1 (Int32.toNatClampNeg (v1 + 1)) trivial)) (f1650.1 (Int32.toNatClampNeg (v1 + 1)) trivial)) (f1635.1 (Int32.toNatClampNeg (v1 + 1)) trivial)) (rd_k (fun z => by have z1 := tn_of (show ((v1 + 1) : Int32).toInt = (v1.toInt + 1) from e1606) (by omega); have z2 := tn_of (show ((v1 + 7) : Int32).toInt = (v1.toInt + 7) from e1624) (by omega); omega))) rd_eq)) rfl
              have fl1681 : (((uI I1661 102 (Int32.toNatClampNeg (v1 + 6)) x1660) 102 (Int32.toNatClampNeg (v1 + 1))) : Int32).toInt = x1586.toInt := e1680
              have e1682 : (((uI I1661 102 (Int32.toNatClampNeg (v1 + 6)) x1660) 102 (Int32.toNatClampNeg (v1 + 5))) : Int32).toInt = x1.toInt := Eq.trans (congrArg Int32.toInt (Eq.trans (Eq.trans (Eq.trans (Eq.trans (Eq.trans (Eq.trans (Eq.trans (rd_k (fun z => by have z1 := tn_of (show ((v1 + 5) : Int32).toInt = (v1.toInt + 5) from e1070) (by omega); have z2 := tn_of (show ((v1 + 6) : Int32).toInt = (v1.toInt + 6) from e1677) (by omega); omega)) (f1667.1 (Int32.toNatClampNeg (v1 + 5)) trivial)) (f1650.1 (Int32.toNatClampNeg (v1 + 5)) trivial)) (f1635.1 (Int32.toNatClampNeg (v1 + 5)) trivial)) (rd_k (fun z => by have z1 := tn_of (show ((v1 + 5) : Int32).toInt = (v1.toInt + 5) from e1070) (by omega); have z2 := tn_of (show ((v1 + 7) : Int32).toInt = (v1.toInt + 7) from e1624) (by omega); omega))) (rd_k (fun z => by have z1 := tn_of (show ((v1 + 5) : Int32).toInt = (v1.toInt + 5) from e1070) (by omega); have z2 := tn_of (show ((v1 + 1) : Int32).toInt = (v1.toInt + 1) from e1606) (by omega); omega))) (f1593.1 (Int32.toNatClampNeg (v1 + 5)) trivial)) rd_eq)) rfl
              have fl1683 : (((uI I1661 102 (Int32.toNatClampNeg (v1 + 6)) x1660) 102 (Int32.toNatClampNeg (v1 + 5))) : Int32).toInt = x1.toInt := e1682
              have e1684 : (((uI I1661 102 (Int32.toNatClampNeg (v1 + 6)) x1660) 97 12) : Int32).toInt = (I1661 97 12).toInt := Eq.trans (congrArg Int32.toInt (rd_ne (by first | decide | omega))) rfl
              have fl1685 : (((uI I1661 102 (Int32.toNatClampNeg (v1 + 6)) x1660) 97 12) : Int32).toInt = (I1661 97 12).toInt := e1684
              exact hQ _ _ _ _ hB1678 ⟨(Eq.trans (Eq.trans (Eq.trans (Eq.trans (Eq.trans (Eq.trans (Eq.trans (Eq.trans (Eq.trans (rd_ne (by first | decide | omega)) (Hid.o hh1666).1) (Hid.o hh1649).1) (Hid.o hh1634).2.1) (rd_ne (by first | decide | omega))) (rd_ne (by first | decide | omega))) (Hid.o hh1592).1) (rd_ne (by first | decide | omega))) (Hid.o hh1056).1) (Hid.o hh7).2.1), f1679, (PMp.o (PMp.tr (PMp.tr (PMp.tr (PMp.o (PMp.o (PMp.tr (PMp.o (PMp.tr (PMp.tr (PMp.refl I) m10) m1059) (show ¬ (97 : Nat) = 102 by decide)) m1595) (show ¬ (97 : Nat) = 102 by decide)) (show ¬ (97 : Nat) = 102 by decide)) m1637) m1652) m1669) (show ¬ (97 : Nat) = 102 by decide)), (fun hz => by have op0 := Or.resolve_left (Hid.o hh1592).2.2.2.2 (fun z => by have b := PMp.bad (PMp.o (PMp.tr (PMp.tr (PMp.tr (PMp.o (PMp.o (PMp.refl I1587) (show ¬ (97 : Nat) = 102 by decide)) (show ¬ (97 : Nat) = 102 by decide)) m1637) m1652) m1669) (show ¬ (97 : Nat) = 102 by decide)) hz; omega); have op1 := Or.resolve_left (Hid.o hh1666).2.2.2.2 (fun z => by have b := PMp.bad (PMp.o (PMp.refl I1661) (show ¬ (97 : Nat) = 102 by decide)) hz; omega); omega)⟩
            · skip
              have d1686 : ((x1627.toInt) : Int) = (0) := ci_eq rfl rfl c1641
              refine sp_X12_isSign hB1630 hR0 (fun x1687 y1692 I1688 J1689 hB1690 p1691 => ?_)
              intro o1693
              have hh1694 := Hid.i p1691
              clear p1691
              have f1695 : Fr pT I1628 I1688 := (Hid.o hh1694).2.2.2.2.1
              have f1696 : Fr (pW v1.toInt) I I1688 := Fr.tr f1636 f1695 (fun _ _ => trivial)
              have m1697 : PMp I1628 I1688 := (PMp.keep (Hid.o hh1694).1 (Hid.o hh1694).2.2.1 (Hid.o hh1694).2.2.2.1)
              have q1698 : (62 : Int32).toInt = 62 := rfl
              have e1699 : ((I1628 97 14) : Int32).toInt = (I1587 97 14).toInt := Eq.trans (congrArg Int32.toInt (Eq.trans (Eq.trans (Hid.o hh1634).2.2.1 (rd_ne (by first | decide | omega))) (rd_ne (by first | decide | omega)))) rfl
              have i1700 := i32 x1687
              refine ⟨fun c1701 => ?_, fun c1701 => ?_⟩
              · skip
                have d1702 : ¬ ((x1687.toInt) : Int) = (0) := ci_ne rfl rfl c1701
                refine sp_X12_must hB1690 hR0 (fun x1703 y1708 I1704 J1705 hB1706 p1707 => ?_)
                have hh1709 := Hid.i p1707
                clear p1707
                have f1710 : Fr pT I1688 I1704 := (Hid.o hh1709).2.1
                have f1711 : Fr (pW v1.toInt) I I1704 := Fr.tr f1696 f1710 (fun _ _ => trivial)
                have m1712 : PMp I1688 I1704 := (PMp.mk (Hid.o hh1709).2.2.1 (Hid.o hh1709).2.2.2.1)
                have q1713 : (1 : Int32).toInt = 1 := rfl
                have e1714 : ((I1688 97 12) : Int32).toInt = (I1587 97 12).toInt := Eq.trans (congrArg Int32.toInt (Eq.trans (Eq.trans (Eq.trans (Hid.o hh1694).1 (Hid.o hh1634).1) (rd_ne (by first | decide | omega))) (rd_ne (by first | decide | omega)))) rfl
                have e1715 : ((I1688 97 14) : Int32).toInt = (I1587 97 14).toInt := Eq.trans (congrArg Int32.toInt (Eq.trans (Eq.trans (Eq.trans (Hid.o hh1694).2.2.1 (Hid.o hh1634).2.2.1) (rd_ne (by first | decide | omega))) (rd_ne (by first | decide | omega)))) rfl
                have e1716 : ((I1688 97 16) : Int32).toInt = (I1587 97 16).toInt := Eq.trans (congrArg Int32.toInt (Eq.trans (Eq.trans (Eq.trans (Hid.o hh1694).2.2.2.1 (Hid.o hh1634).2.2.2.1) (rd_ne (by first | decide | omega))) (rd_ne (by first | decide | omega)))) rfl
                have b1717 := Bd.o hB1706 (show isO 112 97 12 = true from rfl) (show bnd 12 12 = some _ from rfl)
                have b1718 := Bd.o hB1706 (show isO 112 97 12 = true from rfl) (show bnd 12 14 = some _ from rfl)
                have b1719 := Bd.o hB1706 (show isO 112 97 12 = true from rfl) (show bnd 12 16 = some _ from rfl)
                refine sp_X12_count hB1706 hR0 (fun x1720 y1725 I1721 J1722 hB1723 p1724 => ?_)
                have hh1726 := Hid.i p1724
                clear p1724
                have f1727 : Fr pT I1704 I1721 := (Hid.o hh1726).2.1
                have f1728 : Fr (pW v1.toInt) I I1721 := Fr.tr f1711 f1727 (fun _ _ => trivial)
                have m1729 : PMp I1704 I1721 := (PMp.mk (Hid.o hh1726).2.2.1 (Hid.o hh1726).2.2.2.1)
                have wr1730 := Or.imp (fun z => z.2) (fun z => And.intro z.1 z.2.1) (Hid.o hh1726).2.2.2.2
                have q1731 : (0 : Int32).toInt = 0 := rfl
                have q1732 : (99 : Int32).toInt = 99 := rfl
                have b1733 := Bd.o hB1723 (show isO 112 97 12 = true from rfl) (show bnd 12 12 = some _ from rfl)
                have b1734 := Bd.o hB1723 (show isO 112 97 12 = true from rfl) (show bnd 12 14 = some _ from rfl)
                have b1735 := Bd.o hB1723 (show isO 112 97 12 = true from rfl) (show bnd 12 16 = some _ from rfl)
                have i1736 := i32 x1720
                have e1737 : ((v1 + 6) : Int32).toInt = (v1.toInt) + (6) := ti_add rfl rfl (by omega)
                refine ⟨vp_of (a := (v1.toInt + 6)) e1737 (by omega) (by omega), ?_⟩
                have hB1738 : Bd (uI I1721 102 (Int32.toNatClampNeg (v1 + 6)) x1720) := Bd.cnew hB1723 (show ((v1 + 6) : Int32).toInt = (v1.toInt + 6) from e1737) (show (x1720 : Int32).toInt = x1720.toInt from rfl) (by omega) (by omega) (by omega) 
                have f1739 : Fr (pW v1.toInt) I (uI I1721 102 (Int32.toNatClampNeg (v1 + 6)) x1720) := Fr.w f1728 (show ((v1 + 6) : Int32).toInt = (v1.toInt + 6) from e1737) (by omega) (fun j hj hp => by unfold pW at hp; omega)
                have e1740 : (((uI I1721 102 (Int32.toNatClampNeg (v1 + 6)) x1720) 102 (Int32.toNatClampNeg (v1 + 1))) : Int32).toInt = x1586.toInt := Eq.trans (congrArg Int32.toInt (Eq.trans (Eq.trans (Eq.trans (Eq.trans (Eq.trans (Eq.trans (rd_k (fun z => by have z1 := tn_of (show ((v1 + 1) : Int32).toInt = (v1.toInt + 1) from e1606) (by omega); have z2 := tn_of (show ((v1 + 6) : Int32).toInt = (v1.toInt + 6) from e1737) (by omega); omega)) (f1727.1 (Int32.toNatClampNeg (v1 + 1)) trivial)) (f1710.1 (Int32.toNatClampNeg (v1 + 1)) trivial)) (f1695.1 (Int32.toNatClampNeg (v1 + 1)) trivial)) (f1635.1 (Int32.toNatClampNeg (v1 + 1)) trivial)) (rd_k (fun z => by have z1 := tn_of (show ((v1 + 1) : Int32).toInt = (v1.toInt + 1) from e1606) (by omega); have z2 := tn_of (show ((v1 + 7) : Int32).toInt = (v1.toInt + 7) from e1624) (by omega); omega))) rd_eq)) rfl
                have fl1741 : (((uI I1721 102 (Int32.toNatClampNeg (v1 + 6)) x1720) 102 (Int32.toNatClampNeg (v1 + 1))) : Int32).toInt = x1586.toInt := e1740
                have e1742 : (((uI I1721 102 (Int32.toNatClampNeg (v1 + 6)) x1720) 102 (Int32.toNatClampNeg (v1 + 5))) : Int32).toInt = x1.toInt := Eq.trans (congrArg Int32.toInt (Eq.trans (Eq.trans (Eq.trans (Eq.trans (Eq.trans (Eq.trans (Eq.trans (Eq.trans (rd_k (fun z => by have z1 := tn_of (show ((v1 + 5) : Int32).toInt = (v1.toInt + 5) from e1070) (by omega); have z2 := tn_of (show ((v1 + 6) : Int32).toInt = (v1.toInt + 6) from e1737) (by omega); omega)) (f1727.1 (Int32.toNatClampNeg (v1 + 5)) trivial)) (f1710.1 (Int32.toNatClampNeg (v1 + 5)) trivial)) (f1695.1 (Int32.toNatClampNeg (v1 + 5)) trivial)) (f1635.1 (Int32.toNatClampNeg (v1 + 5)) trivial)) (rd_k (fun z => by have z1 := tn_of (show ((v1 + 5) : Int32).toInt = (v1.toInt + 5) from e1070) (by omega); have z2 := tn_of (show ((v1 + 7) : Int32).toInt = (v1.toInt + 7) from e1624) (by omega); omega))) (rd_k (fun z => by have z1 := tn_of (show ((v1 + 5) : Int32).toInt = (v1.toInt + 5) from e1070) (by omega); have z2 := tn_of (show ((v1 + 1) : Int32).toInt = (v1.toInt + 1) from e1606) (by omega); omega))) (f1593.1 (Int32.toNatClampNeg (v1 + 5)) trivial)) rd_eq)) rfl
                have fl1743 : (((uI I1721 102 (Int32.toNatClampNeg (v1 + 6)) x1720) 102 (Int32.toNatClampNeg (v1 + 5))) : Int32).toInt = x1.toInt := e1742
                have e1744 : (((uI I1721 102 (Int32.toNatClampNeg (v1 + 6)) x1720) 97 12) : Int32).toInt = (I1721 97 12).toInt := Eq.trans (congrArg Int32.toInt (rd_ne (by first | decide | omega))) rfl
                have fl1745 : (((uI I1721 102 (Int32.toNatClampNeg (v1 + 6)) x1720) 97 12) : Int32).toInt = (I1721 97 12).toInt := e1744
                exact hQ _ _ _ _ hB1738 ⟨(Eq.trans (Eq.trans (Eq.trans (Eq.trans (Eq.trans (Eq.trans (Eq.trans (Eq.trans (Eq.trans (Eq.trans (rd_ne (by first | decide | omega)) (Hid.o hh1726).1) (Hid.o hh1709).1) (Hid.o hh1694).2.1) (Hid.o hh1634).2.1) (rd_ne (by first | decide | omega))) (rd_ne (by first | decide | omega))) (Hid.o hh1592).1) (rd_ne (by first | decide | omega))) (Hid.o hh1056).1) (Hid.o hh7).2.1), f1739, (PMp.o (PMp.tr (PMp.tr (PMp.tr (PMp.tr (PMp.o (PMp.o (PMp.tr (PMp.o (PMp.tr (PMp.tr (PMp.refl I) m10) m1059) (show ¬ (97 : Nat) = 102 by decide)) m1595) (show ¬ (97 : Nat) = 102 by decide)) (show ¬ (97 : Nat) = 102 by decide)) m1637) m1697) m1712) m1729) (show ¬ (97 : Nat) = 102 by decide)), (fun hz => by have op0 := Or.resolve_left (Hid.o hh1592).2.2.2.2 (fun z => by have b := PMp.bad (PMp.o (PMp.tr (PMp.tr (PMp.tr (PMp.tr (PMp.o (PMp.o (PMp.refl I1587) (show ¬ (97 : Nat) = 102 by decide)) (show ¬ (97 : Nat) = 102 by decide)) m1637) m1697) m1712) m1729) (show ¬ (97 : Nat) = 102 by decide)) hz; omega); have op1 := Or.resolve_left (Hid.o hh1726).2.2.2.2 (fun z => by have b := PMp.bad (PMp.o (PMp.refl I1721) (show ¬ (97 : Nat) = 102 by decide)) hz; omega); omega)⟩
              · skip
                have d1746 : ((x1687.toInt) : Int) = (0) := ci_eq rfl rfl c1701
                refine sp_X12_isSign hB1690 hR0 (fun x1747 y1752 I1748 J1749 hB1750 p1751 => ?_)
                intro o1753
                have hh1754 := Hid.i p1751
                clear p1751
                have f1755 : Fr pT I1688 I1748 := (Hid.o hh1754).2.2.2.2.1
                have f1756 : Fr (pW v1.toInt) I I1748 := Fr.tr f1696 f1755 (fun _ _ => trivial)
                have m1757 : PMp I1688 I1748 := (PMp.keep (Hid.o hh1754).1 (Hid.o hh1754).2.2.1 (Hid.o hh1754).2.2.2.1)
                have q1758 : (61 : Int32).toInt = 61 := rfl
                have e1759 : ((I1688 97 14) : Int32).toInt = (I1587 97 14).toInt := Eq.trans (congrArg Int32.toInt (Eq.trans (Eq.trans (Eq.trans (Hid.o hh1694).2.2.1 (Hid.o hh1634).2.2.1) (rd_ne (by first | decide | omega))) (rd_ne (by first | decide | omega)))) rfl
                have i1760 := i32 x1747
                refine ⟨fun c1761 => ?_, fun c1761 => ?_⟩
                · skip
                  have d1762 : ((x1747.toInt) : Int) = (0) := ci_eq rfl rfl c1761
                  refine sp_X12_must hB1750 hR0 (fun x1763 y1768 I1764 J1765 hB1766 p1767 => ?_)
                  have hh1769 := Hid.i p1767
                  clear p1767
                  have f1770 : Fr pT I1748 I1764 := (Hid.o hh1769).2.1
                  have f1771 : Fr (pW v1.toInt) I I1764 := Fr.tr f1756 f1770 (fun _ _ => trivial)
                  have m1772 : PMp I1748 I1764 := (PMp.mk (Hid.o hh1769).2.2.1 (Hid.o hh1769).2.2.2.1)
                  have q1773 : (0 : Int32).toInt = 0 := rfl
                  have e1774 : ((I1748 97 12) : Int32).toInt = (I1587 97 12).toInt := Eq.trans (congrArg Int32.toInt (Eq.trans (Eq.trans (Eq.trans (Eq.trans (Hid.o hh1754).1 (Hid.o hh1694).1) (Hid.o hh1634).1) (rd_ne (by first | decide | omega))) (rd_ne (by first | decide | omega)))) rfl
                  have e1775 : ((I1748 97 14) : Int32).toInt = (I1587 97 14).toInt := Eq.trans (congrArg Int32.toInt (Eq.trans (Eq.trans (Eq.trans (Eq.trans (Hid.o hh1754).2.2.1 (Hid.o hh1694).2.2.1) (Hid.o hh1634).2.2.1) (rd_ne (by first | decide | omega))) (rd_ne (by first | decide | omega)))) rfl
                  have e1776 : ((I1748 97 16) : Int32).toInt = (I1587 97 16).toInt := Eq.trans (congrArg Int32.toInt (Eq.trans (Eq.trans (Eq.trans (Eq.trans (Hid.o hh1754).2.2.2.1 (Hid.o hh1694).2.2.2.1) (Hid.o hh1634).2.2.2.1) (rd_ne (by first | decide | omega))) (rd_ne (by first | decide | omega)))) rfl
                  have b1777 := Bd.o hB1766 (show isO 112 97 12 = true from rfl) (show bnd 12 12 = some _ from rfl)
                  have b1778 := Bd.o hB1766 (show isO 112 97 12 = true from rfl) (show bnd 12 14 = some _ from rfl)
                  have b1779 := Bd.o hB1766 (show isO 112 97 12 = true from rfl) (show bnd 12 16 = some _ from rfl)
                  refine sp_X12_count hB1766 hR0 (fun x1780 y1785 I1781 J1782 hB1783 p1784 => ?_)
                  have hh1786 := Hid.i p1784
                  clear p1784
                  have f1787 : Fr pT I1764 I1781 := (Hid.o hh1786).2.1
                  have f1788 : Fr (pW v1.toInt) I I1781 := Fr.tr f1771 f1787 (fun _ _ => trivial)
                  have m1789 : PMp I1764 I1781 := (PMp.mk (Hid.o hh1786).2.2.1 (Hid.o hh1786).2.2.2.1)
                  have wr1790 := Or.imp (fun z => z.2) (fun z => And.intro z.1 z.2.1) (Hid.o hh1786).2.2.2.2
                  have q1791 : (0 : Int32).toInt = 0 := rfl
                  have q1792 : (99 : Int32).toInt = 99 := rfl
                  have b1793 := Bd.o hB1783 (show isO 112 97 12 = true from rfl) (show bnd 12 12 = some _ from rfl)
                  have b1794 := Bd.o hB1783 (show isO 112 97 12 = true from rfl) (show bnd 12 14 = some _ from rfl)
                  have b1795 := Bd.o hB1783 (show isO 112 97 12 = true from rfl) (show bnd 12 16 = some _ from rfl)
                  have i1796 := i32 x1780
                  have e1797 : ((v1 + 6) : Int32).toInt = (v1.toInt) + (6) := ti_add rfl rfl (by omega)
                  refine ⟨vp_of (a := (v1.toInt + 6)) e1797 (by omega) (by omega), ?_⟩
                  have hB1798 : Bd (uI I1781 102 (Int32.toNatClampNeg (v1 + 6)) x1780) := Bd.cnew hB1783 (show ((v1 + 6) : Int32).toInt = (v1.toInt + 6) from e1797) (show (x1780 : Int32).toInt = x1780.toInt from rfl) (by omega) (by omega) (by omega) 
                  have f1799 : Fr (pW v1.toInt) I (uI I1781 102 (Int32.toNatClampNeg (v1 + 6)) x1780) := Fr.w f1788 (show ((v1 + 6) : Int32).toInt = (v1.toInt + 6) from e1797) (by omega) (fun j hj hp => by unfold pW at hp; omega)
                  have e1800 : (((uI I1781 102 (Int32.toNatClampNeg (v1 + 6)) x1780) 102 (Int32.toNatClampNeg (v1 + 1))) : Int32).toInt = x1586.toInt := Eq.trans (congrArg Int32.toInt (Eq.trans (Eq.trans (Eq.trans (Eq.trans (Eq.trans (Eq.trans (Eq.trans (rd_k (fun z => by have z1 := tn_of (show ((v1 + 1) : Int32).toInt = (v1.toInt + 1) from e1606) (by omega); have z2 := tn_of (show ((v1 + 6) : Int32).toInt = (v1.toInt + 6) from e1797) (by omega); omega)) (f1787.1 (Int32.toNatClampNeg (v1 + 1)) trivial)) (f1770.1 (Int32.toNatClampNeg (v1 + 1)) trivial)) (f1755.1 (Int32.toNatClampNeg (v1 + 1)) trivial)) (f1695.1 (Int32.toNatClampNeg (v1 + 1)) trivial)) (f1635.1 (Int32.toNatClampNeg (v1 + 1)) trivial)) (rd_k (fun z => by have z1 := tn_of (show ((v1 + 1) : Int32).toInt = (v1.toInt + 1) from e1606) (by omega); have z2 := tn_of (show ((v1 + 7) : Int32).toInt = (v1.toInt + 7) from e1624) (by omega); omega))) rd_eq)) rfl
                  have fl1801 : (((uI I1781 102 (Int32.toNatClampNeg (v1 + 6)) x1780) 102 (Int32.toNatClampNeg (v1 + 1))) : Int32).toInt = x1586.toInt := e1800
                  have e1802 : (((uI I1781 102 (Int32.toNatClampNeg (v1 + 6)) x1780) 102 (Int32.toNatClampNeg (v1 + 5))) : Int32).toInt = x1.toInt := Eq.trans (congrArg Int32.toInt (Eq.trans (Eq.trans (Eq.trans (Eq.trans (Eq.trans (Eq.trans (Eq.trans (Eq.trans (Eq.trans (rd_k (fun z => by have z1 := tn_of (show ((v1 + 5) : Int32).toInt = (v1.toInt + 5) from e1070) (by omega); have z2 := tn_of (show ((v1 + 6) : Int32).toInt = (v1.toInt + 6) from e1797) (by omega); omega)) (f1787.1 (Int32.toNatClampNeg (v1 + 5)) trivial)) (f1770.1 (Int32.toNatClampNeg (v1 + 5)) trivial)) (f1755.1 (Int32.toNatClampNeg (v1 + 5)) trivial)) (f1695.1 (Int32.toNatClampNeg (v1 + 5)) trivial)) (f1635.1 (Int32.toNatClampNeg (v1 + 5)) trivial)) (rd_k (fun z => by have z1 := tn_of (show ((v1 + 5) : Int32).toInt = (v1.toInt + 5) from e1070) (by omega); have z2 := tn_of (show ((v1 + 7) : Int32).toInt = (v1.toInt + 7) from e1624) (by omega); omega))) (rd_k (fun z => by have z1 := tn_of (show ((v1 + 5) : Int32).toInt = (v1.toInt + 5) from e1070) (by omega); have z2 := tn_of (show ((v1 + 1) : Int32).toInt = (v1.toInt + 1) from e1606) (by omega); omega))) (f1593.1 (Int32.toNatClampNeg (v1 + 5)) trivial)) rd_eq)) rfl
                  have fl1803 : (((uI I1781 102 (Int32.toNatClampNeg (v1 + 6)) x1780) 102 (Int32.toNatClampNeg (v1 + 5))) : Int32).toInt = x1.toInt := e1802
                  have e1804 : (((uI I1781 102 (Int32.toNatClampNeg (v1 + 6)) x1780) 97 12) : Int32).toInt = (I1781 97 12).toInt := Eq.trans (congrArg Int32.toInt (rd_ne (by first | decide | omega))) rfl
                  have fl1805 : (((uI I1781 102 (Int32.toNatClampNeg (v1 + 6)) x1780) 97 12) : Int32).toInt = (I1781 97 12).toInt := e1804
                  exact hQ _ _ _ _ hB1798 ⟨(Eq.trans (Eq.trans (Eq.trans (Eq.trans (Eq.trans (Eq.trans (Eq.trans (Eq.trans (Eq.trans (Eq.trans (Eq.trans (rd_ne (by first | decide | omega)) (Hid.o hh1786).1) (Hid.o hh1769).1) (Hid.o hh1754).2.1) (Hid.o hh1694).2.1) (Hid.o hh1634).2.1) (rd_ne (by first | decide | omega))) (rd_ne (by first | decide | omega))) (Hid.o hh1592).1) (rd_ne (by first | decide | omega))) (Hid.o hh1056).1) (Hid.o hh7).2.1), f1799, (PMp.o (PMp.tr (PMp.tr (PMp.tr (PMp.tr (PMp.tr (PMp.o (PMp.o (PMp.tr (PMp.o (PMp.tr (PMp.tr (PMp.refl I) m10) m1059) (show ¬ (97 : Nat) = 102 by decide)) m1595) (show ¬ (97 : Nat) = 102 by decide)) (show ¬ (97 : Nat) = 102 by decide)) m1637) m1697) m1757) m1772) m1789) (show ¬ (97 : Nat) = 102 by decide)), (fun hz => by have op0 := Or.resolve_left (Hid.o hh1592).2.2.2.2 (fun z => by have b := PMp.bad (PMp.o (PMp.tr (PMp.tr (PMp.tr (PMp.tr (PMp.tr (PMp.o (PMp.o (PMp.refl I1587) (show ¬ (97 : Nat) = 102 by decide)) (show ¬ (97 : Nat) = 102 by decide)) m1637) m1697) m1757) m1772) m1789) (show ¬ (97 : Nat) = 102 by decide)) hz; omega); have op1 := Or.resolve_left (Hid.o hh1786).2.2.2.2 (fun z => by have b := PMp.bad (PMp.o (PMp.refl I1781) (show ¬ (97 : Nat) = 102 by decide)) hz; omega); omega)⟩
                · skip
                  have d1806 : ¬ ((x1747.toInt) : Int) = (0) := ci_ne rfl rfl c1761
                  refine sp_X12_must hB1750 hR0 (fun x1807 y1812 I1808 J1809 hB1810 p1811 => ?_)
                  have hh1813 := Hid.i p1811
                  clear p1811
                  have f1814 : Fr pT I1748 I1808 := (Hid.o hh1813).2.1
                  have f1815 : Fr (pW v1.toInt) I I1808 := Fr.tr f1756 f1814 (fun _ _ => trivial)
                  have m1816 : PMp I1748 I1808 := (PMp.mk (Hid.o hh1813).2.2.1 (Hid.o hh1813).2.2.2.1)
                  have q1817 : (1 : Int32).toInt = 1 := rfl
                  have e1818 : ((I1748 97 12) : Int32).toInt = (I1587 97 12).toInt := Eq.trans (congrArg Int32.toInt (Eq.trans (Eq.trans (Eq.trans (Eq.trans (Hid.o hh1754).1 (Hid.o hh1694).1) (Hid.o hh1634).1) (rd_ne (by first | decide | omega))) (rd_ne (by first | decide | omega)))) rfl
                  have e1819 : ((I1748 97 14) : Int32).toInt = (I1587 97 14).toInt := Eq.trans (congrArg Int32.toInt (Eq.trans (Eq.trans (Eq.trans (Eq.trans (Hid.o hh1754).2.2.1 (Hid.o hh1694).2.2.1) (Hid.o hh1634).2.2.1) (rd_ne (by first | decide | omega))) (rd_ne (by first | decide | omega)))) rfl
                  have e1820 : ((I1748 97 16) : Int32).toInt = (I1587 97 16).toInt := Eq.trans (congrArg Int32.toInt (Eq.trans (Eq.trans (Eq.trans (Eq.trans (Hid.o hh1754).2.2.2.1 (Hid.o hh1694).2.2.2.1) (Hid.o hh1634).2.2.2.1) (rd_ne (by first | decide | omega))) (rd_ne (by first | decide | omega)))) rfl
                  have b1821 := Bd.o hB1810 (show isO 112 97 12 = true from rfl) (show bnd 12 12 = some _ from rfl)
                  have b1822 := Bd.o hB1810 (show isO 112 97 12 = true from rfl) (show bnd 12 14 = some _ from rfl)
                  have b1823 := Bd.o hB1810 (show isO 112 97 12 = true from rfl) (show bnd 12 16 = some _ from rfl)
                  refine sp_X12_count hB1810 hR0 (fun x1824 y1829 I1825 J1826 hB1827 p1828 => ?_)
                  have hh1830 := Hid.i p1828
                  clear p1828
                  have f1831 : Fr pT I1808 I1825 := (Hid.o hh1830).2.1
                  have f1832 : Fr (pW v1.toInt) I I1825 := Fr.tr f1815 f1831 (fun _ _ => trivial)
                  have m1833 : PMp I1808 I1825 := (PMp.mk (Hid.o hh1830).2.2.1 (Hid.o hh1830).2.2.2.1)
                  have wr1834 := Or.imp (fun z => z.2) (fun z => And.intro z.1 z.2.1) (Hid.o hh1830).2.2.2.2
                  have q1835 : (0 : Int32).toInt = 0 := rfl
                  have q1836 : (99 : Int32).toInt = 99 := rfl
                  have b1837 := Bd.o hB1827 (show isO 112 97 12 = true from rfl) (show bnd 12 12 = some _ from rfl)
                  have b1838 := Bd.o hB1827 (show isO 112 97 12 = true from rfl) (show bnd 12 14 = some _ from rfl)
                  have b1839 := Bd.o hB1827 (show isO 112 97 12 = true from rfl) (show bnd 12 16 = some _ from rfl)
                  have i1840 := i32 x1824
                  have e1841 : ((v1 + 6) : Int32).toInt = (v1.toInt) + (6) := ti_add rfl rfl (by omega)
                  refine ⟨vp_of (a := (v1.toInt + 6)) e1841 (by omega) (by omega), ?_⟩
                  have hB1842 : Bd (uI I1825 102 (Int32.toNatClampNeg (v1 + 6)) x1824) := Bd.cnew hB1827 (show ((v1 + 6) : Int32).toInt = (v1.toInt + 6) from e1841) (show (x1824 : Int32).toInt = x1824.toInt from rfl) (by omega) (by omega) (by omega) 
                  have f1843 : Fr (pW v1.toInt) I (uI I1825 102 (Int32.toNatClampNeg (v1 + 6)) x1824) := Fr.w f1832 (show ((v1 + 6) : Int32).toInt = (v1.toInt + 6) from e1841) (by omega) (fun j hj hp => by unfold pW at hp; omega)
                  have e1844 : (((uI I1825 102 (Int32.toNatClampNeg (v1 + 6)) x1824) 102 (Int32.toNatClampNeg (v1 + 1))) : Int32).toInt = x1586.toInt := Eq.trans (congrArg Int32.toInt (Eq.trans (Eq.trans (Eq.trans (Eq.trans (Eq.trans (Eq.trans (Eq.trans (rd_k (fun z => by have z1 := tn_of (show ((v1 + 1) : Int32).toInt = (v1.toInt + 1) from e1606) (by omega); have z2 := tn_of (show ((v1 + 6) : Int32).toInt = (v1.toInt + 6) from e1841) (by omega); omega)) (f1831.1 (Int32.toNatClampNeg (v1 + 1)) trivial)) (f1814.1 (Int32.toNatClampNeg (v1 + 1)) trivial)) (f1755.1 (Int32.toNatClampNeg (v1 + 1)) trivial)) (f1695.1 (Int32.toNatClampNeg (v1 + 1)) trivial)) (f1635.1 (Int32.toNatClampNeg (v1 + 1)) trivial)) (rd_k (fun z => by have z1 := tn_of (show ((v1 + 1) : Int32).toInt = (v1.toInt + 1) from e1606) (by omega); have z2 := tn_of (show ((v1 + 7) : Int32).toInt = (v1.toInt + 7) from e1624) (by omega); omega))) rd_eq)) rfl
                  have fl1845 : (((uI I1825 102 (Int32.toNatClampNeg (v1 + 6)) x1824) 102 (Int32.toNatClampNeg (v1 + 1))) : Int32).toInt = x1586.toInt := e1844
                  have e1846 : (((uI I1825 102 (Int32.toNatClampNeg (v1 + 6)) x1824) 102 (Int32.toNatClampNeg (v1 + 5))) : Int32).toInt = x1.toInt := Eq.trans (congrArg Int32.toInt (Eq.trans (Eq.trans (Eq.trans (Eq.trans (Eq.trans (Eq.trans (Eq.trans (Eq.trans (Eq.trans (rd_k (fun z => by have z1 := tn_of (show ((v1 + 5) : Int32).toInt = (v1.toInt + 5) from e1070) (by omega); have z2 := tn_of (show ((v1 + 6) : Int32).toInt = (v1.toInt + 6) from e1841) (by omega); omega)) (f1831.1 (Int32.toNatClampNeg (v1 + 5)) trivial)) (f1814.1 (Int32.toNatClampNeg (v1 + 5)) trivial)) (f1755.1 (Int32.toNatClampNeg (v1 + 5)) trivial)) (f1695.1 (Int32.toNatClampNeg (v1 + 5)) trivial)) (f1635.1 (Int32.toNatClampNeg (v1 + 5)) trivial)) (rd_k (fun z => by have z1 := tn_of (show ((v1 + 5) : Int32).toInt = (v1.toInt + 5) from e1070) (by omega); have z2 := tn_of (show ((v1 + 7) : Int32).toInt = (v1.toInt + 7) from e1624) (by omega); omega))) (rd_k (fun z => by have z1 := tn_of (show ((v1 + 5) : Int32).toInt = (v1.toInt + 5) from e1070) (by omega); have z2 := tn_of (show ((v1 + 1) : Int32).toInt = (v1.toInt + 1) from e1606) (by omega); omega))) (f1593.1 (Int32.toNatClampNeg (v1 + 5)) trivial)) rd_eq)) rfl
                  have fl1847 : (((uI I1825 102 (Int32.toNatClampNeg (v1 + 6)) x1824) 102 (Int32.toNatClampNeg (v1 + 5))) : Int32).toInt = x1.toInt := e1846
                  have e1848 : (((uI I1825 102 (Int32.toNatClampNeg (v1 + 6)) x1824) 97 12) : Int32).toInt = (I1825 97 12).toInt := Eq.trans (congrArg Int32.toInt (rd_ne (by first | decide | omega))) rfl
                  have fl1849 : (((uI I1825 102 (Int32.toNatClampNeg (v1 + 6)) x1824) 97 12) : Int32).toInt = (I1825 97 12).toInt := e1848
                  exact hQ _ _ _ _ hB1842 ⟨(Eq.trans (Eq.trans (Eq.trans (Eq.trans (Eq.trans (Eq.trans (Eq.trans (Eq.trans (Eq.trans (Eq.trans (Eq.trans (rd_ne (by first | decide | omega)) (Hid.o hh1830).1) (Hid.o hh1813).1) (Hid.o hh1754).2.1) (Hid.o hh1694).2.1) (Hid.o hh1634).2.1) (rd_ne (by first | decide | omega))) (rd_ne (by first | decide | omega))) (Hid.o hh1592).1) (rd_ne (by first | decide | omega))) (Hid.o hh1056).1) (Hid.o hh7).2.1), f1843, (PMp.o (PMp.tr (PMp.tr (PMp.tr (PMp.tr (PMp.tr (PMp.o (PMp.o (PMp.tr (PMp.o (PMp.tr (PMp.tr (PMp.refl I) m10) m1059) (show ¬ (97 : Nat) = 102 by decide)) m1595) (show ¬ (97 : Nat) = 102 by decide)) (show ¬ (97 : Nat) = 102 by decide)) m1637) m1697) m1757) m1816) m1833) (show ¬ (97 : Nat) = 102 by decide)), (fun hz => by have op0 := Or.resolve_left (Hid.o hh1592).2.2.2.2 (fun z => by have b := PMp.bad (PMp.o (PMp.tr (PMp.tr (PMp.tr (PMp.tr (PMp.tr (PMp.o (PMp.o (PMp.refl I1587) (show ¬ (97 : Nat) = 102 by decide)) (show ¬ (97 : Nat) = 102 by decide)) m1637) m1697) m1757) m1816) m1833) (show ¬ (97 : Nat) = 102 by decide)) hz; omega); have op1 := Or.resolve_left (Hid.o hh1830).2.2.2.2 (fun z => by have b := PMp.bad (PMp.o (PMp.refl I1825) (show ¬ (97 : Nat) = 102 by decide)) hz; omega); omega)⟩
          · skip
            have e1850 : (((uI I1587 102 (Int32.toNatClampNeg (v1 + 1)) x1586) 97 14) : Int32).toInt = (I1587 97 14).toInt := Eq.trans (congrArg Int32.toInt (rd_ne (by first | decide | omega))) rfl
            have d1851 : (((I1587 97 14).toInt) : Int) = (3) := ci_eq e1850 rfl c1621
            have e1852 : ((v1 + 7) : Int32).toInt = (v1.toInt) + (7) := ti_add rfl rfl (by omega)
            refine ⟨vp_of (a := (v1.toInt + 7)) e1852 (by omega) (by omega), ?_⟩
            have e1854 : (((uI I1587 102 (Int32.toNatClampNeg (v1 + 1)) x1586) 97 17) : Int32).toInt = (I1587 97 17).toInt := Eq.trans (congrArg Int32.toInt (rd_ne (by first | decide | omega))) rfl
            have hB1853 : Bd (uI (uI I1587 102 (Int32.toNatClampNeg (v1 + 1)) x1586) 102 (Int32.toNatClampNeg (v1 + 7)) ((uI I1587 102 (Int32.toNatClampNeg (v1 + 1)) x1586) 97 17)) := Bd.cnew hB1607 (show ((v1 + 7) : Int32).toInt = (v1.toInt + 7) from e1852) (show (((uI I1587 102 (Int32.toNatClampNeg (v1 + 1)) x1586) 97 17) : Int32).toInt = (I1587 97 17).toInt from e1854) (by omega) (by omega) (by omega) 
            have f1855 : Fr (pW v1.toInt) I (uI (uI I1587 102 (Int32.toNatClampNeg (v1 + 1)) x1586) 102 (Int32.toNatClampNeg (v1 + 7)) ((uI I1587 102 (Int32.toNatClampNeg (v1 + 1)) x1586) 97 17)) := Fr.w f1608 (show ((v1 + 7) : Int32).toInt = (v1.toInt + 7) from e1852) (by omega) (fun j hj hp => by unfold pW at hp; omega)
            refine sp_X12_isSign hB1853 hR0 (fun x1856 y1861 I1857 J1858 hB1859 p1860 => ?_)
            intro o1862
            have hh1863 := Hid.i p1860
            clear p1860
            have f1864 : Fr pT (uI (uI I1587 102 (Int32.toNatClampNeg (v1 + 1)) x1586) 102 (Int32.toNatClampNeg (v1 + 7)) ((uI I1587 102 (Int32.toNatClampNeg (v1 + 1)) x1586) 97 17)) I1857 := (Hid.o hh1863).2.2.2.2.1
            have f1865 : Fr (pW v1.toInt) I I1857 := Fr.tr f1855 f1864 (fun _ _ => trivial)
            have m1866 : PMp (uI (uI I1587 102 (Int32.toNatClampNeg (v1 + 1)) x1586) 102 (Int32.toNatClampNeg (v1 + 7)) ((uI I1587 102 (Int32.toNatClampNeg (v1 + 1)) x1586) 97 17)) I1857 := (PMp.keep (Hid.o hh1863).1 (Hid.o hh1863).2.2.1 (Hid.o hh1863).2.2.2.1)
            have q1867 : (60 : Int32).toInt = 60 := rfl
            have e1868 : (((uI (uI I1587 102 (Int32.toNatClampNeg (v1 + 1)) x1586) 102 (Int32.toNatClampNeg (v1 + 7)) ((uI I1587 102 (Int32.toNatClampNeg (v1 + 1)) x1586) 97 17)) 97 14) : Int32).toInt = (I1587 97 14).toInt := Eq.trans (congrArg Int32.toInt (Eq.trans (rd_ne (by first | decide | omega)) (rd_ne (by first | decide | omega)))) rfl
            have i1869 := i32 x1856
            refine ⟨fun c1870 => ?_, fun c1870 => ?_⟩
            · skip
              have d1871 : ¬ ((x1856.toInt) : Int) = (0) := ci_ne rfl rfl c1870
              refine sp_X12_must hB1859 hR0 (fun x1872 y1877 I1873 J1874 hB1875 p1876 => ?_)
              have hh1878 := Hid.i p1876
              clear p1876
              have f1879 : Fr pT I1857 I1873 := (Hid.o hh1878).2.1
              have f1880 : Fr (pW v1.toInt) I I1873 := Fr.tr f1865 f1879 (fun _ _ => trivial)
              have m1881 : PMp I1857 I1873 := (PMp.mk (Hid.o hh1878).2.2.1 (Hid.o hh1878).2.2.2.1)
              have q1882 : (1 : Int32).toInt = 1 := rfl
              have e1883 : ((I1857 97 12) : Int32).toInt = (I1587 97 12).toInt := Eq.trans (congrArg Int32.toInt (Eq.trans (Eq.trans (Hid.o hh1863).1 (rd_ne (by first | decide | omega))) (rd_ne (by first | decide | omega)))) rfl
              have e1884 : ((I1857 97 14) : Int32).toInt = (I1587 97 14).toInt := Eq.trans (congrArg Int32.toInt (Eq.trans (Eq.trans (Hid.o hh1863).2.2.1 (rd_ne (by first | decide | omega))) (rd_ne (by first | decide | omega)))) rfl
              have e1885 : ((I1857 97 16) : Int32).toInt = (I1587 97 16).toInt := Eq.trans (congrArg Int32.toInt (Eq.trans (Eq.trans (Hid.o hh1863).2.2.2.1 (rd_ne (by first | decide | omega))) (rd_ne (by first | decide | omega)))) rfl
              have b1886 := Bd.o hB1875 (show isO 112 97 12 = true from rfl) (show bnd 12 12 = some _ from rfl)
              have b1887 := Bd.o hB1875 (show isO 112 97 12 = true from rfl) (show bnd 12 14 = some _ from rfl)
              have b1888 := Bd.o hB1875 (show isO 112 97 12 = true from rfl) (show bnd 12 16 = some _ from rfl)
              refine sp_X12_count hB1875 hR0 (fun x1889 y1894 I1890 J1891 hB1892 p1893 => ?_)
              have hh1895 := Hid.i p1893
              clear p1893
              have f1896 : Fr pT I1873 I1890 := (Hid.o hh1895).2.1
              have f1897 : Fr (pW v1.toInt) I I1890 := Fr.tr f1880 f1896 (fun _ _ => trivial)
              have m1898 : PMp I1873 I1890 := (PMp.mk (Hid.o hh1895).2.2.1 (Hid.o hh1895).2.2.2.1)
              have wr1899 := Or.imp (fun z => z.2) (fun z => And.intro z.1 z.2.1) (Hid.o hh1895).2.2.2.2
              have q1900 : (0 : Int32).toInt = 0 := rfl
              have q1901 : (99 : Int32).toInt = 99 := rfl
              have b1902 := Bd.o hB1892 (show isO 112 97 12 = true from rfl) (show bnd 12 12 = some _ from rfl)
              have b1903 := Bd.o hB1892 (show isO 112 97 12 = true from rfl) (show bnd 12 14 = some _ from rfl)
              have b1904 := Bd.o hB1892 (show isO 112 97 12 = true from rfl) (show bnd 12 16 = some _ from rfl)
              have i1905 := i32 x1889
              have e1906 : ((v1 + 6) : Int32).toInt = (v1.toInt) + (6) := ti_add rfl rfl (by omega)
              refine ⟨vp_of (a := (v1.toInt + 6)) e1906 (by omega) (by omega), ?_⟩
              have hB1907 : Bd (uI I1890 102 (Int32.toNatClampNeg (v1 + 6)) x1889) := Bd.cnew hB1892 (show ((v1 + 6) : Int32).toInt = (v1.toInt + 6) from e1906) (show (x1889 : Int32).toInt = x1889.toInt from rfl) (by omega) (by omega) (by omega) 
              have f1908 : Fr (pW v1.toInt) I (uI I1890 102 (Int32.toNatClampNeg (v1 + 6)) x1889) := Fr.w f1897 (show ((v1 + 6) : Int32).toInt = (v1.toInt + 6) from e1906) (by omega) (fun j hj hp => by unfold pW at hp; omega)
              have e1909 : (((uI I1890 102 (Int32.toNatClampNeg (v1 + 6)) x1889) 102 (Int32.toNatClampNeg (v1 + 1))) : Int32).toInt = x1586.toInt := Eq.trans (congrArg Int32.toInt (Eq.trans (Eq.trans (Eq.trans (Eq.trans (Eq.trans (rd_k (fun z => by have z1 := tn_of (show ((v1 + 1) : Int32).toInt = (v1.toInt + 1) from e1606) (by omega); have z2 := tn_of (show ((v1 + 6) : Int32).toInt = (v1.toInt + 6) from e1906) (by omega); omega)) (f1896.1 (Int32.toNatClampNeg (v1 + 1)) trivial)) (f1879.1 (Int32.toNatClampNeg (v1 + 1)) trivial)) (f1864.1 (Int32.toNatClampNeg (v1 + 1)) trivial)) (rd_k (fun z => by have z1 := tn_of (show ((v1 + 1) : Int32).toInt = (v1.toInt + 1) from e1606) (by omega); have z2 := tn_of (show ((v1 + 7) : Int32).toInt = (v1.toInt + 7) from e1852) (by omega); omega))) rd_eq)) rfl
              have fl1910 : (((uI I1890 102 (Int32.toNatClampNeg (v1 + 6)) x1889) 102 (Int32.toNatClampNeg (v1 + 1))) : Int32).toInt = x1586.toInt := e1909
              have e1911 : (((uI I1890 102 (Int32.toNatClampNeg (v1 + 6)) x1889) 102 (Int32.toNatClampNeg (v1 + 5))) : Int32).toInt = x1.toInt := Eq.trans (congrArg Int32.toInt (Eq.trans (Eq.trans (Eq.trans (Eq.trans (Eq.trans (Eq.trans (Eq.trans (rd_k (fun z => by have z1 := tn_of (show ((v1 + 5) : Int32).toInt = (v1.toInt + 5) from e1070) (by omega); have z2 := tn_of (show ((v1 + 6) : Int32).toInt = (v1.toInt + 6) from e1906) (by omega); omega)) (f1896.1 (Int32.toNatClampNeg (v1 + 5)) trivial)) (f1879.1 (Int32.toNatClampNeg (v1 + 5)) trivial)) (f1864.1 (Int32.toNatClampNeg (v1 + 5)) trivial)) (rd_k (fun z => by have z1 := tn_of (show ((v1 + 5) : Int32).toInt = (v1.toInt + 5) from e1070) (by omega); have z2 := tn_of (show ((v1 + 7) : Int32).toInt = (v1.toInt + 7) from e1852) (by omega); omega))) (rd_k (fun z => by have z1 := tn_of (show ((v1 + 5) : Int32).toInt = (v1.toInt + 5) from e1070) (by omega); have z2 := tn_of (show ((v1 + 1) : Int32).toInt = (v1.toInt + 1) from e1606) (by omega); omega))) (f1593.1 (Int32.toNatClampNeg (v1 + 5)) trivial)) rd_eq)) rfl
              have fl1912 : (((uI I1890 102 (Int32.toNatClampNeg (v1 + 6)) x1889) 102 (Int32.toNatClampNeg (v1 + 5))) : Int32).toInt = x1.toInt := e1911
              have e1913 : (((uI I1890 102 (Int32.toNatClampNeg (v1 + 6)) x1889) 97 12) : Int32).toInt = (I1890 97 12).toInt := Eq.trans (congrArg Int32.toInt (rd_ne (by first | decide | omega))) rfl
              have fl1914 : (((uI I1890 102 (Int32.toNatClampNeg (v1 + 6)) x1889) 97 12) : Int32).toInt = (I1890 97 12).toInt := e1913
              exact hQ _ _ _ _ hB1907 ⟨(Eq.trans (Eq.trans (Eq.trans (Eq.trans (Eq.trans (Eq.trans (Eq.trans (Eq.trans (Eq.trans (rd_ne (by first | decide | omega)) (Hid.o hh1895).1) (Hid.o hh1878).1) (Hid.o hh1863).2.1) (rd_ne (by first | decide | omega))) (rd_ne (by first | decide | omega))) (Hid.o hh1592).1) (rd_ne (by first | decide | omega))) (Hid.o hh1056).1) (Hid.o hh7).2.1), f1908, (PMp.o (PMp.tr (PMp.tr (PMp.tr (PMp.o (PMp.o (PMp.tr (PMp.o (PMp.tr (PMp.tr (PMp.refl I) m10) m1059) (show ¬ (97 : Nat) = 102 by decide)) m1595) (show ¬ (97 : Nat) = 102 by decide)) (show ¬ (97 : Nat) = 102 by decide)) m1866) m1881) m1898) (show ¬ (97 : Nat) = 102 by decide)), (fun hz => by have op0 := Or.resolve_left (Hid.o hh1592).2.2.2.2 (fun z => by have b := PMp.bad (PMp.o (PMp.tr (PMp.tr (PMp.tr (PMp.o (PMp.o (PMp.refl I1587) (show ¬ (97 : Nat) = 102 by decide)) (show ¬ (97 : Nat) = 102 by decide)) m1866) m1881) m1898) (show ¬ (97 : Nat) = 102 by decide)) hz; omega); have op1 := Or.resolve_left (Hid.o hh1895).2.2.2.2 (fun z => by have b := PMp.bad (PMp.o (PMp.refl I1890) (show ¬ (97 : Nat) = 102 by decide)) hz; omega); omega)⟩
            · skip
              have d1915 : ((x1856.toInt) : Int) = (0) := ci_eq rfl rfl c1870
              refine sp_X12_isSign hB1859 hR0 (fun x1916 y1921 I1917 J1918 hB1919 p1920 => ?_)
              intro o1922
              have hh1923 := Hid.i p1920
              clear p1920
              have f1924 : Fr pT I1857 I1917 := (Hid.o hh1923).2.2.2.2.1
              have f1925 : Fr (pW v1.toInt) I I1917 := Fr.tr f1865 f1924 (fun _ _ => trivial)
              have m1926 : PMp I1857 I1917 := (PMp.keep (Hid.o hh1923).1 (Hid.o hh1923).2.2.1 (Hid.o hh1923).2.2.2.1)
              have q1927 : (62 : Int32).toInt = 62 := rfl
              have e1928 : ((I1857 97 14) : Int32).toInt = (I1587 97 14).toInt := Eq.trans (congrArg Int32.toInt (Eq.trans (Eq.trans (Hid.o hh1863).2.2.1 (rd_ne (by first | decide | omega))) (rd_ne (by first | decide | omega)))) rfl
              have i1929 := i32 x1916
              refine ⟨fun c1930 => ?_, fun c1930 => ?_⟩
              · skip
                have d1931 : ¬ ((x1916.toInt) : Int) = (0) := ci_ne rfl rfl c1930
                refine sp_X12_must hB1919 hR0 (fun x1932 y1937 I1933 J1934 hB1935 p1936 => ?_)
                have hh1938 := Hid.i p1936
                clear p1936
                have f1939 : Fr pT I1917 I1933 := (Hid.o hh1938).2.1
                have f1940 : Fr (pW v1.toInt) I I1933 := Fr.tr f1925 f1939 (fun _ _ => trivial)
                have m1941 : PMp I1917 I1933 := (PMp.mk (Hid.o hh1938).2.2.1 (Hid.o hh1938).2.2.2.1)
                have q1942 : (1 : Int32).toInt = 1 := rfl
                have e1943 : ((I1917 97 12) : Int32).toInt = (I1587 97 12).toInt := Eq.trans (congrArg Int32.toInt (Eq.trans (Eq.trans (Eq.trans (Hid.o hh1923).1 (Hid.o hh1863).1) (rd_ne (by first | decide | omega))) (rd_ne (by first | decide | omega)))) rfl
                have e1944 : ((I1917 97 14) : Int32).toInt = (I1587 97 14).toInt := Eq.trans (congrArg Int32.toInt (Eq.trans (Eq.trans (Eq.trans (Hid.o hh1923).2.2.1 (Hid.o hh1863).2.2.1) (rd_ne (by first | decide | omega))) (rd_ne (by first | decide | omega)))) rfl
                have e1945 : ((I1917 97 16) : Int32).toInt = (I1587 97 16).toInt := Eq.trans (congrArg Int32.toInt (Eq.trans (Eq.trans (Eq.trans (Hid.o hh1923).2.2.2.1 (Hid.o hh1863).2.2.2.1) (rd_ne (by first | decide | omega))) (rd_ne (by first | decide | omega)))) rfl
                have b1946 := Bd.o hB1935 (show isO 112 97 12 = true from rfl) (show bnd 12 12 = some _ from rfl)
                have b1947 := Bd.o hB1935 (show isO 112 97 12 = true from rfl) (show bnd 12 14 = some _ from rfl)
                have b1948 := Bd.o hB1935 (show isO 112 97 12 = true from rfl) (show bnd 12 16 = some _ from rfl)
                refine sp_X12_count hB1935 hR0 (fun x1949 y1954 I1950 J1951 hB1952 p1953 => ?_)
                have hh1955 := Hid.i p1953
                clear p1953
                have f1956 : Fr pT I1933 I1950 := (Hid.o hh1955).2.1
                have f1957 : Fr (pW v1.toInt) I I1950 := Fr.tr f1940 f1956 (fun _ _ => trivial)
                have m1958 : PMp I1933 I1950 := (PMp.mk (Hid.o hh1955).2.2.1 (Hid.o hh1955).2.2.2.1)
                have wr1959 := Or.imp (fun z => z.2) (fun z => And.intro z.1 z.2.1) (Hid.o hh1955).2.2.2.2
                have q1960 : (0 : Int32).toInt = 0 := rfl
                have q1961 : (99 : Int32).toInt = 99 := rfl
                have b1962 := Bd.o hB1952 (show isO 112 97 12 = true from rfl) (show bnd 12 12 = some _ from rfl)
                have b1963 := Bd.o hB1952 (show isO 112 97 12 = true from rfl) (show bnd 12 14 = some _ from rfl)
                have b1964 := Bd.o hB1952 (show isO 112 97 12 = true from rfl) (show bnd 12 16 = some _ from rfl)
                have i1965 := i32 x1949
                have e1966 : ((v1 + 6) : Int32).toInt = (v1.toInt) + (6) := ti_add rfl rfl (by omega)
                refine ⟨vp_of (a := (v1.toInt + 6)) e1966 (by omega) (by omega), ?_⟩
                have hB1967 : Bd (uI I1950 102 (Int32.toNatClampNeg (v1 + 6)) x1949) := Bd.cnew hB1952 (show ((v1 + 6) : Int32).toInt = (v1.toInt + 6) from e1966) (show (x1949 : Int32).toInt = x1949.toInt from rfl) (by omega) (by omega) (by omega) 
                have f1968 : Fr (pW v1.toInt) I (uI I1950 102 (Int32.toNatClampNeg (v1 + 6)) x1949) := Fr.w f1957 (show ((v1 + 6) : Int32).toInt = (v1.toInt + 6) from e1966) (by omega) (fun j hj hp => by unfold pW at hp; omega)
                have e1969 : (((uI I1950 102 (Int32.toNatClampNeg (v1 + 6)) x1949) 102 (Int32.toNatClampNeg (v1 + 1))) : Int32).toInt = x1586.toInt := Eq.trans (congrArg Int32.toInt (Eq.trans (Eq.trans (Eq.trans (Eq.trans (Eq.trans (Eq.trans (rd_k (fun z => by have z1 := tn_of (show ((v1 + 1) : Int32).toInt = (v1.toInt + 1) from e1606) (by omega); have z2 := tn_of (show ((v1 + 6) : Int32).toInt = (v1.toInt + 6) from e1966) (by omega); omega)) (f1956.1 (Int32.toNatClampNeg (v1 + 1)) trivial)) (f1939.1 (Int32.toNatClampNeg (v1 + 1)) trivial)) (f1924.1 (Int32.toNatClampNeg (v1 + 1)) trivial)) (f1864.1 (Int32.toNatClampNeg (v1 + 1)) trivial)) (rd_k (fun z => by have z1 := tn_of (show ((v1 + 1) : Int32).toInt = (v1.toInt + 1) from e1606) (by omega); have z2 := tn_of (show ((v1 + 7) : Int32).toInt = (v1.toInt + 7) from e1852) (by omega); omega))) rd_eq)) rfl
                have fl1970 : (((uI I1950 102 (Int32.toNatClampNeg (v1 + 6)) x1949) 102 (Int32.toNatClampNeg (v1 + 1))) : Int32).toInt = x1586.toInt := e1969
                have e1971 : (((uI I1950 102 (Int32.toNatClampNeg (v1 + 6)) x1949) 102 (Int32.toNatClampNeg (v1 + 5))) : Int32).toInt = x1.toInt := Eq.trans (congrArg Int32.toInt (Eq.trans (Eq.trans (Eq.trans (Eq.trans (Eq.trans (Eq.trans (Eq.trans (Eq.trans (rd_k (fun z => by have z1 := tn_of (show ((v1 + 5) : Int32).toInt = (v1.toInt + 5) from e1070) (by omega); have z2 := tn_of (show ((v1 + 6) : Int32).toInt = (v1.toInt + 6) from e1966) (by omega); omega)) (f1956.1 (Int32.toNatClampNeg (v1 + 5)) trivial)) (f1939.1 (Int32.toNatClampNeg (v1 + 5)) trivial)) (f1924.1 (Int32.toNatClampNeg (v1 + 5)) trivial)) (f1864.1 (Int32.toNatClampNeg (v1 + 5)) trivial)) (rd_k (fun z => by have z1 := tn_of (show ((v1 + 5) : Int32).toInt = (v1.toInt + 5) from e1070) (by omega); have z2 := tn_of (show ((v1 + 7) : Int32).toInt = (v1.toInt + 7) from e1852) (by omega); omega))) (rd_k (fun z => by have z1 := tn_of (show ((v1 + 5) : Int32).toInt = (v1.toInt + 5) from e1070) (by omega); have z2 := tn_of (show ((v1 + 1) : Int32).toInt = (v1.toInt + 1) from e1606) (by omega); omega))) (f1593.1 (Int32.toNatClampNeg (v1 + 5)) trivial)) rd_eq)) rfl
                have fl1972 : (((uI I1950 102 (Int32.toNatClampNeg (v1 + 6)) x1949) 102 (Int32.toNatClampNeg (v1 + 5))) : Int32).toInt = x1.toInt := e1971
                have e1973 : (((uI I1950 102 (Int32.toNatClampNeg (v1 + 6)) x1949) 97 12) : Int32).toInt = (I1950 97 12).toInt := Eq.trans (congrArg Int32.toInt (rd_ne (by first | decide | omega))) rfl
                have fl1974 : (((uI I1950 102 (Int32.toNatClampNeg (v1 + 6)) x1949) 97 12) : Int32).toInt = (I1950 97 12).toInt := e1973
                exact hQ _ _ _ _ hB1967 ⟨(Eq.trans (Eq.trans (Eq.trans (Eq.trans (Eq.trans (Eq.trans (Eq.trans (Eq.trans (Eq.trans (Eq.trans (rd_ne (by first | decide | omega)) (Hid.o hh1955).1) (Hid.o hh1938).1) (Hid.o hh1923).2.1) (Hid.o hh1863).2.1) (rd_ne (by first | decide | omega))) (rd_ne (by first | decide | omega))) (Hid.o hh1592).1) (rd_ne (by first | decide | omega))) (Hid.o hh1056).1) (Hid.o hh7).2.1), f1968, (PMp.o (PMp.tr (PMp.tr (PMp.tr (PMp.tr (PMp.o (PMp.o (PMp.tr (PMp.o (PMp.tr (PMp.tr (PMp.refl I) m10) m1059) (show ¬ (97 : Nat) = 102 by decide)) m1595) (show ¬ (97 : Nat) = 102 by decide)) (show ¬ (97 : Nat) = 102 by decide)) m1866) m1926) m1941) m1958) (show ¬ (97 : Nat) = 102 by decide)), (fun hz => by have op0 := Or.resolve_left (Hid.o hh1592).2.2.2.2 (fun z => by have b := PMp.bad (PMp.o (PMp.tr (PMp.tr (PMp.tr (PMp.tr (PMp.o (PMp.o (PMp.refl I1587) (show ¬ (97 : Nat) = 102 by decide)) (show ¬ (97 : Nat) = 102 by decide)) m1866) m1926) m1941) m1958) (show ¬ (97 : Nat) = 102 by decide)) hz; omega); have op1 := Or.resolve_left (Hid.o hh1955).2.2.2.2 (fun z => by have b := PMp.bad (PMp.o (PMp.refl I1950) (show ¬ (97 : Nat) = 102 by decide)) hz; omega); omega)⟩
              · skip
                have d1975 : ((x1916.toInt) : Int) = (0) := ci_eq rfl rfl c1930
                refine sp_X12_isSign hB1919 hR0 (fun x1976 y1981 I1977 J1978 hB1979 p1980 => ?_)
                intro o1982
                have hh1983 := Hid.i p1980
                clear p1980
                have f1984 : Fr pT I1917 I1977 := (Hid.o hh1983).2.2.2.2.1
                have f1985 : Fr (pW v1.toInt) I I1977 := Fr.tr f1925 f1984 (fun _ _ => trivial)
                have m1986 : PMp I1917 I1977 := (PMp.keep (Hid.o hh1983).1 (Hid.o hh1983).2.2.1 (Hid.o hh1983).2.2.2.1)
                have q1987 : (61 : Int32).toInt = 61 := rfl
                have e1988 : ((I1917 97 14) : Int32).toInt = (I1587 97 14).toInt := Eq.trans (congrArg Int32.toInt (Eq.trans (Eq.trans (Eq.trans (Hid.o hh1923).2.2.1 (Hid.o hh1863).2.2.1) (rd_ne (by first | decide | omega))) (rd_ne (by first | decide | omega)))) rfl
                have i1989 := i32 x1976
                refine ⟨fun c1990 => ?_, fun c1990 => ?_⟩
                · skip
                  have d1991 : ((x1976.toInt) : Int) = (0) := ci_eq rfl rfl c1990
                  refine sp_X12_must hB1979 hR0 (fun x1992 y1997 I1993 J1994 hB1995 p1996 => ?_)
                  have hh1998 := Hid.i p1996
                  clear p1996
                  have f1999 : Fr pT I1977 I1993 := (Hid.o hh1998).2.1
                  have f2000 : Fr (pW v1.toInt) I I1993 := Fr.tr f1985 f1999 (fun _ _ => trivial)
                  have m2001 : PMp I1977 I1993 := (PMp.mk (Hid.o hh1998).2.2.1 (Hid.o hh1998).2.2.2.1)
                  have q2002 : (0 : Int32).toInt = 0 := rfl
                  have e2003 : ((I1977 97 12) : Int32).toInt = (I1587 97 12).toInt := Eq.trans (congrArg Int32.toInt (Eq.trans (Eq.trans (Eq.trans (Eq.trans (Hid.o hh1983).1 (Hid.o hh1923).1) (Hid.o hh1863).1) (rd_ne (by first | decide | omega))) (rd_ne (by first | decide | omega)))) rfl
                  have e2004 : ((I1977 97 14) : Int32).toInt = (I1587 97 14).toInt := Eq.trans (congrArg Int32.toInt (Eq.trans (Eq.trans (Eq.trans (Eq.trans (Hid.o hh1983).2.2.1 (Hid.o hh1923).2.2.1) (Hid.o hh1863).2.2.1) (rd_ne (by first | decide | omega))) (rd_ne (by first | decide | omega)))) rfl
                  have e2005 : ((I1977 97 16) : Int32).toInt = (I1587 97 16).toInt := Eq.trans (congrArg Int32.toInt (Eq.trans (Eq.trans (Eq.trans (Eq.trans (Hid.o hh1983).2.2.2.1 (Hid.o hh1923).2.2.2.1) (Hid.o hh1863).2.2.2.1) (rd_ne (by first | decide | omega))) (rd_ne (by first | decide | omega)))) rfl
                  have b2006 := Bd.o hB1995 (show isO 112 97 12 = true from rfl) (show bnd 12 12 = some _ from rfl)
                  have b2007 := Bd.o hB1995 (show isO 112 97 12 = true from rfl) (show bnd 12 14 = some _ from rfl)
                  have b2008 := Bd.o hB1995 (show isO 112 97 12 = true from rfl) (show bnd 12 16 = some _ from rfl)
                  refine sp_X12_count hB1995 hR0 (fun x2009 y2014 I2010 J2011 hB2012 p2013 => ?_)
                  have hh2015 := Hid.i p2013
                  clear p2013
                  have f2016 : Fr pT I1993 I2010 := (Hid.o hh2015).2.1
                  have f2017 : Fr (pW v1.toInt) I I2010 := Fr.tr f2000 f2016 (fun _ _ => trivial)
                  have m2018 : PMp I1993 I2010 := (PMp.mk (Hid.o hh2015).2.2.1 (Hid.o hh2015).2.2.2.1)
                  have wr2019 := Or.imp (fun z => z.2) (fun z => And.intro z.1 z.2.1) (Hid.o hh2015).2.2.2.2
                  have q2020 : (0 : Int32).toInt = 0 := rfl
                  have q2021 : (99 : Int32).toInt = 99 := rfl
                  have b2022 := Bd.o hB2012 (show isO 112 97 12 = true from rfl) (show bnd 12 12 = some _ from rfl)
                  have b2023 := Bd.o hB2012 (show isO 112 97 12 = true from rfl) (show bnd 12 14 = some _ from rfl)
                  have b2024 := Bd.o hB2012 (show isO 112 97 12 = true from rfl) (show bnd 12 16 = some _ from rfl)
                  have i2025 := i32 x2009
                  have e2026 : ((v1 + 6) : Int32).toInt = (v1.toInt) + (6) := ti_add rfl rfl (by omega)
                  refine ⟨vp_of (a := (v1.toInt + 6)) e2026 (by omega) (by omega), ?_⟩
                  have hB2027 : Bd (uI I2010 102 (Int32.toNatClampNeg (v1 + 6)) x2009) := Bd.cnew hB2012 (show ((v1 + 6) : Int32).toInt = (v1.toInt + 6) from e2026) (show (x2009 : Int32).toInt = x2009.toInt from rfl) (by omega) (by omega) (by omega) 
                  have f2028 : Fr (pW v1.toInt) I (uI I2010 102 (Int32.toNatClampNeg (v1 + 6)) x2009) := Fr.w f2017 (show ((v1 + 6) : Int32).toInt = (v1.toInt + 6) from e2026) (by omega) (fun j hj hp => by unfold pW at hp; omega)
                  have e2029 : (((uI I2010 102 (Int32.toNatClampNeg (v1 + 6)) x2009) 102 (Int32.toNatClampNeg (v1 + 1))) : Int32).toInt = x1586.toInt := Eq.trans (congrArg Int32.toInt (Eq.trans (Eq.trans (Eq.trans (Eq.trans (Eq.trans (Eq.trans (Eq.trans (rd_k (fun z => by have z1 := tn_of (show ((v1 + 1) : Int32).toInt = (v1.toInt + 1) from e1606) (by omega); have z2 := tn_of (show ((v1 + 6) : Int32).toInt = (v1.toInt + 6) from e2026) (by omega); omega)) (f2016.1 (Int32.toNatClampNeg (v1 + 1)) trivial)) (f1999.1 (Int32.toNatClampNeg (v1 + 1)) trivial)) (f1984.1 (Int32.toNatClampNeg (v1 + 1)) trivial)) (f1924.1 (Int32.toNatClampNeg (v1 + 1)) trivial)) (f1864.1 (Int32.toNatClampNeg (v1 + 1)) trivial)) (rd_k (fun z => by have z1 := tn_of (show ((v1 + 1) : Int32).toInt = (v1.toInt + 1) from e1606) (by omega); have z2 := tn_of (show ((v1 + 7) : Int32).toInt = (v1.toInt + 7) from e1852) (by omega); omega))) rd_eq)) rfl
                  have fl2030 : (((uI I2010 102 (Int32.toNatClampNeg (v1 + 6)) x2009) 102 (Int32.toNatClampNeg (v1 + 1))) : Int32).toInt = x1586.toInt := e2029
                  have e2031 : (((uI I2010 102 (Int32.toNatClampNeg (v1 + 6)) x2009) 102 (Int32.toNatClampNeg (v1 + 5))) : Int32).toInt = x1.toInt := Eq.trans (congrArg Int32.toInt (Eq.trans (Eq.trans (Eq.trans (Eq.trans (Eq.trans (Eq.trans (Eq.trans (Eq.trans (Eq.trans (rd_k (fun z => by have z1 := tn_of (show ((v1 + 5) : Int32).toInt = (v1.toInt + 5) from e1070) (by omega); have z2 := tn_of (show ((v1 + 6) : Int32).toInt = (v1.toInt + 6) from e2026) (by omega); omega)) (f2016.1 (Int32.toNatClampNeg (v1 + 5)) trivial)) (f1999.1 (Int32.toNatClampNeg (v1 + 5)) trivial)) (f1984.1 (Int32.toNatClampNeg (v1 + 5)) trivial)) (f1924.1 (Int32.toNatClampNeg (v1 + 5)) trivial)) (f1864.1 (Int32.toNatClampNeg (v1 + 5)) trivial)) (rd_k (fun z => by have z1 := tn_of (show ((v1 + 5) : Int32).toInt = (v1.toInt + 5) from e1070) (by omega); have z2 := tn_of (show ((v1 + 7) : Int32).toInt = (v1.toInt + 7) from e1852) (by omega); omega))) (rd_k (fun z => by have z1 := tn_of (show ((v1 + 5) : Int32).toInt = (v1.toInt + 5) from e1070) (by omega); have z2 := tn_of (show ((v1 + 1) : Int32).toInt = (v1.toInt + 1) from e1606) (by omega); omega))) (f1593.1 (Int32.toNatClampNeg (v1 + 5)) trivial)) rd_eq)) rfl
                  have fl2032 : (((uI I2010 102 (Int32.toNatClampNeg (v1 + 6)) x2009) 102 (Int32.toNatClampNeg (v1 + 5))) : Int32).toInt = x1.toInt := e2031
                  have e2033 : (((uI I2010 102 (Int32.toNatClampNeg (v1 + 6)) x2009) 97 12) : Int32).toInt = (I2010 97 12).toInt := Eq.trans (congrArg Int32.toInt (rd_ne (by first | decide | omega))) rfl
                  have fl2034 : (((uI I2010 102 (Int32.toNatClampNeg (v1 + 6)) x2009) 97 12) : Int32).toInt = (I2010 97 12).toInt := e2033
                  exact hQ _ _ _ _ hB2027 ⟨(Eq.trans (Eq.trans (Eq.trans (Eq.trans (Eq.trans (Eq.trans (Eq.trans (Eq.trans (Eq.trans (Eq.trans (Eq.trans (rd_ne (by first | decide | omega)) (Hid.o hh2015).1) (Hid.o hh1998).1) (Hid.o hh1983).2.1) (Hid.o hh1923).2.1) (Hid.o hh1863).2.1) (rd_ne (by first | decide | omega))) (rd_ne (by first | decide | omega))) (Hid.o hh1592).1) (rd_ne (by first | decide | omega))) (Hid.o hh1056).1) (Hid.o hh7).2.1), f2028, (PMp.o (PMp.tr (PMp.tr (PMp.tr (PMp.tr (PMp.tr (PMp.o (PMp.o (PMp.tr (PMp.o (PMp.tr (PMp.tr (PMp.refl I) m10) m1059) (show ¬ (97 : Nat) = 102 by decide)) m1595) (show ¬ (97 : Nat) = 102 by decide)) (show ¬ (97 : Nat) = 102 by decide)) m1866) m1926) m1986) m2001) m2018) (show ¬ (97 : Nat) = 102 by decide)), (fun hz => by have op0 := Or.resolve_left (Hid.o hh1592).2.2.2.2 (fun z => by have b := PMp.bad (PMp.o (PMp.tr (PMp.tr (PMp.tr (PMp.tr (PMp.tr (PMp.o (PMp.o (PMp.refl I1587) (show ¬ (97 : Nat) = 102 by decide)) (show ¬ (97 : Nat) = 102 by decide)) m1866) m1926) m1986) m2001) m2018) (show ¬ (97 : Nat) = 102 by decide)) hz; omega); have op1 := Or.resolve_left (Hid.o hh2015).2.2.2.2 (fun z => by have b := PMp.bad (PMp.o (PMp.refl I2010) (show ¬ (97 : Nat) = 102 by decide)) hz; omega); omega)⟩
                · skip
                  have d2035 : ¬ ((x1976.toInt) : Int) = (0) := ci_ne rfl rfl c1990
                  refine sp_X12_must hB1979 hR0 (fun x2036 y2041 I2037 J2038 hB2039 p2040 => ?_)
                  have hh2042 := Hid.i p2040
                  clear p2040
                  have f2043 : Fr pT I1977 I2037 := (Hid.o hh2042).2.1
                  have f2044 : Fr (pW v1.toInt) I I2037 := Fr.tr f1985 f2043 (fun _ _ => trivial)
                  have m2045 : PMp I1977 I2037 := (PMp.mk (Hid.o hh2042).2.2.1 (Hid.o hh2042).2.2.2.1)
                  have q2046 : (1 : Int32).toInt = 1 := rfl
                  have e2047 : ((I1977 97 12) : Int32).toInt = (I1587 97 12).toInt := Eq.trans (congrArg Int32.toInt (Eq.trans (Eq.trans (Eq.trans (Eq.trans (Hid.o hh1983).1 (Hid.o hh1923).1) (Hid.o hh1863).1) (rd_ne (by first | decide | omega))) (rd_ne (by first | decide | omega)))) rfl
                  have e2048 : ((I1977 97 14) : Int32).toInt = (I1587 97 14).toInt := Eq.trans (congrArg Int32.toInt (Eq.trans (Eq.trans (Eq.trans (Eq.trans (Hid.o hh1983).2.2.1 (Hid.o hh1923).2.2.1) (Hid.o hh1863).2.2.1) (rd_ne (by first | decide | omega))) (rd_ne (by first | decide | omega)))) rfl
                  have e2049 : ((I1977 97 16) : Int32).toInt = (I1587 97 16).toInt := Eq.trans (congrArg Int32.toInt (Eq.trans (Eq.trans (Eq.trans (Eq.trans (Hid.o hh1983).2.2.2.1 (Hid.o hh1923).2.2.2.1) (Hid.o hh1863).2.2.2.1) (rd_ne (by first | decide | omega))) (rd_ne (by first | decide | omega)))) rfl
                  have b2050 := Bd.o hB2039 (show isO 112 97 12 = true from rfl) (show bnd 12 12 = some _ from rfl)
                  have b2051 := Bd.o hB2039 (show isO 112 97 12 = true from rfl) (show bnd 12 14 = some _ from rfl)
                  have b2052 := Bd.o hB2039 (show isO 112 97 12 = true from rfl) (show bnd 12 16 = some _ from rfl)
                  refine sp_X12_count hB2039 hR0 (fun x2053 y2058 I2054 J2055 hB2056 p2057 => ?_)
                  have hh2059 := Hid.i p2057
                  clear p2057
                  have f2060 : Fr pT I2037 I2054 := (Hid.o hh2059).2.1
                  have f2061 : Fr (pW v1.toInt) I I2054 := Fr.tr f2044 f2060 (fun _ _ => trivial)
                  have m2062 : PMp I2037 I2054 := (PMp.mk (Hid.o hh2059).2.2.1 (Hid.o hh2059).2.2.2.1)
                  have wr2063 := Or.imp (fun z => z.2) (fun z => And.intro z.1 z.2.1) (Hid.o hh2059).2.2.2.2
                  have q2064 : (0 : Int32).toInt = 0 := rfl
                  have q2065 : (99 : Int32).toInt = 99 := rfl
                  have b2066 := Bd.o hB2056 (show isO 112 97 12 = true from rfl) (show bnd 12 12 = some _ from rfl)
                  have b2067 := Bd.o hB2056 (show isO 112 97 12 = true from rfl) (show bnd 12 14 = some _ from rfl)
                  have b2068 := Bd.o hB2056 (show isO 112 97 12 = true from rfl) (show bnd 12 16 = some _ from rfl)
                  have i2069 := i32 x2053
                  have e2070 : ((v1 + 6) : Int32).toInt = (v1.toInt) + (6) := ti_add rfl rfl (by omega)
                  refine ⟨vp_of (a := (v1.toInt + 6)) e2070 (by omega) (by omega), ?_⟩
                  have hB2071 : Bd (uI I2054 102 (Int32.toNatClampNeg (v1 + 6)) x2053) := Bd.cnew hB2056 (show ((v1 + 6) : Int32).toInt = (v1.toInt + 6) from e2070) (show (x2053 : Int32).toInt = x2053.toInt from rfl) (by omega) (by omega) (by omega) 
                  have f2072 : Fr (pW v1.toInt) I (uI I2054 102 (Int32.toNatClampNeg (v1 + 6)) x2053) := Fr.w f2061 (show ((v1 + 6) : Int32).toInt = (v1.toInt + 6) from e2070) (by omega) (fun j hj hp => by unfold pW at hp; omega)
                  have e2073 : (((uI I2054 102 (Int32.toNatClampNeg (v1 + 6)) x2053) 102 (Int32.toNatClampNeg (v1 + 1))) : Int32).toInt = x1586.toInt := Eq.trans (congrArg Int32.toInt (Eq.trans (Eq.trans (Eq.trans (Eq.trans (Eq.trans (Eq.trans (Eq.trans (rd_k (fun z => by have z1 := tn_of (show ((v1 + 1) : Int32).toInt = (v1.toInt + 1) from e1606) (by omega); have z2 := tn_of (show ((v1 + 6) : Int32).toInt = (v1.toInt + 6) from e2070) (by omega); omega)) (f2060.1 (Int32.toNatClampNeg (v1 + 1)) trivial)) (f2043.1 (Int32.toNatClampNeg (v1 + 1)) trivial)) (f1984.1 (Int32.toNatClampNeg (v1 + 1)) trivial)) (f1924.1 (Int32.toNatClampNeg (v1 + 1)) trivial)) (f1864.1 (Int32.toNatClampNeg (v1 + 1)) trivial)) (rd_k (fun z => by have z1 := tn_of (show ((v1 + 1) : Int32).toInt = (v1.toInt + 1) from e1606) (by omega); have z2 := tn_of (show ((v1 + 7) : Int32).toInt = (v1.toInt + 7) from e1852) (by omega); omega))) rd_eq)) rfl
                  have fl2074 : (((uI I2054 102 (Int32.toNatClampNeg (v1 + 6)) x2053) 102 (Int32.toNatClampNeg (v1 + 1))) : Int32).toInt = x1586.toInt := e2073
                  have e2075 : (((uI I2054 102 (Int32.toNatClampNeg (v1 + 6)) x2053) 102 (Int32.toNatClampNeg (v1 + 5))) : Int32).toInt = x1.toInt := Eq.trans (congrArg Int32.toInt (Eq.trans (Eq.trans (Eq.trans (Eq.trans (Eq.trans (Eq.trans (Eq.trans (Eq.trans (Eq.trans (rd_k (fun z => by have z1 := tn_of (show ((v1 + 5) : Int32).toInt = (v1.toInt + 5) from e1070) (by omega); have z2 := tn_of (show ((v1 + 6) : Int32).toInt = (v1.toInt + 6) from e2070) (by omega); omega)) (f2060.1 (Int32.toNatClampNeg (v1 + 5)) trivial)) (f2043.1 (Int32.toNatClampNeg (v1 + 5)) trivial)) (f1984.1 (Int32.toNatClampNeg (v1 + 5)) trivial)) (f1924.1 (Int32.toNatClampNeg (v1 + 5)) trivial)) (f1864.1 (Int32.toNatClampNeg (v1 + 5)) trivial)) (rd_k (fun z => by have z1 := tn_of (show ((v1 + 5) : Int32).toInt = (v1.toInt + 5) from e1070) (by omega); have z2 := tn_of (show ((v1 + 7) : Int32).toInt = (v1.toInt + 7) from e1852) (by omega); omega))) (rd_k (fun z => by have z1 := tn_of (show ((v1 + 5) : Int32).toInt = (v1.toInt + 5) from e1070) (by omega); have z2 := tn_of (show ((v1 + 1) : Int32).toInt = (v1.toInt + 1) from e1606) (by omega); omega))) (f1593.1 (Int32.toNatClampNeg (v1 + 5)) trivial)) rd_eq)) rfl
                  have fl2076 : (((uI I2054 102 (Int32.toNatClampNeg (v1 + 6)) x2053) 102 (Int32.toNatClampNeg (v1 + 5))) : Int32).toInt = x1.toInt := e2075
                  have e2077 : (((uI I2054 102 (Int32.toNatClampNeg (v1 + 6)) x2053) 97 12) : Int32).toInt = (I2054 97 12).toInt := Eq.trans (congrArg Int32.toInt (rd_ne (by first | decide | omega))) rfl
                  have fl2078 : (((uI I2054 102 (Int32.toNatClampNeg (v1 + 6)) x2053) 97 12) : Int32).toInt = (I2054 97 12).toInt := e2077
                  exact hQ _ _ _ _ hB2071 ⟨(Eq.trans (Eq.trans (Eq.trans (Eq.trans (Eq.trans (Eq.trans (Eq.trans (Eq.trans (Eq.trans (Eq.trans (Eq.trans (rd_ne (by first | decide | omega)) (Hid.o hh2059).1) (Hid.o hh2042).1) (Hid.o hh1983).2.1) (Hid.o hh1923).2.1) (Hid.o hh1863).2.1) (rd_ne (by first | decide | omega))) (rd_ne (by first | decide | omega))) (Hid.o hh1592).1) (rd_ne (by first | decide | omega))) (Hid.o hh1056).1) (Hid.o hh7).2.1), f2072, (PMp.o (PMp.tr (PMp.tr (PMp.tr (PMp.tr (PMp.tr (PMp.o (PMp.o (PMp.tr (PMp.o (PMp.tr (PMp.tr (PMp.refl I) m10) m1059) (show ¬ (97 : Nat) = 102 by decide)) m1595) (show ¬ (97 : Nat) = 102 by decide)) (show ¬ (97 : Nat) = 102 by decide)) m1866) m1926) m1986) m2045) m2062) (show ¬ (97 : Nat) = 102 by decide)), (fun hz => by have op0 := Or.resolve_left (Hid.o hh1592).2.2.2.2 (fun z => by have b := PMp.bad (PMp.o (PMp.tr (PMp.tr (PMp.tr (PMp.tr (PMp.tr (PMp.o (PMp.o (PMp.refl I1587) (show ¬ (97 : Nat) = 102 by decide)) (show ¬ (97 : Nat) = 102 by decide)) m1866) m1926) m1986) m2045) m2062) (show ¬ (97 : Nat) = 102 by decide)) hz; omega); have op1 := Or.resolve_left (Hid.o hh2059).2.2.2.2 (fun z => by have b := PMp.bad (PMp.o (PMp.refl I2054) (show ¬ (97 : Nat) = 102 by decide)) hz; omega); omega)⟩
        · skip
          have d2079 : ((x1.toInt) : Int) = (0) := ci_eq rfl rfl c1619
          have e2080 : (((uI I1587 102 (Int32.toNatClampNeg (v1 + 1)) x1586) 102 (Int32.toNatClampNeg (v1 + 1))) : Int32).toInt = x1586.toInt := Eq.trans (congrArg Int32.toInt rd_eq) rfl
          have fl2081 : (((uI I1587 102 (Int32.toNatClampNeg (v1 + 1)) x1586) 102 (Int32.toNatClampNeg (v1 + 1))) : Int32).toInt = x1586.toInt := e2080
          have e2082 : (((uI I1587 102 (Int32.toNatClampNeg (v1 + 1)) x1586) 102 (Int32.toNatClampNeg (v1 + 5))) : Int32).toInt = x1.toInt := Eq.trans (congrArg Int32.toInt (Eq.trans (Eq.trans (rd_k (fun z => by have z1 := tn_of (show ((v1 + 5) : Int32).toInt = (v1.toInt + 5) from e1070) (by omega); have z2 := tn_of (show ((v1 + 1) : Int32).toInt = (v1.toInt + 1) from e1606) (by omega); omega)) (f1593.1 (Int32.toNatClampNeg (v1 + 5)) trivial)) rd_eq)) rfl
          have fl2083 : (((uI I1587 102 (Int32.toNatClampNeg (v1 + 1)) x1586) 102 (Int32.toNatClampNeg (v1 + 5))) : Int32).toInt = x1.toInt := e2082
          have fl2084 : (((uI I1587 102 (Int32.toNatClampNeg (v1 + 1)) x1586) 97 12) : Int32).toInt = (I1587 97 12).toInt := e1617
          exact hQ _ _ _ _ hB1607 ⟨(Eq.trans (Eq.trans (Eq.trans (Eq.trans (rd_ne (by first | decide | omega)) (Hid.o hh1592).1) (rd_ne (by first | decide | omega))) (Hid.o hh1056).1) (Hid.o hh7).2.1), f1608, (PMp.o (PMp.tr (PMp.o (PMp.tr (PMp.tr (PMp.refl I) m10) m1059) (show ¬ (97 : Nat) = 102 by decide)) m1595) (show ¬ (97 : Nat) = 102 by decide)), (fun hz => by have op0 := Or.resolve_left (Hid.o hh1592).2.2.2.2 (fun z => by have b := PMp.bad (PMp.o (PMp.refl I1587) (show ¬ (97 : Nat) = 102 by decide)) hz; omega); omega)⟩
set_option maxHeartbeats 2000000 in
theorem sp_X12_readRest {d : Nat} {Q : Qt} {v1 : Int32} {I : Im} {J : Jm} {R : Rm} (hB0 : Bd I) (hR0 : RI R) (hv1 : 1350 ≤ v1.toInt ∧ v1.toInt ≤ 1611 ∧ (v1.toInt - 1350) % 9 = 0) (hQ : ∀ (x : Int32) (y : Int64) (I2 : Im) (J2 : Jm), Bd I2 → (I2 97 27 = I 97 27 ∧ Fr (pW v1.toInt) I I2 ∧ PMp I I2 ∧ (((I2 97 12).toInt = 0 → RF (I2 102) v1 (I 102 0).toInt))) → Q x y I2 J2 R) : AM (d + 7) 235 112 [.ref 97, .int v1] I J R Q := by
  have i_v1 := i32 v1
  refine am_X12_readRest (fun P hc => ?_)
  have L : ∀ n : Nat, (∀ (v3 : Int32) (M : Im) (JM : Jm), Bd M → (M 97 27 = I 97 27) → Fr (pW v1.toInt) I M → PMp I M → ((1 : Int) = 0) → 1 < (n : Int) → P 13 112 [(0, .ref 97), (1, .int v1), (3, .int v3)] [] M JM R) ∧ (∀ (M : Im) (JM : Jm), Bd M → (M 97 27 = I 97 27) → Fr (pW v1.toInt) I M → PMp I M → (((M 102 v1.toNatClampNeg).toInt = 2 ∨ (M 102 v1.toNatClampNeg).toInt = 3)) → 1 < (n : Int) → P 90 112 [(0, .ref 97), (1, .int v1)] [] M JM R) := by
    intro n
    induction n with
    | zero =>
      exact ⟨fun v3 M J _ _ _ _ hi hm => absurd hm (by omega), fun  M J _ _ _ _ hi hm => absurd hm (by omega)⟩
    | succ n ih =>
      refine ⟨?_, ?_⟩
      · skip
        intro v3 M JM hB hk_97_27 hf hpm hi hm
        have i_v1 := i32 v1
        have i_v3 := i32 v3
        refine sg_X12_readRest_13 hc _ _ _ _ _ ?_
        refine ⟨fun c1 => ?_, fun c1 => ?_⟩
        · skip
          have d2 : ((4) : Int) ≤ (v3.toInt) := ci_le rfl rfl c1
          have e3 : ((M 102 (Int32.toNatClampNeg v1)) : Int32).toInt = (I 102 (Int32.toNatClampNeg v1)).toInt := Eq.trans (congrArg Int32.toInt (hf.1 _ (Or.inl (by have z := tn_of (x := v1) rfl (by omega); omega)))) rfl
          have fl4 : ((M 102 (Int32.toNatClampNeg v1)) : Int32).toInt = (I 102 (Int32.toNatClampNeg v1)).toInt := e3
          have fl5 : ((M 102 (Int32.toNatClampNeg v1)) : Int32).toInt = (I 102 (Int32.toNatClampNeg v1)).toInt := e3
          have e6 : ((v1 + 1) : Int32).toInt = (v1.toInt) + (1) := ti_add rfl rfl (by omega)
          have fl7 : ((M 102 (Int32.toNatClampNeg (v1 + 1))) : Int32).toInt = (M 102 (Int32.toNatClampNeg (v1 + 1))).toInt := rfl
          have e8 : ((v1 + 2) : Int32).toInt = (v1.toInt) + (2) := ti_add rfl rfl (by omega)
          have fl9 : ((M 102 (Int32.toNatClampNeg (v1 + 2))) : Int32).toInt = (M 102 (Int32.toNatClampNeg (v1 + 2))).toInt := rfl
          have e10 : ((v1 + 3) : Int32).toInt = (v1.toInt) + (3) := ti_add rfl rfl (by omega)
          have fl11 : ((M 102 (Int32.toNatClampNeg (v1 + 3))) : Int32).toInt = (M 102 (Int32.toNatClampNeg (v1 + 3))).toInt := rfl
          have e12 : ((v1 + 5) : Int32).toInt = (v1.toInt) + (5) := ti_add rfl rfl (by omega)
          have fl13 : ((M 102 (Int32.toNatClampNeg (v1 + 5))) : Int32).toInt = (M 102 (Int32.toNatClampNeg (v1 + 5))).toInt := rfl
          have b14 := Bd.o hB (show isO 112 97 12 = true from rfl) (show bnd 12 12 = some _ from rfl)
          have fl15 : ((M 97 12) : Int32).toInt = (M 97 12).toInt := rfl
          exact hQ _ _ _ _ hB ⟨hk_97_27, hf, hpm, (fun hz => by unfold RF; omega)⟩
        · skip
          have d16 : ((v3.toInt) : Int) < (4) := ci_nle rfl rfl c1
          refine sp_X12_count hB hR0 (fun x17 y22 I18 J19 hB20 p21 => ?_)
          have hh23 := Hid.i p21
          clear p21
          have f24 : Fr pT M I18 := (Hid.o hh23).2.1
          have f25 : Fr (pW v1.toInt) I I18 := Fr.tr hf f24 (fun _ _ => trivial)
          have m26 : PMp M I18 := (PMp.mk (Hid.o hh23).2.2.1 (Hid.o hh23).2.2.2.1)
          have wr27 := Or.imp (fun z => z.2) (fun z => And.intro z.1 z.2.1) (Hid.o hh23).2.2.2.2
          have q28 : (1 : Int32).toInt = 1 := rfl
          have q29 : (30 : Int32).toInt = 30 := rfl
          have b30 := Bd.o hB (show isO 112 97 12 = true from rfl) (show bnd 12 12 = some _ from rfl)
          have b31 := Bd.o hB (show isO 112 97 12 = true from rfl) (show bnd 12 14 = some _ from rfl)
          have b32 := Bd.o hB (show isO 112 97 12 = true from rfl) (show bnd 12 16 = some _ from rfl)
          have b33 := Bd.o hB20 (show isO 112 97 12 = true from rfl) (show bnd 12 12 = some _ from rfl)
          have b34 := Bd.o hB20 (show isO 112 97 12 = true from rfl) (show bnd 12 14 = some _ from rfl)
          have b35 := Bd.o hB20 (show isO 112 97 12 = true from rfl) (show bnd 12 16 = some _ from rfl)
          have i36 := i32 x17
          refine ⟨vp_of (a := ((v1 + v3) : Int32).toInt) rfl (by omega) (by omega), ?_⟩
          have hB37 : Bd (uI I18 102 (Int32.toNatClampNeg (v1 + v3)) x17) := Bd.cnew hB20 (show ((v1 + v3) : Int32).toInt = ((v1 + v3) : Int32).toInt from rfl) (show (x17 : Int32).toInt = x17.toInt from rfl) (by omega) (by omega) (by omega) 
          have f38 : Fr (pW v1.toInt) I (uI I18 102 (Int32.toNatClampNeg (v1 + v3)) x17) := Fr.w f25 (show ((v1 + v3) : Int32).toInt = ((v1 + v3) : Int32).toInt from rfl) (by omega) (fun j hj hp => by unfold pW at hp; omega)
          have cb39 : ((uI I18 102 (Int32.toNatClampNeg (v1 + v3)) x17) 97 12).toInt = 0 → (M 97 12).toInt = 0 := ((PMp.o (PMp.tr (PMp.refl M) m26) (show ¬ (97 : Nat) = 102 by decide))).2
          exact ih.1 _ _ _ hB37 (Eq.trans (Eq.trans (rd_ne (by first | decide | omega)) (Hid.o hh23).1) hk_97_27) f38 (PMp.o (PMp.tr hpm m26) (show ¬ (97 : Nat) = 102 by decide)) (by omega) (by omega)
      · skip
        intro  M JM hB hk_97_27 hf hpm hi hm
        have i_v1 := i32 v1
        refine sg_X12_readRest_90 hc _ _ _ _ ?_
        refine sp_X12_readTold hB hR0 (by have z : (0 : Int32).toInt = 0 := rfl; omega) (fun x40 y45 I41 J42 hB43 p44 => ?_)
        have hh46 := Hid.i p44
        clear p44
        have f47 : Fr pT M I41 := (Hid.o hh46).2.1
        have f48 : Fr (pW v1.toInt) I I41 := Fr.tr hf f47 (fun _ _ => trivial)
        have m49 : PMp M I41 := (PMp.mk (Hid.o hh46).2.2.1.1 (Hid.o hh46).2.2.1.2.1)
        have wr50 := (Hid.o hh46).2.2.1.2.2
        have q51 : (0 : Int32).toInt = 0 := rfl
        have b52 := (Bd.c hB0 (j := 0) (z := 0) rfl).1 (by decide)
        have e53 : ((M 102 0) : Int32).toInt = (I 102 0).toInt := Eq.trans (congrArg Int32.toInt (hf.1 0 (by unfold pW; omega))) rfl
        have b54 := Bd.o hB (show isO 112 97 12 = true from rfl) (show bnd 12 12 = some _ from rfl)
        have b55 := Bd.o hB (show isO 112 97 12 = true from rfl) (show bnd 12 14 = some _ from rfl)
        have b56 := Bd.o hB (show isO 112 97 12 = true from rfl) (show bnd 12 16 = some _ from rfl)
        have b57 := Bd.o hB43 (show isO 112 97 12 = true from rfl) (show bnd 12 12 = some _ from rfl)
        have b58 := Bd.o hB43 (show isO 112 97 12 = true from rfl) (show bnd 12 14 = some _ from rfl)
        have b59 := Bd.o hB43 (show isO 112 97 12 = true from rfl) (show bnd 12 16 = some _ from rfl)
        have i60 := i32 x40
        have e61 : ((v1 + 1) : Int32).toInt = (v1.toInt) + (1) := ti_add rfl rfl (by omega)
        refine ⟨vp_of (a := (v1.toInt + 1)) e61 (by omega) (by omega), ?_⟩
        have hB62 : Bd (uI I41 102 (Int32.toNatClampNeg (v1 + 1)) x40) := Bd.cnew hB43 (show ((v1 + 1) : Int32).toInt = (v1.toInt + 1) from e61) (show (x40 : Int32).toInt = x40.toInt from rfl) (by omega) (by omega) (by omega) 
        have f63 : Fr (pW v1.toInt) I (uI I41 102 (Int32.toNatClampNeg (v1 + 1)) x40) := Fr.w f48 (show ((v1 + 1) : Int32).toInt = (v1.toInt + 1) from e61) (by omega) (fun j hj hp => by unfold pW at hp; omega)
        refine sp_X12_count hB62 hR0 (fun x64 y69 I65 J66 hB67 p68 => ?_)
        have hh70 := Hid.i p68
        clear p68
        have f71 : Fr pT (uI I41 102 (Int32.toNatClampNeg (v1 + 1)) x40) I65 := (Hid.o hh70).2.1
        have f72 : Fr (pW v1.toInt) I I65 := Fr.tr f63 f71 (fun _ _ => trivial)
        have m73 : PMp (uI I41 102 (Int32.toNatClampNeg (v1 + 1)) x40) I65 := (PMp.mk (Hid.o hh70).2.2.1 (Hid.o hh70).2.2.2.1)
        have wr74 := Or.imp (fun z => z.2) (fun z => And.intro z.1 z.2.1) (Hid.o hh70).2.2.2.2
        have q75 : (1 : Int32).toInt = 1 := rfl
        have q76 : (30 : Int32).toInt = 30 := rfl
        have e77 : (((uI I41 102 (Int32.toNatClampNeg (v1 + 1)) x40) 97 12) : Int32).toInt = (I41 97 12).toInt := Eq.trans (congrArg Int32.toInt (rd_ne (by first | decide | omega))) rfl
        have e78 : (((uI I41 102 (Int32.toNatClampNeg (v1 + 1)) x40) 97 14) : Int32).toInt = (I41 97 14).toInt := Eq.trans (congrArg Int32.toInt (rd_ne (by first | decide | omega))) rfl
        have e79 : (((uI I41 102 (Int32.toNatClampNeg (v1 + 1)) x40) 97 16) : Int32).toInt = (I41 97 16).toInt := Eq.trans (congrArg Int32.toInt (rd_ne (by first | decide | omega))) rfl
        have b80 := Bd.o hB67 (show isO 112 97 12 = true from rfl) (show bnd 12 12 = some _ from rfl)
        have b81 := Bd.o hB67 (show isO 112 97 12 = true from rfl) (show bnd 12 14 = some _ from rfl)
        have b82 := Bd.o hB67 (show isO 112 97 12 = true from rfl) (show bnd 12 16 = some _ from rfl)
        have i83 := i32 x64
        have e84 : ((v1 + 2) : Int32).toInt = (v1.toInt) + (2) := ti_add rfl rfl (by omega)
        refine ⟨vp_of (a := (v1.toInt + 2)) e84 (by omega) (by omega), ?_⟩
        have hB85 : Bd (uI I65 102 (Int32.toNatClampNeg (v1 + 2)) x64) := Bd.cnew hB67 (show ((v1 + 2) : Int32).toInt = (v1.toInt + 2) from e84) (show (x64 : Int32).toInt = x64.toInt from rfl) (by omega) (by omega) (by omega) 
        have f86 : Fr (pW v1.toInt) I (uI I65 102 (Int32.toNatClampNeg (v1 + 2)) x64) := Fr.w f72 (show ((v1 + 2) : Int32).toInt = (v1.toInt + 2) from e84) (by omega) (fun j hj hp => by unfold pW at hp; omega)
        have td87 : ((M 102 0)).toInt = (I 102 0).toInt := e53
        have e88 : ((M 102 (Int32.toNatClampNeg v1)) : Int32).toInt = (I 102 (Int32.toNatClampNeg v1)).toInt := Eq.trans (congrArg Int32.toInt (hf.1 _ (Or.inl (by have z := tn_of (x := v1) rfl (by omega); omega)))) rfl
        have fl89 : ((M 102 (Int32.toNatClampNeg v1)) : Int32).toInt = (I 102 (Int32.toNatClampNeg v1)).toInt := e88
        have e90 : (((uI I65 102 (Int32.toNatClampNeg (v1 + 2)) x64) 102 (Int32.toNatClampNeg v1)) : Int32).toInt = (I 102 (Int32.toNatClampNeg v1)).toInt := Eq.trans (congrArg Int32.toInt (Eq.trans (Eq.trans (Eq.trans (Eq.trans (rd_k (fun z => by have z1 := tn_of (show (v1 : Int32).toInt = v1.toInt from rfl) (by omega); have z2 := tn_of (show ((v1 + 2) : Int32).toInt = (v1.toInt + 2) from e84) (by omega); omega)) (f71.1 (Int32.toNatClampNeg v1) trivial)) (rd_k (fun z => by have z1 := tn_of (show (v1 : Int32).toInt = v1.toInt from rfl) (by omega); have z2 := tn_of (show ((v1 + 1) : Int32).toInt = (v1.toInt + 1) from e61) (by omega); omega))) (f47.1 (Int32.toNatClampNeg v1) trivial)) (hf.1 _ (Or.inl (by have z := tn_of (x := v1) rfl (by omega); omega))))) rfl
        have fl91 : (((uI I65 102 (Int32.toNatClampNeg (v1 + 2)) x64) 102 (Int32.toNatClampNeg v1)) : Int32).toInt = (I 102 (Int32.toNatClampNeg v1)).toInt := e90
        have e92 : (((uI I65 102 (Int32.toNatClampNeg (v1 + 2)) x64) 102 (Int32.toNatClampNeg (v1 + 1))) : Int32).toInt = x40.toInt := Eq.trans (congrArg Int32.toInt (Eq.trans (Eq.trans (rd_k (fun z => by have z1 := tn_of (show ((v1 + 1) : Int32).toInt = (v1.toInt + 1) from e61) (by omega); have z2 := tn_of (show ((v1 + 2) : Int32).toInt = (v1.toInt + 2) from e84) (by omega); omega)) (f71.1 (Int32.toNatClampNeg (v1 + 1)) trivial)) rd_eq)) rfl
        have fl93 : (((uI I65 102 (Int32.toNatClampNeg (v1 + 2)) x64) 102 (Int32.toNatClampNeg (v1 + 1))) : Int32).toInt = x40.toInt := e92
        have e94 : (((uI I65 102 (Int32.toNatClampNeg (v1 + 2)) x64) 102 (Int32.toNatClampNeg (v1 + 2))) : Int32).toInt = x64.toInt := Eq.trans (congrArg Int32.toInt rd_eq) rfl
        have fl95 : (((uI I65 102 (Int32.toNatClampNeg (v1 + 2)) x64) 102 (Int32.toNatClampNeg (v1 + 2))) : Int32).toInt = x64.toInt := e94
        have e96 : ((v1 + 3) : Int32).toInt = (v1.toInt) + (3) := ti_add rfl rfl (by omega)
        have e97 : (((uI I65 102 (Int32.toNatClampNeg (v1 + 2)) x64) 102 (Int32.toNatClampNeg (v1 + 3))) : Int32).toInt = (M 102 (Int32.toNatClampNeg (v1 + 3))).toInt := Eq.trans (congrArg Int32.toInt (Eq.trans (Eq.trans (Eq.trans (rd_k (fun z => by have z1 := tn_of (show ((v1 + 3) : Int32).toInt = (v1.toInt + 3) from e96) (by omega); have z2 := tn_of (show ((v1 + 2) : Int32).toInt = (v1.toInt + 2) from e84) (by omega); omega)) (f71.1 (Int32.toNatClampNeg (v1 + 3)) trivial)) (rd_k (fun z => by have z1 := tn_of (show ((v1 + 3) : Int32).toInt = (v1.toInt + 3) from e96) (by omega); have z2 := tn_of (show ((v1 + 1) : Int32).toInt = (v1.toInt + 1) from e61) (by omega); omega))) (f47.1 (Int32.toNatClampNeg (v1 + 3)) trivial))) rfl
        have fl98 : (((uI I65 102 (Int32.toNatClampNeg (v1 + 2)) x64) 102 (Int32.toNatClampNeg (v1 + 3))) : Int32).toInt = (M 102 (Int32.toNatClampNeg (v1 + 3))).toInt := e97
        have e99 : ((v1 + 5) : Int32).toInt = (v1.toInt) + (5) := ti_add rfl rfl (by omega)
        have e100 : (((uI I65 102 (Int32.toNatClampNeg (v1 + 2)) x64) 102 (Int32.toNatClampNeg (v1 + 5))) : Int32).toInt = (M 102 (Int32.toNatClampNeg (v1 + 5))).toInt := Eq.trans (congrArg Int32.toInt (Eq.trans (Eq.trans (Eq.trans (rd_k (fun z => by have z1 := tn_of (show ((v1 + 5) : Int32).toInt = (v1.toInt + 5) from e99) (by omega); have z2 := tn_of (show ((v1 + 2) : Int32).toInt = (v1.toInt + 2) from e84) (by omega); omega)) (f71.1 (Int32.toNatClampNeg (v1 + 5)) trivial)) (rd_k (fun z => by have z1 := tn_of (show ((v1 + 5) : Int32).toInt = (v1.toInt + 5) from e99) (by omega); have z2 := tn_of (show ((v1 + 1) : Int32).toInt = (v1.toInt + 1) from e61) (by omega); omega))) (f47.1 (Int32.toNatClampNeg (v1 + 5)) trivial))) rfl
        have fl101 : (((uI I65 102 (Int32.toNatClampNeg (v1 + 2)) x64) 102 (Int32.toNatClampNeg (v1 + 5))) : Int32).toInt = (M 102 (Int32.toNatClampNeg (v1 + 5))).toInt := e100
        have e102 : (((uI I65 102 (Int32.toNatClampNeg (v1 + 2)) x64) 97 12) : Int32).toInt = (I65 97 12).toInt := Eq.trans (congrArg Int32.toInt (rd_ne (by first | decide | omega))) rfl
        have fl103 : (((uI I65 102 (Int32.toNatClampNeg (v1 + 2)) x64) 97 12) : Int32).toInt = (I65 97 12).toInt := e102
        exact hQ _ _ _ _ hB85 ⟨(Eq.trans (Eq.trans (Eq.trans (Eq.trans (rd_ne (by first | decide | omega)) (Hid.o hh70).1) (rd_ne (by first | decide | omega))) (Hid.o hh46).1) hk_97_27), f86, (PMp.o (PMp.tr (PMp.o (PMp.tr hpm m49) (show ¬ (97 : Nat) = 102 by decide)) m73) (show ¬ (97 : Nat) = 102 by decide)), (fun hz => by have op0 := (Hid.o hh46).2.2.2 (PMp.bad (PMp.o (PMp.tr (PMp.o (PMp.refl I41) (show ¬ (97 : Nat) = 102 by decide)) m73) (show ¬ (97 : Nat) = 102 by decide)) hz) rfl; have op1 := Or.resolve_left (Hid.o hh70).2.2.2.2 (fun z => by have b := PMp.bad (PMp.o (PMp.refl I65) (show ¬ (97 : Nat) = 102 by decide)) hz; omega); unfold RF; omega)⟩
  refine sg_X12_readRest_0 hc _ _ _ _ ?_
  refine ⟨vp_of (a := v1.toInt) rfl (by omega) (by omega), ?_⟩
  refine ⟨fun c104 => ?_, fun c104 => ?_⟩
  · skip
    have d105 : ¬ (((I 102 (Int32.toNatClampNeg v1)).toInt) : Int) = (0) := ci_ne rfl rfl c104
    refine ⟨fun c106 => ?_, fun c106 => ?_⟩
    · skip
      have d107 : ¬ (((I 102 (Int32.toNatClampNeg v1)).toInt) : Int) = (1) := ci_ne rfl rfl c106
      refine ⟨fun c108 => ?_, fun c108 => ?_⟩
      · skip
        have d109 : (((I 102 (Int32.toNatClampNeg v1)).toInt) : Int) = (2) := ci_eq rfl rfl c108
        have cb110 : (I 97 12).toInt = 0 → (I 97 12).toInt = 0 := ((PMp.refl I)).2
        exact (L 1000000).2 _ _ hB0 rfl (Fr.refl _ _) (PMp.refl I) (by omega) (by omega)
      · skip
        have d111 : ¬ (((I 102 (Int32.toNatClampNeg v1)).toInt) : Int) = (2) := ci_ne rfl rfl c108
        refine ⟨fun c112 => ?_, fun c112 => ?_⟩
        · skip
          have d113 : ¬ (((I 102 (Int32.toNatClampNeg v1)).toInt) : Int) = (3) := ci_ne rfl rfl c112
          refine ⟨fun c114 => ?_, fun c114 => ?_⟩
          · skip
            have d115 : ¬ (((I 102 (Int32.toNatClampNeg v1)).toInt) : Int) = (4) := ci_ne rfl rfl c114
            refine ⟨fun c116 => ?_, fun c116 => ?_⟩
            · skip
              have d117 : ¬ (((I 102 (Int32.toNatClampNeg v1)).toInt) : Int) = (7) := ci_ne rfl rfl c116
              refine ⟨fun c118 => ?_, fun c118 => ?_⟩
              · skip
                have d119 : ¬ (((I 102 (Int32.toNatClampNeg v1)).toInt) : Int) = (6) := ci_ne rfl rfl c118
                have fl120 : ((I 102 (Int32.toNatClampNeg v1)) : Int32).toInt = (I 102 (Int32.toNatClampNeg v1)).toInt := rfl
                have e121 : ((v1 + 1) : Int32).toInt = (v1.toInt) + (1) := ti_add rfl rfl (by omega)
                have fl122 : ((I 102 (Int32.toNatClampNeg (v1 + 1))) : Int32).toInt = (I 102 (Int32.toNatClampNeg (v1 + 1))).toInt := rfl
                have e123 : ((v1 + 2) : Int32).toInt = (v1.toInt) + (2) := ti_add rfl rfl (by omega)
                have fl124 : ((I 102 (Int32.toNatClampNeg (v1 + 2))) : Int32).toInt = (I 102 (Int32.toNatClampNeg (v1 + 2))).toInt := rfl
                have e125 : ((v1 + 3) : Int32).toInt = (v1.toInt) + (3) := ti_add rfl rfl (by omega)
                have fl126 : ((I 102 (Int32.toNatClampNeg (v1 + 3))) : Int32).toInt = (I 102 (Int32.toNatClampNeg (v1 + 3))).toInt := rfl
                have e127 : ((v1 + 5) : Int32).toInt = (v1.toInt) + (5) := ti_add rfl rfl (by omega)
                have fl128 : ((I 102 (Int32.toNatClampNeg (v1 + 5))) : Int32).toInt = (I 102 (Int32.toNatClampNeg (v1 + 5))).toInt := rfl
                have b129 := Bd.o hB0 (show isO 112 97 12 = true from rfl) (show bnd 12 12 = some _ from rfl)
                have fl130 : ((I 97 12) : Int32).toInt = (I 97 12).toInt := rfl
                exact hQ _ _ _ _ hB0 ⟨rfl, (Fr.refl _ _), (PMp.refl I), (fun hz => by unfold RF; omega)⟩
              · skip
                have d131 : (((I 102 (Int32.toNatClampNeg v1)).toInt) : Int) = (6) := ci_eq rfl rfl c118
                refine sp_X12_readTest hB0 hR0 (by have z1 : (v1 : Int32).toInt = v1.toInt := rfl; omega) (fun x132 y137 I133 J134 hB135 p136 => ?_)
                have hh138 := Hid.i p136
                clear p136
                have f139 : Fr (pW v1.toInt) I I133 := (Hid.o hh138).2.1
                have f140 : Fr (pW v1.toInt) I I133 := Fr.tr (Fr.refl _ _) f139 (fun _ z => z)
                have m141 : PMp I I133 := (Hid.o hh138).2.2.1
                have b142 := (Bd.c hB0 (j := 0) (z := 0) rfl).1 (by decide)
                have b143 := Bd.o hB135 (show isO 112 97 12 = true from rfl) (show bnd 12 12 = some _ from rfl)
                have e144 : ((I133 102 (Int32.toNatClampNeg v1)) : Int32).toInt = (I 102 (Int32.toNatClampNeg v1)).toInt := Eq.trans (congrArg Int32.toInt (f139.1 _ (Or.inl (by have z := tn_of (x := v1) rfl (by omega); omega)))) rfl
                have fl145 : ((I133 102 (Int32.toNatClampNeg v1)) : Int32).toInt = (I 102 (Int32.toNatClampNeg v1)).toInt := e144
                have e146 : ((v1 + 1) : Int32).toInt = (v1.toInt) + (1) := ti_add rfl rfl (by omega)
                have fl147 : ((I133 102 (Int32.toNatClampNeg (v1 + 1))) : Int32).toInt = (I133 102 (Int32.toNatClampNeg (v1 + 1))).toInt := rfl
                have e148 : ((v1 + 2) : Int32).toInt = (v1.toInt) + (2) := ti_add rfl rfl (by omega)
                have fl149 : ((I133 102 (Int32.toNatClampNeg (v1 + 2))) : Int32).toInt = (I133 102 (Int32.toNatClampNeg (v1 + 2))).toInt := rfl
                have e150 : ((v1 + 3) : Int32).toInt = (v1.toInt) + (3) := ti_add rfl rfl (by omega)
                have fl151 : ((I133 102 (Int32.toNatClampNeg (v1 + 3))) : Int32).toInt = (I133 102 (Int32.toNatClampNeg (v1 + 3))).toInt := rfl
                have e152 : ((v1 + 5) : Int32).toInt = (v1.toInt) + (5) := ti_add rfl rfl (by omega)
                have fl153 : ((I133 102 (Int32.toNatClampNeg (v1 + 5))) : Int32).toInt = (I133 102 (Int32.toNatClampNeg (v1 + 5))).toInt := rfl
                have fl154 : ((I133 97 12) : Int32).toInt = (I133 97 12).toInt := rfl
                exact hQ _ _ _ _ hB135 ⟨(Hid.o hh138).1, f140, (PMp.tr (PMp.refl I) m141), (fun hz => by have op0 := (Hid.o hh138).2.2.2 (PMp.bad (PMp.refl I133) hz); unfold RF; omega)⟩
            · skip
              have d155 : (((I 102 (Int32.toNatClampNeg v1)).toInt) : Int) = (7) := ci_eq rfl rfl c116
              refine sp_X12_count hB0 hR0 (fun x156 y161 I157 J158 hB159 p160 => ?_)
              have hh162 := Hid.i p160
              clear p160
              have f163 : Fr pT I I157 := (Hid.o hh162).2.1
              have f164 : Fr (pW v1.toInt) I I157 := Fr.tr (Fr.refl _ _) f163 (fun _ _ => trivial)
              have m165 : PMp I I157 := (PMp.mk (Hid.o hh162).2.2.1 (Hid.o hh162).2.2.2.1)
              have wr166 := Or.imp (fun z => z.2) (fun z => And.intro z.1 z.2.1) (Hid.o hh162).2.2.2.2
              have q167 : (1 : Int32).toInt = 1 := rfl
              have q168 : (99 : Int32).toInt = 99 := rfl
              have b169 := Bd.o hB0 (show isO 112 97 12 = true from rfl) (show bnd 12 12 = some _ from rfl)
              have b170 := Bd.o hB0 (show isO 112 97 12 = true from rfl) (show bnd 12 14 = some _ from rfl)
              have b171 := Bd.o hB0 (show isO 112 97 12 = true from rfl) (show bnd 12 16 = some _ from rfl)
              have b172 := Bd.o hB159 (show isO 112 97 12 = true from rfl) (show bnd 12 12 = some _ from rfl)
              have b173 := Bd.o hB159 (show isO 112 97 12 = true from rfl) (show bnd 12 14 = some _ from rfl)
              have b174 := Bd.o hB159 (show isO 112 97 12 = true from rfl) (show bnd 12 16 = some _ from rfl)
              have i175 := i32 x156
              have e176 : ((v1 + 1) : Int32).toInt = (v1.toInt) + (1) := ti_add rfl rfl (by omega)
              refine ⟨vp_of (a := (v1.toInt + 1)) e176 (by omega) (by omega), ?_⟩
              have hB177 : Bd (uI I157 102 (Int32.toNatClampNeg (v1 + 1)) x156) := Bd.cnew hB159 (show ((v1 + 1) : Int32).toInt = (v1.toInt + 1) from e176) (show (x156 : Int32).toInt = x156.toInt from rfl) (by omega) (by omega) (by omega) 
              have f178 : Fr (pW v1.toInt) I (uI I157 102 (Int32.toNatClampNeg (v1 + 1)) x156) := Fr.w f164 (show ((v1 + 1) : Int32).toInt = (v1.toInt + 1) from e176) (by omega) (fun j hj hp => by unfold pW at hp; omega)
              have e179 : (((uI I157 102 (Int32.toNatClampNeg (v1 + 1)) x156) 102 (Int32.toNatClampNeg v1)) : Int32).toInt = (I 102 (Int32.toNatClampNeg v1)).toInt := Eq.trans (congrArg Int32.toInt (Eq.trans (rd_k (fun z => by have z1 := tn_of (show (v1 : Int32).toInt = v1.toInt from rfl) (by omega); have z2 := tn_of (show ((v1 + 1) : Int32).toInt = (v1.toInt + 1) from e176) (by omega); omega)) (f163.1 (Int32.toNatClampNeg v1) trivial))) rfl
              have fl180 : (((uI I157 102 (Int32.toNatClampNeg (v1 + 1)) x156) 102 (Int32.toNatClampNeg v1)) : Int32).toInt = (I 102 (Int32.toNatClampNeg v1)).toInt := e179
              have e181 : (((uI I157 102 (Int32.toNatClampNeg (v1 + 1)) x156) 102 (Int32.toNatClampNeg (v1 + 1))) : Int32).toInt = x156.toInt := Eq.trans (congrArg Int32.toInt rd_eq) rfl
              have fl182 : (((uI I157 102 (Int32.toNatClampNeg (v1 + 1)) x156) 102 (Int32.toNatClampNeg (v1 + 1))) : Int32).toInt = x156.toInt := e181
              have e183 : ((v1 + 2) : Int32).toInt = (v1.toInt) + (2) := ti_add rfl rfl (by omega)
              have e184 : (((uI I157 102 (Int32.toNatClampNeg (v1 + 1)) x156) 102 (Int32.toNatClampNeg (v1 + 2))) : Int32).toInt = (I 102 (Int32.toNatClampNeg (v1 + 2))).toInt := Eq.trans (congrArg Int32.toInt (Eq.trans (rd_k (fun z => by have z1 := tn_of (show ((v1 + 2) : Int32).toInt = (v1.toInt + 2) from e183) (by omega); have z2 := tn_of (show ((v1 + 1) : Int32).toInt = (v1.toInt + 1) from e176) (by omega); omega)) (f163.1 (Int32.toNatClampNeg (v1 + 2)) trivial))) rfl
              have fl185 : (((uI I157 102 (Int32.toNatClampNeg (v1 + 1)) x156) 102 (Int32.toNatClampNeg (v1 + 2))) : Int32).toInt = (I 102 (Int32.toNatClampNeg (v1 + 2))).toInt := e184
              have e186 : ((v1 + 3) : Int32).toInt = (v1.toInt) + (3) := ti_add rfl rfl (by omega)
              have e187 : (((uI I157 102 (Int32.toNatClampNeg (v1 + 1)) x156) 102 (Int32.toNatClampNeg (v1 + 3))) : Int32).toInt = (I 102 (Int32.toNatClampNeg (v1 + 3))).toInt := Eq.trans (congrArg Int32.toInt (Eq.trans (rd_k (fun z => by have z1 := tn_of (show ((v1 + 3) : Int32).toInt = (v1.toInt + 3) from e186) (by omega); have z2 := tn_of (show ((v1 + 1) : Int32).toInt = (v1.toInt + 1) from e176) (by omega); omega)) (f163.1 (Int32.toNatClampNeg (v1 + 3)) trivial))) rfl
              have fl188 : (((uI I157 102 (Int32.toNatClampNeg (v1 + 1)) x156) 102 (Int32.toNatClampNeg (v1 + 3))) : Int32).toInt = (I 102 (Int32.toNatClampNeg (v1 + 3))).toInt := e187
              have e189 : ((v1 + 5) : Int32).toInt = (v1.toInt) + (5) := ti_add rfl rfl (by omega)
              have e190 : (((uI I157 102 (Int32.toNatClampNeg (v1 + 1)) x156) 102 (Int32.toNatClampNeg (v1 + 5))) : Int32).toInt = (I 102 (Int32.toNatClampNeg (v1 + 5))).toInt := Eq.trans (congrArg Int32.toInt (Eq.trans (rd_k (fun z => by have z1 := tn_of (show ((v1 + 5) : Int32).toInt = (v1.toInt + 5) from e189) (by omega); have z2 := tn_of (show ((v1 + 1) : Int32).toInt = (v1.toInt + 1) from e176) (by omega); omega)) (f163.1 (Int32.toNatClampNeg (v1 + 5)) trivial))) rfl
              have fl191 : (((uI I157 102 (Int32.toNatClampNeg (v1 + 1)) x156) 102 (Int32.toNatClampNeg (v1 + 5))) : Int32).toInt = (I 102 (Int32.toNatClampNeg (v1 + 5))).toInt := e190
              have e192 : (((uI I157 102 (Int32.toNatClampNeg (v1 + 1)) x156) 97 12) : Int32).toInt = (I157 97 12).toInt := Eq.trans (congrArg Int32.toInt (rd_ne (by first | decide | omega))) rfl
              have fl193 : (((uI I157 102 (Int32.toNatClampNeg (v1 + 1)) x156) 97 12) : Int32).toInt = (I157 97 12).toInt := e192
              exact hQ _ _ _ _ hB177 ⟨(Eq.trans (rd_ne (by first | decide | omega)) (Hid.o hh162).1), f178, (PMp.o (PMp.tr (PMp.refl I) m165) (show ¬ (97 : Nat) = 102 by decide)), (fun hz => by have op0 := Or.resolve_left (Hid.o hh162).2.2.2.2 (fun z => by have b := PMp.bad (PMp.o (PMp.refl I157) (show ¬ (97 : Nat) = 102 by decide)) hz; omega); unfold RF; omega)⟩
          · skip
            have d194 : (((I 102 (Int32.toNatClampNeg v1)).toInt) : Int) = (4) := ci_eq rfl rfl c114
            refine sp_X12_count hB0 hR0 (fun x195 y200 I196 J197 hB198 p199 => ?_)
            have hh201 := Hid.i p199
            clear p199
            have f202 : Fr pT I I196 := (Hid.o hh201).2.1
            have f203 : Fr (pW v1.toInt) I I196 := Fr.tr (Fr.refl _ _) f202 (fun _ _ => trivial)
            have m204 : PMp I I196 := (PMp.mk (Hid.o hh201).2.2.1 (Hid.o hh201).2.2.2.1)
            have wr205 := Or.imp (fun z => z.2) (fun z => And.intro z.1 z.2.1) (Hid.o hh201).2.2.2.2
            have q206 : (1 : Int32).toInt = 1 := rfl
            have q207 : (9 : Int32).toInt = 9 := rfl
            have b208 := Bd.o hB0 (show isO 112 97 12 = true from rfl) (show bnd 12 12 = some _ from rfl)
            have b209 := Bd.o hB0 (show isO 112 97 12 = true from rfl) (show bnd 12 14 = some _ from rfl)
            have b210 := Bd.o hB0 (show isO 112 97 12 = true from rfl) (show bnd 12 16 = some _ from rfl)
            have b211 := Bd.o hB198 (show isO 112 97 12 = true from rfl) (show bnd 12 12 = some _ from rfl)
            have b212 := Bd.o hB198 (show isO 112 97 12 = true from rfl) (show bnd 12 14 = some _ from rfl)
            have b213 := Bd.o hB198 (show isO 112 97 12 = true from rfl) (show bnd 12 16 = some _ from rfl)
            have i214 := i32 x195
            have e215 : ((v1 + 1) : Int32).toInt = (v1.toInt) + (1) := ti_add rfl rfl (by omega)
            refine ⟨vp_of (a := (v1.toInt + 1)) e215 (by omega) (by omega), ?_⟩
            have hB216 : Bd (uI I196 102 (Int32.toNatClampNeg (v1 + 1)) x195) := Bd.cnew hB198 (show ((v1 + 1) : Int32).toInt = (v1.toInt + 1) from e215) (show (x195 : Int32).toInt = x195.toInt from rfl) (by omega) (by omega) (by omega) 
            have f217 : Fr (pW v1.toInt) I (uI I196 102 (Int32.toNatClampNeg (v1 + 1)) x195) := Fr.w f203 (show ((v1 + 1) : Int32).toInt = (v1.toInt + 1) from e215) (by omega) (fun j hj hp => by unfold pW at hp; omega)
            have e218 : (((uI I196 102 (Int32.toNatClampNeg (v1 + 1)) x195) 102 (Int32.toNatClampNeg v1)) : Int32).toInt = (I 102 (Int32.toNatClampNeg v1)).toInt := Eq.trans (congrArg Int32.toInt (Eq.trans (rd_k (fun z => by have z1 := tn_of (show (v1 : Int32).toInt = v1.toInt from rfl) (by omega); have z2 := tn_of (show ((v1 + 1) : Int32).toInt = (v1.toInt + 1) from e215) (by omega); omega)) (f202.1 (Int32.toNatClampNeg v1) trivial))) rfl
            have fl219 : (((uI I196 102 (Int32.toNatClampNeg (v1 + 1)) x195) 102 (Int32.toNatClampNeg v1)) : Int32).toInt = (I 102 (Int32.toNatClampNeg v1)).toInt := e218
            have e220 : (((uI I196 102 (Int32.toNatClampNeg (v1 + 1)) x195) 102 (Int32.toNatClampNeg (v1 + 1))) : Int32).toInt = x195.toInt := Eq.trans (congrArg Int32.toInt rd_eq) rfl
            have fl221 : (((uI I196 102 (Int32.toNatClampNeg (v1 + 1)) x195) 102 (Int32.toNatClampNeg (v1 + 1))) : Int32).toInt = x195.toInt := e220
            have e222 : ((v1 + 2) : Int32).toInt = (v1.toInt) + (2) := ti_add rfl rfl (by omega)
            have e223 : (((uI I196 102 (Int32.toNatClampNeg (v1 + 1)) x195) 102 (Int32.toNatClampNeg (v1 + 2))) : Int32).toInt = (I 102 (Int32.toNatClampNeg (v1 + 2))).toInt := Eq.trans (congrArg Int32.toInt (Eq.trans (rd_k (fun z => by have z1 := tn_of (show ((v1 + 2) : Int32).toInt = (v1.toInt + 2) from e222) (by omega); have z2 := tn_of (show ((v1 + 1) : Int32).toInt = (v1.toInt + 1) from e215) (by omega); omega)) (f202.1 (Int32.toNatClampNeg (v1 + 2)) trivial))) rfl
            have fl224 : (((uI I196 102 (Int32.toNatClampNeg (v1 + 1)) x195) 102 (Int32.toNatClampNeg (v1 + 2))) : Int32).toInt = (I 102 (Int32.toNatClampNeg (v1 + 2))).toInt := e223
            have e225 : ((v1 + 3) : Int32).toInt = (v1.toInt) + (3) := ti_add rfl rfl (by omega)
            have e226 : (((uI I196 102 (Int32.toNatClampNeg (v1 + 1)) x195) 102 (Int32.toNatClampNeg (v1 + 3))) : Int32).toInt = (I 102 (Int32.toNatClampNeg (v1 + 3))).toInt := Eq.trans (congrArg Int32.toInt (Eq.trans (rd_k (fun z => by have z1 := tn_of (show ((v1 + 3) : Int32).toInt = (v1.toInt + 3) from e225) (by omega); have z2 := tn_of (show ((v1 + 1) : Int32).toInt = (v1.toInt + 1) from e215) (by omega); omega)) (f202.1 (Int32.toNatClampNeg (v1 + 3)) trivial))) rfl
            have fl227 : (((uI I196 102 (Int32.toNatClampNeg (v1 + 1)) x195) 102 (Int32.toNatClampNeg (v1 + 3))) : Int32).toInt = (I 102 (Int32.toNatClampNeg (v1 + 3))).toInt := e226
            have e228 : ((v1 + 5) : Int32).toInt = (v1.toInt) + (5) := ti_add rfl rfl (by omega)
            have e229 : (((uI I196 102 (Int32.toNatClampNeg (v1 + 1)) x195) 102 (Int32.toNatClampNeg (v1 + 5))) : Int32).toInt = (I 102 (Int32.toNatClampNeg (v1 + 5))).toInt := Eq.trans (congrArg Int32.toInt (Eq.trans (rd_k (fun z => by have z1 := tn_of (show ((v1 + 5) : Int32).toInt = (v1.toInt + 5) from e228) (by omega); have z2 := tn_of (show ((v1 + 1) : Int32).toInt = (v1.toInt + 1) from e215) (by omega); omega)) (f202.1 (Int32.toNatClampNeg (v1 + 5)) trivial))) rfl
            have fl230 : (((uI I196 102 (Int32.toNatClampNeg (v1 + 1)) x195) 102 (Int32.toNatClampNeg (v1 + 5))) : Int32).toInt = (I 102 (Int32.toNatClampNeg (v1 + 5))).toInt := e229
            have e231 : (((uI I196 102 (Int32.toNatClampNeg (v1 + 1)) x195) 97 12) : Int32).toInt = (I196 97 12).toInt := Eq.trans (congrArg Int32.toInt (rd_ne (by first | decide | omega))) rfl
            have fl232 : (((uI I196 102 (Int32.toNatClampNeg (v1 + 1)) x195) 97 12) : Int32).toInt = (I196 97 12).toInt := e231
            exact hQ _ _ _ _ hB216 ⟨(Eq.trans (rd_ne (by first | decide | omega)) (Hid.o hh201).1), f217, (PMp.o (PMp.tr (PMp.refl I) m204) (show ¬ (97 : Nat) = 102 by decide)), (fun hz => by have op0 := Or.resolve_left (Hid.o hh201).2.2.2.2 (fun z => by have b := PMp.bad (PMp.o (PMp.refl I196) (show ¬ (97 : Nat) = 102 by decide)) hz; omega); unfold RF; omega)⟩
        · skip
          have d233 : (((I 102 (Int32.toNatClampNeg v1)).toInt) : Int) = (3) := ci_eq rfl rfl c112
          have cb234 : (I 97 12).toInt = 0 → (I 97 12).toInt = 0 := ((PMp.refl I)).2
          exact (L 1000000).2 _ _ hB0 rfl (Fr.refl _ _) (PMp.refl I) (by omega) (by omega)
    · skip
      have d235 : (((I 102 (Int32.toNatClampNeg v1)).toInt) : Int) = (1) := ci_eq rfl rfl c106
      refine sp_X12_count hB0 hR0 (fun x236 y241 I237 J238 hB239 p240 => ?_)
      have hh242 := Hid.i p240
      clear p240
      have f243 : Fr pT I I237 := (Hid.o hh242).2.1
      have f244 : Fr (pW v1.toInt) I I237 := Fr.tr (Fr.refl _ _) f243 (fun _ _ => trivial)
      have m245 : PMp I I237 := (PMp.mk (Hid.o hh242).2.2.1 (Hid.o hh242).2.2.2.1)
      have wr246 := Or.imp (fun z => z.2) (fun z => And.intro z.1 z.2.1) (Hid.o hh242).2.2.2.2
      have q247 : (1 : Int32).toInt = 1 := rfl
      have q248 : (30 : Int32).toInt = 30 := rfl
      have b249 := Bd.o hB0 (show isO 112 97 12 = true from rfl) (show bnd 12 12 = some _ from rfl)
      have b250 := Bd.o hB0 (show isO 112 97 12 = true from rfl) (show bnd 12 14 = some _ from rfl)
      have b251 := Bd.o hB0 (show isO 112 97 12 = true from rfl) (show bnd 12 16 = some _ from rfl)
      have b252 := Bd.o hB239 (show isO 112 97 12 = true from rfl) (show bnd 12 12 = some _ from rfl)
      have b253 := Bd.o hB239 (show isO 112 97 12 = true from rfl) (show bnd 12 14 = some _ from rfl)
      have b254 := Bd.o hB239 (show isO 112 97 12 = true from rfl) (show bnd 12 16 = some _ from rfl)
      have i255 := i32 x236
      have e256 : ((v1 + 1) : Int32).toInt = (v1.toInt) + (1) := ti_add rfl rfl (by omega)
      refine ⟨vp_of (a := (v1.toInt + 1)) e256 (by omega) (by omega), ?_⟩
      have hB257 : Bd (uI I237 102 (Int32.toNatClampNeg (v1 + 1)) x236) := Bd.cnew hB239 (show ((v1 + 1) : Int32).toInt = (v1.toInt + 1) from e256) (show (x236 : Int32).toInt = x236.toInt from rfl) (by omega) (by omega) (by omega) 
      have f258 : Fr (pW v1.toInt) I (uI I237 102 (Int32.toNatClampNeg (v1 + 1)) x236) := Fr.w f244 (show ((v1 + 1) : Int32).toInt = (v1.toInt + 1) from e256) (by omega) (fun j hj hp => by unfold pW at hp; omega)
      refine sp_X12_count hB257 hR0 (fun x259 y264 I260 J261 hB262 p263 => ?_)
      have hh265 := Hid.i p263
      clear p263
      have f266 : Fr pT (uI I237 102 (Int32.toNatClampNeg (v1 + 1)) x236) I260 := (Hid.o hh265).2.1
      have f267 : Fr (pW v1.toInt) I I260 := Fr.tr f258 f266 (fun _ _ => trivial)
      have m268 : PMp (uI I237 102 (Int32.toNatClampNeg (v1 + 1)) x236) I260 := (PMp.mk (Hid.o hh265).2.2.1 (Hid.o hh265).2.2.2.1)
      have wr269 := Or.imp (fun z => z.2) (fun z => And.intro z.1 z.2.1) (Hid.o hh265).2.2.2.2
      have q270 : (2 : Int32).toInt = 2 := rfl
      have q271 : (30 : Int32).toInt = 30 := rfl
      have e272 : (((uI I237 102 (Int32.toNatClampNeg (v1 + 1)) x236) 97 12) : Int32).toInt = (I237 97 12).toInt := Eq.trans (congrArg Int32.toInt (rd_ne (by first | decide | omega))) rfl
      have e273 : (((uI I237 102 (Int32.toNatClampNeg (v1 + 1)) x236) 97 14) : Int32).toInt = (I237 97 14).toInt := Eq.trans (congrArg Int32.toInt (rd_ne (by first | decide | omega))) rfl
      have e274 : (((uI I237 102 (Int32.toNatClampNeg (v1 + 1)) x236) 97 16) : Int32).toInt = (I237 97 16).toInt := Eq.trans (congrArg Int32.toInt (rd_ne (by first | decide | omega))) rfl
      have b275 := Bd.o hB262 (show isO 112 97 12 = true from rfl) (show bnd 12 12 = some _ from rfl)
      have b276 := Bd.o hB262 (show isO 112 97 12 = true from rfl) (show bnd 12 14 = some _ from rfl)
      have b277 := Bd.o hB262 (show isO 112 97 12 = true from rfl) (show bnd 12 16 = some _ from rfl)
      have i278 := i32 x259
      have e279 : ((v1 + 2) : Int32).toInt = (v1.toInt) + (2) := ti_add rfl rfl (by omega)
      refine ⟨vp_of (a := (v1.toInt + 2)) e279 (by omega) (by omega), ?_⟩
      have hB280 : Bd (uI I260 102 (Int32.toNatClampNeg (v1 + 2)) x259) := Bd.cnew hB262 (show ((v1 + 2) : Int32).toInt = (v1.toInt + 2) from e279) (show (x259 : Int32).toInt = x259.toInt from rfl) (by omega) (by omega) (by omega) 
      have f281 : Fr (pW v1.toInt) I (uI I260 102 (Int32.toNatClampNeg (v1 + 2)) x259) := Fr.w f267 (show ((v1 + 2) : Int32).toInt = (v1.toInt + 2) from e279) (by omega) (fun j hj hp => by unfold pW at hp; omega)
      have e282 : (((uI I260 102 (Int32.toNatClampNeg (v1 + 2)) x259) 102 (Int32.toNatClampNeg v1)) : Int32).toInt = (I 102 (Int32.toNatClampNeg v1)).toInt := Eq.trans (congrArg Int32.toInt (Eq.trans (Eq.trans (Eq.trans (rd_k (fun z => by have z1 := tn_of (show (v1 : Int32).toInt = v1.toInt from rfl) (by omega); have z2 := tn_of (show ((v1 + 2) : Int32).toInt = (v1.toInt + 2) from e279) (by omega); omega)) (f266.1 (Int32.toNatClampNeg v1) trivial)) (rd_k (fun z => by have z1 := tn_of (show (v1 : Int32).toInt = v1.toInt from rfl) (by omega); have z2 := tn_of (show ((v1 + 1) : Int32).toInt = (v1.toInt + 1) from e256) (by omega); omega))) (f243.1 (Int32.toNatClampNeg v1) trivial))) rfl
      have fl283 : (((uI I260 102 (Int32.toNatClampNeg (v1 + 2)) x259) 102 (Int32.toNatClampNeg v1)) : Int32).toInt = (I 102 (Int32.toNatClampNeg v1)).toInt := e282
      have e284 : (((uI I260 102 (Int32.toNatClampNeg (v1 + 2)) x259) 102 (Int32.toNatClampNeg (v1 + 1))) : Int32).toInt = x236.toInt := Eq.trans (congrArg Int32.toInt (Eq.trans (Eq.trans (rd_k (fun z => by have z1 := tn_of (show ((v1 + 1) : Int32).toInt = (v1.toInt + 1) from e256) (by omega); have z2 := tn_of (show ((v1 + 2) : Int32).toInt = (v1.toInt + 2) from e279) (by omega); omega)) (f266.1 (Int32.toNatClampNeg (v1 + 1)) trivial)) rd_eq)) rfl
      have fl285 : (((uI I260 102 (Int32.toNatClampNeg (v1 + 2)) x259) 102 (Int32.toNatClampNeg (v1 + 1))) : Int32).toInt = x236.toInt := e284
      have e286 : (((uI I260 102 (Int32.toNatClampNeg (v1 + 2)) x259) 102 (Int32.toNatClampNeg (v1 + 2))) : Int32).toInt = x259.toInt := Eq.trans (congrArg Int32.toInt rd_eq) rfl
      have fl287 : (((uI I260 102 (Int32.toNatClampNeg (v1 + 2)) x259) 102 (Int32.toNatClampNeg (v1 + 2))) : Int32).toInt = x259.toInt := e286
      have e288 : ((v1 + 3) : Int32).toInt = (v1.toInt) + (3) := ti_add rfl rfl (by omega)
      have e289 : (((uI I260 102 (Int32.toNatClampNeg (v1 + 2)) x259) 102 (Int32.toNatClampNeg (v1 + 3))) : Int32).toInt = (I 102 (Int32.toNatClampNeg (v1 + 3))).toInt := Eq.trans (congrArg Int32.toInt (Eq.trans (Eq.trans (Eq.trans (rd_k (fun z => by have z1 := tn_of (show ((v1 + 3) : Int32).toInt = (v1.toInt + 3) from e288) (by omega); have z2 := tn_of (show ((v1 + 2) : Int32).toInt = (v1.toInt + 2) from e279) (by omega); omega)) (f266.1 (Int32.toNatClampNeg (v1 + 3)) trivial)) (rd_k (fun z => by have z1 := tn_of (show ((v1 + 3) : Int32).toInt = (v1.toInt + 3) from e288) (by omega); have z2 := tn_of (show ((v1 + 1) : Int32).toInt = (v1.toInt + 1) from e256) (by omega); omega))) (f243.1 (Int32.toNatClampNeg (v1 + 3)) trivial))) rfl
      have fl290 : (((uI I260 102 (Int32.toNatClampNeg (v1 + 2)) x259) 102 (Int32.toNatClampNeg (v1 + 3))) : Int32).toInt = (I 102 (Int32.toNatClampNeg (v1 + 3))).toInt := e289
      have e291 : ((v1 + 5) : Int32).toInt = (v1.toInt) + (5) := ti_add rfl rfl (by omega)
      have e292 : (((uI I260 102 (Int32.toNatClampNeg (v1 + 2)) x259) 102 (Int32.toNatClampNeg (v1 + 5))) : Int32).toInt = (I 102 (Int32.toNatClampNeg (v1 + 5))).toInt := Eq.trans (congrArg Int32.toInt (Eq.trans (Eq.trans (Eq.trans (rd_k (fun z => by have z1 := tn_of (show ((v1 + 5) : Int32).toInt = (v1.toInt + 5) from e291) (by omega); have z2 := tn_of (show ((v1 + 2) : Int32).toInt = (v1.toInt + 2) from e279) (by omega); omega)) (f266.1 (Int32.toNatClampNeg (v1 + 5)) trivial)) (rd_k (fun z => by have z1 := tn_of (show ((v1 + 5) : Int32).toInt = (v1.toInt + 5) from e291) (by omega); have z2 := tn_of (show ((v1 + 1) : Int32).toInt = (v1.toInt + 1) from e256) (by omega); omega))) (f243.1 (Int32.toNatClampNeg (v1 + 5)) trivial))) rfl
      have fl293 : (((uI I260 102 (Int32.toNatClampNeg (v1 + 2)) x259) 102 (Int32.toNatClampNeg (v1 + 5))) : Int32).toInt = (I 102 (Int32.toNatClampNeg (v1 + 5))).toInt := e292
      have e294 : (((uI I260 102 (Int32.toNatClampNeg (v1 + 2)) x259) 97 12) : Int32).toInt = (I260 97 12).toInt := Eq.trans (congrArg Int32.toInt (rd_ne (by first | decide | omega))) rfl
      have fl295 : (((uI I260 102 (Int32.toNatClampNeg (v1 + 2)) x259) 97 12) : Int32).toInt = (I260 97 12).toInt := e294
      exact hQ _ _ _ _ hB280 ⟨(Eq.trans (Eq.trans (Eq.trans (rd_ne (by first | decide | omega)) (Hid.o hh265).1) (rd_ne (by first | decide | omega))) (Hid.o hh242).1), f281, (PMp.o (PMp.tr (PMp.o (PMp.tr (PMp.refl I) m245) (show ¬ (97 : Nat) = 102 by decide)) m268) (show ¬ (97 : Nat) = 102 by decide)), (fun hz => by have op0 := Or.resolve_left (Hid.o hh242).2.2.2.2 (fun z => by have b := PMp.bad (PMp.o (PMp.tr (PMp.o (PMp.refl I237) (show ¬ (97 : Nat) = 102 by decide)) m268) (show ¬ (97 : Nat) = 102 by decide)) hz; omega); have op1 := Or.resolve_left (Hid.o hh265).2.2.2.2 (fun z => by have b := PMp.bad (PMp.o (PMp.refl I260) (show ¬ (97 : Nat) = 102 by decide)) hz; omega); unfold RF; omega)⟩
  · skip
    have d296 : (((I 102 (Int32.toNatClampNeg v1)).toInt) : Int) = (0) := ci_eq rfl rfl c104
    have cb297 : (I 97 12).toInt = 0 → (I 97 12).toInt = 0 := ((PMp.refl I)).2
    refine sg_X12_readRest_13 hc _ _ _ _ _ ?_
    refine ⟨fun c298 => ?_, fun c298 => ?_⟩
    · exact absurd c298 (by decide)
    · skip
      refine sp_X12_count hB0 hR0 (fun x299 y304 I300 J301 hB302 p303 => ?_)
      have hh305 := Hid.i p303
      clear p303
      have f306 : Fr pT I I300 := (Hid.o hh305).2.1
      have f307 : Fr (pW v1.toInt) I I300 := Fr.tr (Fr.refl _ _) f306 (fun _ _ => trivial)
      have m308 : PMp I I300 := (PMp.mk (Hid.o hh305).2.2.1 (Hid.o hh305).2.2.2.1)
      have wr309 := Or.imp (fun z => z.2) (fun z => And.intro z.1 z.2.1) (Hid.o hh305).2.2.2.2
      have q310 : (1 : Int32).toInt = 1 := rfl
      have q311 : (30 : Int32).toInt = 30 := rfl
      have b312 := Bd.o hB0 (show isO 112 97 12 = true from rfl) (show bnd 12 12 = some _ from rfl)
      have b313 := Bd.o hB0 (show isO 112 97 12 = true from rfl) (show bnd 12 14 = some _ from rfl)
      have b314 := Bd.o hB0 (show isO 112 97 12 = true from rfl) (show bnd 12 16 = some _ from rfl)
      have b315 := Bd.o hB302 (show isO 112 97 12 = true from rfl) (show bnd 12 12 = some _ from rfl)
      have b316 := Bd.o hB302 (show isO 112 97 12 = true from rfl) (show bnd 12 14 = some _ from rfl)
      have b317 := Bd.o hB302 (show isO 112 97 12 = true from rfl) (show bnd 12 16 = some _ from rfl)
      have i318 := i32 x299
      have e319 : ((v1 + 1) : Int32).toInt = (v1.toInt) + (1) := ti_add rfl rfl (by omega)
      refine ⟨vp_of (a := (v1.toInt + 1)) e319 (by omega) (by omega), ?_⟩
      have hB320 : Bd (uI I300 102 (Int32.toNatClampNeg (v1 + 1)) x299) := Bd.cnew hB302 (show ((v1 + 1) : Int32).toInt = (v1.toInt + 1) from e319) (show (x299 : Int32).toInt = x299.toInt from rfl) (by omega) (by omega) (by omega) 
      have f321 : Fr (pW v1.toInt) I (uI I300 102 (Int32.toNatClampNeg (v1 + 1)) x299) := Fr.w f307 (show ((v1 + 1) : Int32).toInt = (v1.toInt + 1) from e319) (by omega) (fun j hj hp => by unfold pW at hp; omega)
      have cb322 : ((uI I300 102 (Int32.toNatClampNeg (v1 + 1)) x299) 97 12).toInt = 0 → (I 97 12).toInt = 0 := ((PMp.o (PMp.tr (PMp.refl I) m308) (show ¬ (97 : Nat) = 102 by decide))).2
      refine sg_X12_readRest_13 hc _ _ _ _ _ ?_
      refine ⟨fun c323 => ?_, fun c323 => ?_⟩
      · exact absurd c323 (by decide)
      · skip
        refine sp_X12_count hB320 hR0 (fun x324 y329 I325 J326 hB327 p328 => ?_)
        have hh330 := Hid.i p328
        clear p328
        have f331 : Fr pT (uI I300 102 (Int32.toNatClampNeg (v1 + 1)) x299) I325 := (Hid.o hh330).2.1
        have f332 : Fr (pW v1.toInt) I I325 := Fr.tr f321 f331 (fun _ _ => trivial)
        have m333 : PMp (uI I300 102 (Int32.toNatClampNeg (v1 + 1)) x299) I325 := (PMp.mk (Hid.o hh330).2.2.1 (Hid.o hh330).2.2.2.1)
        have wr334 := Or.imp (fun z => z.2) (fun z => And.intro z.1 z.2.1) (Hid.o hh330).2.2.2.2
        have q335 : (1 : Int32).toInt = 1 := rfl
        have q336 : (30 : Int32).toInt = 30 := rfl
        have e337 : (((uI I300 102 (Int32.toNatClampNeg (v1 + 1)) x299) 97 12) : Int32).toInt = (I300 97 12).toInt := Eq.trans (congrArg Int32.toInt (rd_ne (by first | decide | omega))) rfl
        have e338 : (((uI I300 102 (Int32.toNatClampNeg (v1 + 1)) x299) 97 14) : Int32).toInt = (I300 97 14).toInt := Eq.trans (congrArg Int32.toInt (rd_ne (by first | decide | omega))) rfl
        have e339 : (((uI I300 102 (Int32.toNatClampNeg (v1 + 1)) x299) 97 16) : Int32).toInt = (I300 97 16).toInt := Eq.trans (congrArg Int32.toInt (rd_ne (by first | decide | omega))) rfl
        have b340 := Bd.o hB327 (show isO 112 97 12 = true from rfl) (show bnd 12 12 = some _ from rfl)
        have b341 := Bd.o hB327 (show isO 112 97 12 = true from rfl) (show bnd 12 14 = some _ from rfl)
        have b342 := Bd.o hB327 (show isO 112 97 12 = true from rfl) (show bnd 12 16 = some _ from rfl)
        have i343 := i32 x324
        have e344 : ((1 + 1) : Int32).toInt = (1) + (1) := ti_add rfl rfl (by omega)
        have e345 : ((v1 + (1 + 1)) : Int32).toInt = (v1.toInt) + ((1 + 1)) := ti_add rfl e344 (by omega)
        refine ⟨vp_of (a := (v1.toInt + (1 + 1))) e345 (by omega) (by omega), ?_⟩
        have hB346 : Bd (uI I325 102 (Int32.toNatClampNeg (v1 + (1 + 1))) x324) := Bd.cnew hB327 (show ((v1 + (1 + 1)) : Int32).toInt = (v1.toInt + (1 + 1)) from e345) (show (x324 : Int32).toInt = x324.toInt from rfl) (by omega) (by omega) (by omega) 
        have f347 : Fr (pW v1.toInt) I (uI I325 102 (Int32.toNatClampNeg (v1 + (1 + 1))) x324) := Fr.w f332 (show ((v1 + (1 + 1)) : Int32).toInt = (v1.toInt + (1 + 1)) from e345) (by omega) (fun j hj hp => by unfold pW at hp; omega)
        have cb348 : ((uI I325 102 (Int32.toNatClampNeg (v1 + (1 + 1))) x324) 97 12).toInt = 0 → (I 97 12).toInt = 0 := ((PMp.o (PMp.tr (PMp.o (PMp.tr (PMp.refl I) m308) (show ¬ (97 : Nat) = 102 by decide)) m333) (show ¬ (97 : Nat) = 102 by decide))).2
        refine sg_X12_readRest_13 hc _ _ _ _ _ ?_
        refine ⟨fun c349 => ?_, fun c349 => ?_⟩
        · exact absurd c349 (by decide)
        · skip
          refine sp_X12_count hB346 hR0 (fun x350 y355 I351 J352 hB353 p354 => ?_)
          have hh356 := Hid.i p354
          clear p354
          have f357 : Fr pT (uI I325 102 (Int32.toNatClampNeg (v1 + (1 + 1))) x324) I351 := (Hid.o hh356).2.1
          have f358 : Fr (pW v1.toInt) I I351 := Fr.tr f347 f357 (fun _ _ => trivial)
          have m359 : PMp (uI I325 102 (Int32.toNatClampNeg (v1 + (1 + 1))) x324) I351 := (PMp.mk (Hid.o hh356).2.2.1 (Hid.o hh356).2.2.2.1)
          have wr360 := Or.imp (fun z => z.2) (fun z => And.intro z.1 z.2.1) (Hid.o hh356).2.2.2.2
          have q361 : (1 : Int32).toInt = 1 := rfl
          have q362 : (30 : Int32).toInt = 30 := rfl
          have e363 : (((uI I325 102 (Int32.toNatClampNeg (v1 + (1 + 1))) x324) 97 12) : Int32).toInt = (I325 97 12).toInt := Eq.trans (congrArg Int32.toInt (rd_ne (by first | decide | omega))) rfl
          have e364 : (((uI I325 102 (Int32.toNatClampNeg (v1 + (1 + 1))) x324) 97 14) : Int32).toInt = (I325 97 14).toInt := Eq.trans (congrArg Int32.toInt (rd_ne (by first | decide | omega))) rfl
          have e365 : (((uI I325 102 (Int32.toNatClampNeg (v1 + (1 + 1))) x324) 97 16) : Int32).toInt = (I325 97 16).toInt := Eq.trans (congrArg Int32.toInt (rd_ne (by first | decide | omega))) rfl
          have b366 := Bd.o hB353 (show isO 112 97 12 = true from rfl) (show bnd 12 12 = some _ from rfl)
          have b367 := Bd.o hB353 (show isO 112 97 12 = true from rfl) (show bnd 12 14 = some _ from rfl)
          have b368 := Bd.o hB353 (show isO 112 97 12 = true from rfl) (show bnd 12 16 = some _ from rfl)
          have i369 := i32 x350
          have e370 : (((1 + 1) + 1) : Int32).toInt = ((1 + 1)) + (1) := ti_add e344 rfl (by omega)
          have e371 : ((v1 + ((1 + 1) + 1)) : Int32).toInt = (v1.toInt) + (((1 + 1) + 1)) := ti_add rfl e370 (by omega)
          refine ⟨vp_of (a := (v1.toInt + ((1 + 1) + 1))) e371 (by omega) (by omega), ?_⟩
          have hB372 : Bd (uI I351 102 (Int32.toNatClampNeg (v1 + ((1 + 1) + 1))) x350) := Bd.cnew hB353 (show ((v1 + ((1 + 1) + 1)) : Int32).toInt = (v1.toInt + ((1 + 1) + 1)) from e371) (show (x350 : Int32).toInt = x350.toInt from rfl) (by omega) (by omega) (by omega) 
          have f373 : Fr (pW v1.toInt) I (uI I351 102 (Int32.toNatClampNeg (v1 + ((1 + 1) + 1))) x350) := Fr.w f358 (show ((v1 + ((1 + 1) + 1)) : Int32).toInt = (v1.toInt + ((1 + 1) + 1)) from e371) (by omega) (fun j hj hp => by unfold pW at hp; omega)
          have cb374 : ((uI I351 102 (Int32.toNatClampNeg (v1 + ((1 + 1) + 1))) x350) 97 12).toInt = 0 → (I 97 12).toInt = 0 := ((PMp.o (PMp.tr (PMp.o (PMp.tr (PMp.o (PMp.tr (PMp.refl I) m308) (show ¬ (97 : Nat) = 102 by decide)) m333) (show ¬ (97 : Nat) = 102 by decide)) m359) (show ¬ (97 : Nat) = 102 by decide))).2
          refine sg_X12_readRest_13 hc _ _ _ _ _ ?_
          refine ⟨fun c375 => ?_, fun c375 => ?_⟩
          · skip
            have e376 : (((uI I351 102 (Int32.toNatClampNeg (v1 + ((1 + 1) + 1))) x350) 102 (Int32.toNatClampNeg v1)) : Int32).toInt = (I 102 (Int32.toNatClampNeg v1)).toInt := Eq.trans (congrArg Int32.toInt (Eq.trans (Eq.trans (Eq.trans (Eq.trans (Eq.trans (rd_k (fun z => by have z1 := tn_of (show (v1 : Int32).toInt = v1.toInt from rfl) (by omega); have z2 := tn_of (show ((v1 + ((1 + 1) + 1)) : Int32).toInt = (v1.toInt + ((1 + 1) + 1)) from e371) (by omega); omega)) (f357.1 (Int32.toNatClampNeg v1) trivial)) (rd_k (fun z => by have z1 := tn_of (show (v1 : Int32).toInt = v1.toInt from rfl) (by omega); have z2 := tn_of (show ((v1 + (1 + 1)) : Int32).toInt = (v1.toInt + (1 + 1)) from e345) (by omega); omega))) (f331.1 (Int32.toNatClampNeg v1) trivial)) (rd_k (fun z => by have z1 := tn_of (show (v1 : Int32).toInt = v1.toInt from rfl) (by omega); have z2 := tn_of (show ((v1 + 1) : Int32).toInt = (v1.toInt + 1) from e319) (by omega); omega))) (f306.1 (Int32.toNatClampNeg v1) trivial))) rfl
            have fl377 : (((uI I351 102 (Int32.toNatClampNeg (v1 + ((1 + 1) + 1))) x350) 102 (Int32.toNatClampNeg v1)) : Int32).toInt = (I 102 (Int32.toNatClampNeg v1)).toInt := e376
            have e378 : (((uI I351 102 (Int32.toNatClampNeg (v1 + ((1 + 1) + 1))) x350) 102 (Int32.toNatClampNeg (v1 + 1))) : Int32).toInt = x299.toInt := Eq.trans (congrArg Int32.toInt (Eq.trans (Eq.trans (Eq.trans (Eq.trans (rd_k (fun z => by have z1 := tn_of (show ((v1 + 1) : Int32).toInt = (v1.toInt + 1) from e319) (by omega); have z2 := tn_of (show ((v1 + ((1 + 1) + 1)) : Int32).toInt = (v1.toInt + ((1 + 1) + 1)) from e371) (by omega); omega)) (f357.1 (Int32.toNatClampNeg (v1 + 1)) trivial)) (rd_k (fun z => by have z1 := tn_of (show ((v1 + 1) : Int32).toInt = (v1.toInt + 1) from e319) (by omega); have z2 := tn_of (show ((v1 + (1 + 1)) : Int32).toInt = (v1.toInt + (1 + 1)) from e345) (by omega); omega))) (f331.1 (Int32.toNatClampNeg (v1 + 1)) trivial)) rd_eq)) rfl
            have fl379 : (((uI I351 102 (Int32.toNatClampNeg (v1 + ((1 + 1) + 1))) x350) 102 (Int32.toNatClampNeg (v1 + 1))) : Int32).toInt = x299.toInt := e378
            have e380 : ((v1 + 2) : Int32).toInt = (v1.toInt) + (2) := ti_add rfl rfl (by omega)
            have e381 : (((uI I351 102 (Int32.toNatClampNeg (v1 + ((1 + 1) + 1))) x350) 102 (Int32.toNatClampNeg (v1 + 2))) : Int32).toInt = x324.toInt := Eq.trans (congrArg Int32.toInt (Eq.trans (Eq.trans (rd_k (fun z => by have z1 := tn_of (show ((v1 + 2) : Int32).toInt = (v1.toInt + 2) from e380) (by omega); have z2 := tn_of (show ((v1 + ((1 + 1) + 1)) : Int32).toInt = (v1.toInt + ((1 + 1) + 1)) from e371) (by omega); omega)) (f357.1 (Int32.toNatClampNeg (v1 + 2)) trivial)) (rd_e (show (Int32.toNatClampNeg (v1 + 2)) = (Int32.toNatClampNeg (v1 + (1 + 1))) from rfl)))) rfl
            have fl382 : (((uI I351 102 (Int32.toNatClampNeg (v1 + ((1 + 1) + 1))) x350) 102 (Int32.toNatClampNeg (v1 + 2))) : Int32).toInt = x324.toInt := e381
            have e383 : ((v1 + 3) : Int32).toInt = (v1.toInt) + (3) := ti_add rfl rfl (by omega)
            have e384 : (((uI I351 102 (Int32.toNatClampNeg (v1 + ((1 + 1) + 1))) x350) 102 (Int32.toNatClampNeg (v1 + 3))) : Int32).toInt = x350.toInt := Eq.trans (congrArg Int32.toInt (rd_e (show (Int32.toNatClampNeg (v1 + 3)) = (Int32.toNatClampNeg (v1 + ((1 + 1) + 1))) from rfl))) rfl
            have fl385 : (((uI I351 102 (Int32.toNatClampNeg (v1 + ((1 + 1) + 1))) x350) 102 (Int32.toNatClampNeg (v1 + 3))) : Int32).toInt = x350.toInt := e384
            have e386 : ((v1 + 5) : Int32).toInt = (v1.toInt) + (5) := ti_add rfl rfl (by omega)
            have e387 : (((uI I351 102 (Int32.toNatClampNeg (v1 + ((1 + 1) + 1))) x350) 102 (Int32.toNatClampNeg (v1 + 5))) : Int32).toInt = (I 102 (Int32.toNatClampNeg (v1 + 5))).toInt := Eq.trans (congrArg Int32.toInt (Eq.trans (Eq.trans (Eq.trans (Eq.trans (Eq.trans (rd_k (fun z => by have z1 := tn_of (show ((v1 + 5) : Int32).toInt = (v1.toInt + 5) from e386) (by omega); have z2 := tn_of (show ((v1 + ((1 + 1) + 1)) : Int32).toInt = (v1.toInt + ((1 + 1) + 1)) from e371) (by omega); omega)) (f357.1 (Int32.toNatClampNeg (v1 + 5)) trivial)) (rd_k (fun z => by have z1 := tn_of (show ((v1 + 5) : Int32).toInt = (v1.toInt + 5) from e386) (by omega); have z2 := tn_of (show ((v1 + (1 + 1)) : Int32).toInt = (v1.toInt + (1 + 1)) from e345) (by omega); omega))) (f331.1 (Int32.toNatClampNeg (v1 + 5)) trivial)) (rd_k (fun z => by have z1 := tn_of (show ((v1 + 5) : Int32).toInt = (v1.toInt + 5) from e386) (by omega); have z2 := tn_of (show ((v1 + 1) : Int32).toInt = (v1.toInt + 1) from e319) (by omega); omega))) (f306.1 (Int32.toNatClampNeg (v1 + 5)) trivial))) rfl
            have fl388 : (((uI I351 102 (Int32.toNatClampNeg (v1 + ((1 + 1) + 1))) x350) 102 (Int32.toNatClampNeg (v1 + 5))) : Int32).toInt = (I 102 (Int32.toNatClampNeg (v1 + 5))).toInt := e387
            have e389 : (((uI I351 102 (Int32.toNatClampNeg (v1 + ((1 + 1) + 1))) x350) 97 12) : Int32).toInt = (I351 97 12).toInt := Eq.trans (congrArg Int32.toInt (rd_ne (by first | decide | omega))) rfl
            have fl390 : (((uI I351 102 (Int32.toNatClampNeg (v1 + ((1 + 1) + 1))) x350) 97 12) : Int32).toInt = (I351 97 12).toInt := e389
            exact hQ _ _ _ _ hB372 ⟨(Eq.trans (Eq.trans (Eq.trans (Eq.trans (Eq.trans (rd_ne (by first | decide | omega)) (Hid.o hh356).1) (rd_ne (by first | decide | omega))) (Hid.o hh330).1) (rd_ne (by first | decide | omega))) (Hid.o hh305).1), f373, (PMp.o (PMp.tr (PMp.o (PMp.tr (PMp.o (PMp.tr (PMp.refl I) m308) (show ¬ (97 : Nat) = 102 by decide)) m333) (show ¬ (97 : Nat) = 102 by decide)) m359) (show ¬ (97 : Nat) = 102 by decide)), (fun hz => by have op0 := Or.resolve_left (Hid.o hh305).2.2.2.2 (fun z => by have b := PMp.bad (PMp.o (PMp.tr (PMp.o (PMp.tr (PMp.o (PMp.refl I300) (show ¬ (97 : Nat) = 102 by decide)) m333) (show ¬ (97 : Nat) = 102 by decide)) m359) (show ¬ (97 : Nat) = 102 by decide)) hz; omega); have op1 := Or.resolve_left (Hid.o hh330).2.2.2.2 (fun z => by have b := PMp.bad (PMp.o (PMp.tr (PMp.o (PMp.refl I325) (show ¬ (97 : Nat) = 102 by decide)) m359) (show ¬ (97 : Nat) = 102 by decide)) hz; omega); have op2 := Or.resolve_left (Hid.o hh356).2.2.2.2 (fun z => by have b := PMp.bad (PMp.o (PMp.refl I351) (show ¬ (97 : Nat) = 102 by decide)) hz; omega); unfold RF; omega)⟩
          · exact absurd c375 (by decide)
