set_option maxHeartbeats 2000000 in
theorem sp_X12_readPart {d : Nat} {Q : Qt} {I : Im} {J : Jm} {R : Rm} (hB0 : Bd I) (hR0 : RI R) (hQ : ∀ (x : Int32) (y : Int64) (I2 : Im) (J2 : Jm), Bd I2 → (Fr pR I I2 ∧ PMp I I2) → Q x y I2 J2 R) : AM (d + 7) 232 112 [.ref 97] I J R Q := by
  refine w_X12_readPart ?_
  refine sp_X12_isOdds hB0 hR0 (fun x1 y6 I2 J3 hB4 p5 => ?_)
  intro o7
  have hh8 := Hid.i p5
  clear p5
  have f9 : Fr pT I I2 := (Hid.o hh8).2.2.2.2.1
  have f10 : Fr pR I I2 := Fr.tr (Fr.refl _ _) f9 (fun _ _ => trivial)
  have m11 : PMp I I2 := (PMp.keep (Hid.o hh8).1 (Hid.o hh8).2.2.1 (Hid.o hh8).2.2.2.1)
  have b12 := Bd.o hB0 io9_112_97_12 bd9_12_14
  have i13 := i32 x1
  refine ⟨fun c14 => ?_, fun c14 => ?_⟩
  · skip
    have d15 : ((x1.toInt) : Int) = (0) := ci_eq rfl rfl c14
    refine sp_X12_isStore hB4 hR0 (fun x16 y21 I17 J18 hB19 p20 => ?_)
    intro o22
    have hh23 := Hid.i p20
    clear p20
    have f24 : Fr pT I2 I17 := (Hid.o hh23).2.2.2.2.1
    have f25 : Fr pR I I17 := Fr.tr f10 f24 (fun _ _ => trivial)
    have m26 : PMp I2 I17 := (PMp.keep (Hid.o hh23).1 (Hid.o hh23).2.2.1 (Hid.o hh23).2.2.2.1)
    have e27 : ((I2 97 14) : Int32).toInt = (I 97 14).toInt := Eq.trans (congrArg Int32.toInt (Hid.o hh8).2.2.1) rfl
    have i28 := i32 x16
    refine ⟨fun c29 => ?_, fun c29 => ?_⟩
    · skip
      have d30 : ((x16.toInt) : Int) = (0) := ci_eq rfl rfl c29
      refine sp_X12_isMan hB19 hR0 (fun x31 y36 I32 J33 hB34 p35 => ?_)
      intro o37
      have hh38 := Hid.i p35
      clear p35
      have f39 : Fr pT I17 I32 := (Hid.o hh38).2.2.2.2.1
      have f40 : Fr pR I I32 := Fr.tr f25 f39 (fun _ _ => trivial)
      have m41 : PMp I17 I32 := (PMp.keep (Hid.o hh38).1 (Hid.o hh38).2.2.1 (Hid.o hh38).2.2.2.1)
      have e42 : ((I17 97 14) : Int32).toInt = (I 97 14).toInt := Eq.trans (congrArg Int32.toInt (Eq.trans (Hid.o hh23).2.2.1 (Hid.o hh8).2.2.1)) rfl
      have i43 := i32 x31
      refine ⟨fun c44 => ?_, fun c44 => ?_⟩
      · skip
        have d45 : ((x31.toInt) : Int) = (0) := ci_eq rfl rfl c44
        refine sp_X12_isKnown hB34 hR0 (fun x46 y51 I47 J48 hB49 p50 => ?_)
        intro o52
        have hh53 := Hid.i p50
        clear p50
        have f54 : Fr pT I32 I47 := (Hid.o hh53).2.2.2.2.1
        have f55 : Fr pR I I47 := Fr.tr f40 f54 (fun _ _ => trivial)
        have m56 : PMp I32 I47 := (PMp.keep (Hid.o hh53).1 (Hid.o hh53).2.2.1 (Hid.o hh53).2.2.2.1)
        have e57 : ((I32 97 14) : Int32).toInt = (I 97 14).toInt := Eq.trans (congrArg Int32.toInt (Eq.trans (Eq.trans (Hid.o hh38).2.2.1 (Hid.o hh23).2.2.1) (Hid.o hh8).2.2.1)) rfl
        have i58 := i32 x46
        refine ⟨fun c59 => ?_, fun c59 => ?_⟩
        · skip
          have d60 : ((x46.toInt) : Int) = (0) := ci_eq rfl rfl c59
          refine sp_X12_amiss hB49 hR0 (fun x61 y66 I62 J63 hB64 p65 => ?_)
          have hh67 := Hid.i p65
          clear p65
          have f68 : Fr pT I47 I62 := (Hid.o hh67).2.2.2.2.1
          have f69 : Fr pR I I62 := Fr.tr f55 f68 (fun _ _ => trivial)
          have m70 : PMp I47 I62 := (PMp.fail (Hid.o hh67).2.1 (Hid.o hh67).2.2.1 (Hid.o hh67).2.2.2.2.2)
          have wr71 := (Hid.o hh67).2.2.2.2.2
          have b72 := Bd.o hB64 io9_112_97_12 bd9_12_12
          exact hQ _ _ _ _ hB64 ⟨f69, (PMp.tr (PMp.tr (PMp.tr (PMp.tr (PMp.tr (PMp.refl I) m11) m26) m41) m56) m70)⟩
        · skip
          have d73 : ¬ ((x46.toInt) : Int) = (0) := ci_ne rfl rfl c59
          refine sp_X12_readKnown hB49 hR0 (fun x74 y79 I75 J76 hB77 p78 => ?_)
          have hh80 := Hid.i p78
          clear p78
          have f81 : Fr pR I47 I75 := (Hid.o hh80).2.1
          have f82 : Fr pR I I75 := Fr.tr f55 f81 (fun _ z => z)
          have m83 : PMp I47 I75 := (PMp.mk (Hid.o hh80).2.2.1 (Hid.o hh80).2.2.2)
          have b84 := Bd.o hB0 io9_112_97_12 bd9_12_12
          have e85 : ((I47 97 12) : Int32).toInt = (I 97 12).toInt := Eq.trans (congrArg Int32.toInt (Eq.trans (Eq.trans (Eq.trans (Hid.o hh53).1 (Hid.o hh38).1) (Hid.o hh23).1) (Hid.o hh8).1)) rfl
          have e86 : ((I47 97 14) : Int32).toInt = (I 97 14).toInt := Eq.trans (congrArg Int32.toInt (Eq.trans (Eq.trans (Eq.trans (Hid.o hh53).2.2.1 (Hid.o hh38).2.2.1) (Hid.o hh23).2.2.1) (Hid.o hh8).2.2.1)) rfl
          have b87 := Bd.o hB0 io9_112_97_12 bd9_12_16
          have e88 : ((I47 97 16) : Int32).toInt = (I 97 16).toInt := Eq.trans (congrArg Int32.toInt (Eq.trans (Eq.trans (Eq.trans (Hid.o hh53).2.2.2.1 (Hid.o hh38).2.2.2.1) (Hid.o hh23).2.2.2.1) (Hid.o hh8).2.2.2.1)) rfl
          have b89 := Bd.o hB77 io9_112_97_12 bd9_12_12
          have b90 := Bd.o hB77 io9_112_97_12 bd9_12_14
          have b91 := Bd.o hB77 io9_112_97_12 bd9_12_16
          exact hQ _ _ _ _ hB77 ⟨f82, (PMp.tr (PMp.tr (PMp.tr (PMp.tr (PMp.tr (PMp.refl I) m11) m26) m41) m56) m83)⟩
      · skip
        have d92 : ¬ ((x31.toInt) : Int) = (0) := ci_ne rfl rfl c44
        refine sp_X12_readMan hB34 hR0 (fun x93 y98 I94 J95 hB96 p97 => ?_)
        have hh99 := Hid.i p97
        clear p97
        have f100 : Fr pR I32 I94 := (Hid.o hh99).1
        have f101 : Fr pR I I94 := Fr.tr f40 f100 (fun _ z => z)
        have m102 : PMp I32 I94 := (Hid.o hh99).2
        exact hQ _ _ _ _ hB96 ⟨f101, (PMp.tr (PMp.tr (PMp.tr (PMp.tr (PMp.refl I) m11) m26) m41) m102)⟩
    · skip
      have d103 : ¬ ((x16.toInt) : Int) = (0) := ci_ne rfl rfl c29
      refine sp_X12_readStore hB19 hR0 (fun x104 y109 I105 J106 hB107 p108 => ?_)
      have hh110 := Hid.i p108
      clear p108
      have f111 : Fr pR I17 I105 := (Hid.o hh110).2.1
      have f112 : Fr pR I I105 := Fr.tr f25 f111 (fun _ z => z)
      have m113 : PMp I17 I105 := (PMp.mk (Hid.o hh110).2.2.1 (Hid.o hh110).2.2.2)
      have b114 := Bd.o hB0 io9_112_97_12 bd9_12_12
      have e115 : ((I17 97 12) : Int32).toInt = (I 97 12).toInt := Eq.trans (congrArg Int32.toInt (Eq.trans (Hid.o hh23).1 (Hid.o hh8).1)) rfl
      have e116 : ((I17 97 14) : Int32).toInt = (I 97 14).toInt := Eq.trans (congrArg Int32.toInt (Eq.trans (Hid.o hh23).2.2.1 (Hid.o hh8).2.2.1)) rfl
      have b117 := Bd.o hB0 io9_112_97_12 bd9_12_16
      have e118 : ((I17 97 16) : Int32).toInt = (I 97 16).toInt := Eq.trans (congrArg Int32.toInt (Eq.trans (Hid.o hh23).2.2.2.1 (Hid.o hh8).2.2.2.1)) rfl
      have b119 := Bd.o hB107 io9_112_97_12 bd9_12_12
      have b120 := Bd.o hB107 io9_112_97_12 bd9_12_14
      have b121 := Bd.o hB107 io9_112_97_12 bd9_12_16
      exact hQ _ _ _ _ hB107 ⟨f112, (PMp.tr (PMp.tr (PMp.tr (PMp.refl I) m11) m26) m113)⟩
  · skip
    have d122 : ¬ ((x1.toInt) : Int) = (0) := ci_ne rfl rfl c14
    refine sp_X12_readOdds hB4 hR0 (fun x123 y128 I124 J125 hB126 p127 => ?_)
    have hh129 := Hid.i p127
    clear p127
    have f130 : Fr pR I2 I124 := (Hid.o hh129).2.1
    have f131 : Fr pR I I124 := Fr.tr f10 f130 (fun _ z => z)
    have m132 : PMp I2 I124 := (PMp.mk (Hid.o hh129).2.2.1 (Hid.o hh129).2.2.2)
    have b133 := Bd.o hB0 io9_112_97_12 bd9_12_12
    have e134 : ((I2 97 12) : Int32).toInt = (I 97 12).toInt := Eq.trans (congrArg Int32.toInt (Hid.o hh8).1) rfl
    have e135 : ((I2 97 14) : Int32).toInt = (I 97 14).toInt := Eq.trans (congrArg Int32.toInt (Hid.o hh8).2.2.1) rfl
    have b136 := Bd.o hB0 io9_112_97_12 bd9_12_16
    have e137 : ((I2 97 16) : Int32).toInt = (I 97 16).toInt := Eq.trans (congrArg Int32.toInt (Hid.o hh8).2.2.2.1) rfl
    have b138 := Bd.o hB126 io9_112_97_12 bd9_12_12
    have b139 := Bd.o hB126 io9_112_97_12 bd9_12_14
    have b140 := Bd.o hB126 io9_112_97_12 bd9_12_16
    exact hQ _ _ _ _ hB126 ⟨f131, (PMp.tr (PMp.tr (PMp.refl I) m11) m132)⟩
