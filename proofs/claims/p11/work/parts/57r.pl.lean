/-! ===== what plate and plateMove answer, on both sides ===== -/
def isPS (v : Int32) : Prop := 0 ≤ v.toInt ∧ v.toInt ≤ 1073741823 ∧ pcn v 30 ≤ 12
/-- the place of the first slice by which who begins wins -/
def GP (v : Int32) (y : Int) : Prop := ∃ (n : Nat) (W : Nat → Prop), (n : Int) = pcn v 30 ∧ WinR (msF v 30) n W ∧ LW n (fun k => smN (msF v 30) n (2 ^ k) ≤ 2329089562800 ∧ ¬ W (2 ^ k)) y
theorem GP.eq {v : Int32} {x y : Int} (h : GP v x) (g : GP v y) : x = y := by
  obtain ⟨n, W, h1, h2, h3⟩ := h
  obtain ⟨m, V, g1, g2, g3⟩ := g
  have e : m = n := by omega
  subst e
  exact LW.win h2 g2 h3 g3
def PL1 (v x : Int32) : Prop := (¬ isPS v ∧ x.toInt = -1) ∨ (isPS v ∧ ∃ y, GP v y ∧ x.toInt = if y = -1 then 0 else 1)
def PL2 (v x : Int32) : Prop := (¬ isPS v ∧ x.toInt = -1) ∨ (isPS v ∧ ∃ y, GP v y ∧ stY (msF v 30) x y)
theorem PL1.eq {v a b : Int32} (h : PL1 v a) (g : PL1 v b) : a.toInt = b.toInt := by
  rcases h with ⟨h1, h2⟩ | ⟨h1, y, h2, h3⟩
  · rcases g with ⟨g1, g2⟩ | ⟨g1, z, g2, g3⟩
    · rw [h2, g2]
    · exact absurd g1 h1
  · rcases g with ⟨g1, g2⟩ | ⟨g1, z, g2, g3⟩
    · exact absurd h1 g1
    · rw [h3, g3, h2.eq g2]
theorem PL2.eq {v a b : Int32} (h : PL2 v a) (g : PL2 v b) : a.toInt = b.toInt := by
  rcases h with ⟨h1, h2⟩ | ⟨h1, y, h2, h3⟩
  · rcases g with ⟨g1, g2⟩ | ⟨g1, z, g2, g3⟩
    · rw [h2, g2]
    · exact absurd g1 h1
  · rcases g with ⟨g1, g2⟩ | ⟨g1, z, g2, g3⟩
    · exact absurd h1 g1
    · have e := h2.eq g2
      subst e
      rcases h3 with ⟨a1, a2⟩ | ⟨a1, a2⟩
      · rcases g3 with ⟨b1, b2⟩ | ⟨b1, b2⟩
        · rw [a2, b2]
        · omega
      · rcases g3 with ⟨b1, b2⟩ | ⟨b1, b2⟩
        · omega
        · rw [a2, b2]
theorem GP.in {v : Int32} {y : Int} (h : GP v y) : y = -1 ∨ (0 ≤ y ∧ y < pcn v 30) := by
  obtain ⟨n, W, h1, h2, h3⟩ := h
  rcases h3 with ⟨a, b⟩ | ⟨a, b, c⟩
  · exact Or.inl a
  · exact Or.inr ⟨a, by omega⟩
theorem stY_le {v x : Int32} {y : Int} (g : GP v y) (h : stY (msF v 30) x y) : x.toInt ≤ 0 ↔ y = -1 := by
  rcases h with ⟨a, b⟩ | ⟨a, b⟩
  · rw [b]; exact ⟨fun _ => a, fun _ => by decide⟩
  · have h2 := g.in
    have := (msF_in v 30 y.toNat (by omega) (by omega)).1
    rw [b]; exact ⟨fun q => by omega, fun q => by omega⟩
theorem gx_X11_plate {d : Nat} {Q : Qt} {v1 : Int32} {I : Im} {J : Jm} {R : Rm} (hB0 : Bd I) (hR0 : RI R) (hJ0 : J 47 0 = 0) (hQ : ∀ (x : Int32) (y : Int64) (I2 : Im) (J2 : Jm), Bd I2 → (J2 47 0 = 0 ∧ PL1 v1 x) → Q x y I2 J2 R) : AM (d + 4) 140 112 [.ref 1, .int v1] I J R Q := by
  refine am_X11_plate (fun P hc => ?_)
  refine sg_X11_plate_0 hc _ _ _ _ ?_
  refine kpp rfl (sp_X11_isPlateSet hB0 hR0 (fun x1 y6 I2 J3 hB4 p5 eI eJ eR => ?_))
  subst eI eJ
  intro o7
  have p6 := p5.2
  refine ⟨fun c9 => ?_, fun c9 => ?_⟩
  · have d10 := ci_ne (rfl : x1.toInt = x1.toInt) (show (0 : Int32).toInt = 0 from rfl) c9
    have ps : isPS v1 := p6.2.2.1 (by have := p6.1; have := p6.2.1; omega)
    refine px_lay hB4 ps.1 ps.2.2 hJ0 (fun I12 J13 n hB14 hn hsz hmb hJ => ?_)
    refine px_firstWinning hB14 hsz (by have := ps.2.2; omega) hJ (fun x17 I18 hB20 hfr hw => ?_)
    obtain ⟨W, w1, w2⟩ := hw
    have hz : J13 47 0 = 0 := Int64.toInt_inj.mp (by rw [hJ 0 (Nat.pow_pos (by decide)), smN_0]; rfl)
    have gp : GP v1 x17.toInt := ⟨n, W, hn, w1, w2⟩
    have o0 : Bd (uI I18 1 0 0) := Bd.o0 hB20 (show isO 112 1 11 = true from rfl) (by omega) (show bnd 11 0 = none from rfl)
    refine ⟨fun c24 => ?_, fun c24 => ?_⟩
    · have d25 := ci_ne (rfl : x17.toInt = x17.toInt) (show (-1 : Int32).toInt = -1 from rfl) c24
      exact w_X11_answer (hQ _ _ _ _ o0 ⟨hz, Or.inr ⟨ps, _, gp, by rw [if_neg d25]; rfl⟩⟩)
    · have d25 := ci_eq (rfl : x17.toInt = x17.toInt) (show (-1 : Int32).toInt = -1 from rfl) c24
      exact w_X11_answer (hQ _ _ _ _ o0 ⟨hz, Or.inr ⟨ps, _, gp, by rw [if_pos d25]; rfl⟩⟩)
  · have d29 := ci_eq (rfl : x1.toInt = x1.toInt) (show (0 : Int32).toInt = 0 from rfl) c9
    refine w_X11_refuse (hQ _ _ _ _ (Bd.o0 hB0 (show isO 112 1 11 = true from rfl) (by omega) (show bnd 11 0 = none from rfl)) ⟨hJ0, Or.inl ⟨fun q => ?_, rfl⟩⟩)
    have := p6.2.2.2 q
    omega
theorem gx_X11_plateMove {d : Nat} {Q : Qt} {v1 : Int32} {I : Im} {J : Jm} {R : Rm} (hB0 : Bd I) (hR0 : RI R) (hJ0 : J 47 0 = 0) (hQ : ∀ (x : Int32) (y : Int64) (I2 : Im) (J2 : Jm), Bd I2 → (J2 47 0 = 0 ∧ PL2 v1 x) → Q x y I2 J2 R) : AM (d + 4) 141 112 [.ref 1, .int v1] I J R Q := by
  refine am_X11_plateMove (fun P hc => ?_)
  refine sg_X11_plateMove_0 hc _ _ _ _ ?_
  refine kpp rfl (sp_X11_isPlateSet hB0 hR0 (fun x1 y6 I2 J3 hB4 p5 eI eJ eR => ?_))
  subst eI eJ
  intro o7
  have p6 := p5.2
  refine ⟨fun c9 => ?_, fun c9 => ?_⟩
  · have d10 := ci_ne (rfl : x1.toInt = x1.toInt) (show (0 : Int32).toInt = 0 from rfl) c9
    have ps : isPS v1 := p6.2.2.1 (by have := p6.1; have := p6.2.1; omega)
    refine px_lay hB4 ps.1 ps.2.2 hJ0 (fun I12 J13 n hB14 hn hsz hmb hJ => ?_)
    refine px_firstWinning hB14 hsz (by have := ps.2.2; omega) hJ (fun x17 I18 hB20 hfr hw => ?_)
    obtain ⟨W, w1, w2⟩ := hw
    have hz : J13 47 0 = 0 := Int64.toInt_inj.mp (by rw [hJ 0 (Nat.pow_pos (by decide)), smN_0]; rfl)
    have gp : GP v1 x17.toInt := ⟨n, W, hn, w1, w2⟩
    have gi := gp.in
    have h12 := ps.2.2
    refine ⟨fun c24 => ?_, fun c24 => ?_⟩
    · have d25 := ci_ne (rfl : x17.toInt = x17.toInt) (show (-1 : Int32).toInt = -1 from rfl) c24
      refine ⟨vp_of (rfl : x17.toInt = x17.toInt) (by omega) (by omega), ?_⟩
      refine w_X11_answer (hQ _ _ _ _ (Bd.o0 hB20 (show isO 112 1 11 = true from rfl) (by omega) (show bnd 11 0 = none from rfl)) ⟨hz, Or.inr ⟨ps, _, gp, Or.inr ⟨by omega, ?_⟩⟩⟩)
      rw [hfr 46 (by decide)]
      exact hmb _ (by show x17.toInt.toNat < n; omega)
    · have d25 := ci_eq (rfl : x17.toInt = x17.toInt) (show (-1 : Int32).toInt = -1 from rfl) c24
      exact w_X11_refuse (hQ _ _ _ _ (Bd.o0 hB20 (show isO 112 1 11 = true from rfl) (by omega) (show bnd 11 0 = none from rfl)) ⟨hz, Or.inr ⟨ps, _, gp, Or.inl ⟨d25, rfl⟩⟩⟩)
  · have d29 := ci_eq (rfl : x1.toInt = x1.toInt) (show (0 : Int32).toInt = 0 from rfl) c9
    refine w_X11_refuse (hQ _ _ _ _ (Bd.o0 hB0 (show isO 112 1 11 = true from rfl) (by omega) (show bnd 11 0 = none from rfl)) ⟨hJ0, Or.inl ⟨fun q => ?_, rfl⟩⟩)
    have := p6.2.2.2 q
    omega
theorem stY_m {v x : Int32} {y : Int} (g : GP v y) (h : stY (msF v 30) x y) (hx : x.toInt < 0) : stY (msF v 30) (-1) y := by
  have := (stY_le g h).mp (by omega)
  exact Or.inl ⟨this, rfl⟩

set_option maxHeartbeats 2000000 in
theorem gx_X12_plate {d : Nat} {Q : Qt} {v1 : Int32} {I : Im} {J : Jm} {R : Rm} (hB0 : Bd I) (hR0 : RI R) (hQ : ∀ (x : Int32) (y : Int64) (I2 : Im) (J2 : Jm), Bd I2 → (PL1 v1 x) → Q x y I2 J2 R) : AM (d + 4) 297 112 [.ref 97, .int v1] I J R Q := by
  have i_v1 := i32 v1
  refine am_X12_plate (fun P hc => ?_)
  refine sg_X12_plate_0 hc _ _ _ _ ?_
  have hB1 : Bd (uI I 97 1 0) := Bd.o0 hB0 (show isO 112 97 12 = true from rfl) (by omega) (show bnd 12 1 = none from rfl)
  have hB2 : Bd (uI (uI I 97 1 0) 97 0 0) := Bd.o0 hB1 (show isO 112 97 12 = true from rfl) (by omega) (show bnd 12 0 = none from rfl)
  refine w_X12_isSet ?_
  refine w_X12_isIn ?_
  refine ⟨fun c3 => ?_, fun c3 => ?_⟩
  · skip
    rw [lg_cmp_lt] at c3
    have d4 : ((v1.toInt) : Int) < (0) := cl_lt (tl_i2l rfl) rfl c3
    refine ⟨Or.inl rfl, ?_⟩
    intro o5
    refine ⟨fun c6 => ?_, fun c6 => ?_⟩
    · skip
      refine ⟨Or.inl rfl, ?_⟩
      intro o7
      refine ⟨fun c8 => ?_, fun c8 => ?_⟩
      · exact absurd c8 (by decide)
      · skip
        refine w_X12_refuse ?_
        have hB9 : Bd (uI (uI (uI I 97 1 0) 97 0 0) 97 0 5) := Bd.o0 hB2 (show isO 112 97 12 = true from rfl) (by omega) (show bnd 12 0 = none from rfl)
        exact hQ _ _ _ _ hB9 (Or.inl ⟨fun q => by have q1 := q.1; have q2 := q.2.1; have q3 := q.2.2; omega, rfl⟩)
    · exact absurd c6 (by decide)
  · skip
    rw [lg_cmp_lt] at c3
    have d10 : ((0) : Int) ≤ (v1.toInt) := cl_nlt (tl_i2l rfl) rfl c3
    refine ⟨fun c11 => ?_, fun c11 => ?_⟩
    · skip
      rw [lg_cmp_gt] at c11
      have d12 : ((1073741823) : Int) < (v1.toInt) := cl_lt rfl (tl_i2l rfl) c11
      refine ⟨Or.inl rfl, ?_⟩
      intro o13
      refine ⟨fun c14 => ?_, fun c14 => ?_⟩
      · skip
        refine ⟨Or.inl rfl, ?_⟩
        intro o15
        refine ⟨fun c16 => ?_, fun c16 => ?_⟩
        · exact absurd c16 (by decide)
        · skip
          refine w_X12_refuse ?_
          have hB17 : Bd (uI (uI (uI I 97 1 0) 97 0 0) 97 0 5) := Bd.o0 hB2 (show isO 112 97 12 = true from rfl) (by omega) (show bnd 12 0 = none from rfl)
          exact hQ _ _ _ _ hB17 (Or.inl ⟨fun q => by have q1 := q.1; have q2 := q.2.1; have q3 := q.2.2; omega, rfl⟩)
      · exact absurd c14 (by decide)
    · skip
      rw [lg_cmp_gt] at c11
      have d18 : ((v1.toInt) : Int) ≤ (1073741823) := cl_nlt rfl (tl_i2l rfl) c11
      refine ⟨Or.inr rfl, ?_⟩
      intro o19
      refine ⟨fun c20 => ?_, fun c20 => ?_⟩
      · exact absurd c20 (by decide)
      · skip
        refine sp_X12_sizeOf hB2 hR0 (fun x21 y26 I22 J23 hB24 p25 => ?_)
        obtain ⟨heI22, p25⟩ := p25
        subst heI22
        have i27 := i32 x21
        refine ⟨fun c28 => ?_, fun c28 => ?_⟩
        · skip
          have d29 : ((12) : Int) < (x21.toInt) := ci_lt rfl rfl c28
          refine ⟨Or.inl rfl, ?_⟩
          intro o30
          refine ⟨fun c31 => ?_, fun c31 => ?_⟩
          · exact absurd c31 (by decide)
          · skip
            refine w_X12_refuse ?_
            have hB32 : Bd (uI (uI (uI I 97 1 0) 97 0 0) 97 0 5) := Bd.o0 hB2 (show isO 112 97 12 = true from rfl) (by omega) (show bnd 12 0 = none from rfl)
            exact hQ _ _ _ _ hB32 (Or.inl ⟨fun q => by have q1 := q.1; have q2 := q.2.1; have q3 := q.2.2; omega, rfl⟩)
        · skip
          have d33 : ((x21.toInt) : Int) ≤ (12) := ci_nlt rfl rfl c28
          refine ⟨Or.inr rfl, ?_⟩
          intro o34
          refine ⟨fun c35 => ?_, fun c35 => ?_⟩
          · skip
            refine px_plates hB2 d10 (by omega) (fun x36 I37 hB39 p40 => ?_)
            have ps : isPS v1 := ⟨d10, by omega, by omega⟩
            obtain ⟨n, W, y, hn, w1, w2, w3⟩ := p40
            have gp : GP v1 y := ⟨n, W, hn, w1, w2⟩
            have i42 := i32 x36
            refine ⟨fun c43 => ?_, fun c43 => ?_⟩
            · skip
              have d44 : ((x36.toInt) : Int) ≤ (0) := ci_le rfl rfl c43
              exact hQ _ _ _ _ hB39 (Or.inr ⟨ps, y, gp, by rw [if_pos ((stY_le gp w3).mp (by omega))]; rfl⟩)
            · skip
              have d45 : ((0) : Int) < (x36.toInt) := ci_nle rfl rfl c43
              exact hQ _ _ _ _ hB39 (Or.inr ⟨ps, y, gp, by rw [if_neg (fun q => by have := (stY_le gp w3).mpr q; omega)]; rfl⟩)
          · exact absurd c35 (by decide)

set_option maxHeartbeats 2000000 in
theorem gx_X12_plateMove {d : Nat} {Q : Qt} {v1 : Int32} {I : Im} {J : Jm} {R : Rm} (hB0 : Bd I) (hR0 : RI R) (hQ : ∀ (x : Int32) (y : Int64) (I2 : Im) (J2 : Jm), Bd I2 → (PL2 v1 x) → Q x y I2 J2 R) : AM (d + 4) 298 112 [.ref 97, .int v1] I J R Q := by
  have i_v1 := i32 v1
  refine am_X12_plateMove (fun P hc => ?_)
  refine sg_X12_plateMove_0 hc _ _ _ _ ?_
  have hB1 : Bd (uI I 97 1 0) := Bd.o0 hB0 (show isO 112 97 12 = true from rfl) (by omega) (show bnd 12 1 = none from rfl)
  have hB2 : Bd (uI (uI I 97 1 0) 97 0 0) := Bd.o0 hB1 (show isO 112 97 12 = true from rfl) (by omega) (show bnd 12 0 = none from rfl)
  refine w_X12_isSet ?_
  refine w_X12_isIn ?_
  refine ⟨fun c3 => ?_, fun c3 => ?_⟩
  · skip
    rw [lg_cmp_lt] at c3
    have d4 : ((v1.toInt) : Int) < (0) := cl_lt (tl_i2l rfl) rfl c3
    refine ⟨Or.inl rfl, ?_⟩
    intro o5
    refine ⟨fun c6 => ?_, fun c6 => ?_⟩
    · skip
      refine ⟨Or.inl rfl, ?_⟩
      intro o7
      refine ⟨fun c8 => ?_, fun c8 => ?_⟩
      · skip
        refine w_X12_refuse ?_
        have hB9 : Bd (uI (uI (uI I 97 1 0) 97 0 0) 97 0 5) := Bd.o0 hB2 (show isO 112 97 12 = true from rfl) (by omega) (show bnd 12 0 = none from rfl)
        exact hQ _ _ _ _ hB9 (Or.inl ⟨fun q => by have q1 := q.1; have q2 := q.2.1; have q3 := q.2.2; omega, rfl⟩)
      · exact absurd c8 (by decide)
    · exact absurd c6 (by decide)
  · skip
    rw [lg_cmp_lt] at c3
    have d10 : ((0) : Int) ≤ (v1.toInt) := cl_nlt (tl_i2l rfl) rfl c3
    refine ⟨fun c11 => ?_, fun c11 => ?_⟩
    · skip
      rw [lg_cmp_gt] at c11
      have d12 : ((1073741823) : Int) < (v1.toInt) := cl_lt rfl (tl_i2l rfl) c11
      refine ⟨Or.inl rfl, ?_⟩
      intro o13
      refine ⟨fun c14 => ?_, fun c14 => ?_⟩
      · skip
        refine ⟨Or.inl rfl, ?_⟩
        intro o15
        refine ⟨fun c16 => ?_, fun c16 => ?_⟩
        · skip
          refine w_X12_refuse ?_
          have hB17 : Bd (uI (uI (uI I 97 1 0) 97 0 0) 97 0 5) := Bd.o0 hB2 (show isO 112 97 12 = true from rfl) (by omega) (show bnd 12 0 = none from rfl)
          exact hQ _ _ _ _ hB17 (Or.inl ⟨fun q => by have q1 := q.1; have q2 := q.2.1; have q3 := q.2.2; omega, rfl⟩)
        · exact absurd c16 (by decide)
      · exact absurd c14 (by decide)
    · skip
      rw [lg_cmp_gt] at c11
      have d18 : ((v1.toInt) : Int) ≤ (1073741823) := cl_nlt rfl (tl_i2l rfl) c11
      refine ⟨Or.inr rfl, ?_⟩
      intro o19
      refine ⟨fun c20 => ?_, fun c20 => ?_⟩
      · exact absurd c20 (by decide)
      · skip
        refine sp_X12_sizeOf hB2 hR0 (fun x21 y26 I22 J23 hB24 p25 => ?_)
        obtain ⟨heI22, p25⟩ := p25
        subst heI22
        have i27 := i32 x21
        refine ⟨fun c28 => ?_, fun c28 => ?_⟩
        · skip
          have d29 : ((12) : Int) < (x21.toInt) := ci_lt rfl rfl c28
          refine ⟨Or.inl rfl, ?_⟩
          intro o30
          refine ⟨fun c31 => ?_, fun c31 => ?_⟩
          · skip
            refine w_X12_refuse ?_
            have hB32 : Bd (uI (uI (uI I 97 1 0) 97 0 0) 97 0 5) := Bd.o0 hB2 (show isO 112 97 12 = true from rfl) (by omega) (show bnd 12 0 = none from rfl)
            exact hQ _ _ _ _ hB32 (Or.inl ⟨fun q => by have q1 := q.1; have q2 := q.2.1; have q3 := q.2.2; omega, rfl⟩)
          · exact absurd c31 (by decide)
        · skip
          have d33 : ((x21.toInt) : Int) ≤ (12) := ci_nlt rfl rfl c28
          refine ⟨Or.inr rfl, ?_⟩
          intro o34
          refine ⟨fun c35 => ?_, fun c35 => ?_⟩
          · exact absurd c35 (by decide)
          · skip
            refine px_plates hB2 d10 (by omega) (fun x36 I37 hB39 p40 => ?_)
            have ps : isPS v1 := ⟨d10, by omega, by omega⟩
            obtain ⟨n, W, y, hn, w1, w2, w3⟩ := p40
            have gp : GP v1 y := ⟨n, W, hn, w1, w2⟩
            have i42 := i32 x36
            refine w_X12_answer ?_
            refine ⟨fun c43 => ?_, fun c43 => ?_⟩
            · skip
              have d44 : ((0) : Int) ≤ (x36.toInt) := ci_le rfl rfl c43
              exact hQ _ _ _ _ hB39 (Or.inr ⟨ps, y, gp, w3⟩)
            · skip
              have d45 : ((x36.toInt) : Int) < (0) := ci_nle rfl rfl c43
              refine w_X12_refuse ?_
              have hB46 : Bd (uI I37 97 0 8) := Bd.o0 hB39 (show isO 112 97 12 = true from rfl) (by omega) (show bnd 12 0 = none from rfl)
              exact hQ _ _ _ _ hB46 (Or.inr ⟨ps, y, gp, stY_m gp w3 (by omega)⟩)


set_option maxHeartbeats 2000000 in
theorem gx_X11_luck {d : Nat} {Q : Qt} {v1 : Int32} {v2 : Int32} {v3 : Int32} {v4 : Int32} {I : Im} {J : Jm} {R : Rm} (hB0 : Bd I) (hR0 : RI R) (hJ0 : J 47 0 = 0) (hQ : ∀ (x : Int32) (y : Int64) (I2 : Im) (J2 : Jm), Bd I2 → (J2 47 0 = 0 ∧ ((0 ≤ x.toInt ∧ x.toInt ≤ 1 ∧ (x.toInt = 1 → 0 ≤ v1.toInt ∧ v1.toInt ≤ 1073741823 ∧ pcn v1 30 ≤ 12 ∧ 0 ≤ v2.toInt ∧ v2.toInt ≤ 12 ∧ 1 ≤ v3.toInt ∧ v3.toInt ≤ 99 ∧ 1 ≤ v4.toInt ∧ v4.toInt ≤ 30 ∧ v2.toInt ≤ pcn v1 30) ∧ (0 ≤ v1.toInt ∧ v1.toInt ≤ 1073741823 ∧ pcn v1 30 ≤ 12 ∧ 0 ≤ v2.toInt ∧ v2.toInt ≤ 12 ∧ 1 ≤ v3.toInt ∧ v3.toInt ≤ 99 ∧ 1 ≤ v4.toInt ∧ v4.toInt ≤ 30 ∧ v2.toInt ≤ pcn v1 30 → x.toInt = 1)))) → Q x y I2 J2 R) : AM (d + 4) 142 112 [.ref 1, .int v1, .int v2, .int v3, .int v4] I J R Q := by
  have i_v1 := i32 v1
  have i_v2 := i32 v2
  have i_v3 := i32 v3
  have i_v4 := i32 v4
  refine am_X11_luck (fun P hc => ?_)
  refine sg_X11_luck_0 hc _ _ _ _ _ _ _ ?_
  refine kpp rfl (sp_X11_isPlateSet hB0 hR0 (fun x1 y6 I2 J3 hB4 p5 eI1 eJ1 eR1 => ?_))
  subst eJ1
  intro o7
  obtain ⟨heI2, p5⟩ := p5
  subst heI2
  have i8 := i32 x1
  refine ⟨fun c9 => ?_, fun c9 => ?_⟩
  · skip
    have d10 : ((x1.toInt) : Int) = (0) := ci_eq rfl rfl c9
    refine w_X11_deny ?_
    have hB11 : Bd (uI I 1 0 5) := Bd.o0 hB0 (show isO 112 1 11 = true from rfl) (by omega) (show bnd 11 0 = none from rfl)
    refine ⟨Or.inl rfl, ?_⟩
    intro o12
    refine ⟨Or.inl rfl, ?_⟩
    exact hQ _ _ _ _ hB11 ⟨hJ0, (by have q0 : (0 : Int32).toInt = 0 := rfl; omega)⟩
  · skip
    have d13 : ¬ ((x1.toInt) : Int) = (0) := ci_ne rfl rfl c9
    refine ⟨fun c14 => ?_, fun c14 => ?_⟩
    · skip
      have d15 : ((v2.toInt) : Int) < (0) := ci_lt rfl rfl c14
      refine w_X11_deny ?_
      have hB16 : Bd (uI I 1 0 5) := Bd.o0 hB0 (show isO 112 1 11 = true from rfl) (by omega) (show bnd 11 0 = none from rfl)
      refine ⟨Or.inl rfl, ?_⟩
      intro o17
      refine ⟨Or.inl rfl, ?_⟩
      exact hQ _ _ _ _ hB16 ⟨hJ0, (by have q0 : (0 : Int32).toInt = 0 := rfl; omega)⟩
    · skip
      have d18 : ((0) : Int) ≤ (v2.toInt) := ci_nlt rfl rfl c14
      refine ⟨fun c19 => ?_, fun c19 => ?_⟩
      · skip
        have d20 : ((12) : Int) < (v2.toInt) := ci_lt rfl rfl c19
        refine w_X11_deny ?_
        have hB21 : Bd (uI I 1 0 5) := Bd.o0 hB0 (show isO 112 1 11 = true from rfl) (by omega) (show bnd 11 0 = none from rfl)
        refine ⟨Or.inl rfl, ?_⟩
        intro o22
        refine ⟨Or.inl rfl, ?_⟩
        exact hQ _ _ _ _ hB21 ⟨hJ0, (by have q0 : (0 : Int32).toInt = 0 := rfl; omega)⟩
      · skip
        have d23 : ((v2.toInt) : Int) ≤ (12) := ci_nlt rfl rfl c19
        refine w_X11_isShare ?_
        refine ⟨fun c24 => ?_, fun c24 => ?_⟩
        · skip
          have d25 : ((v3.toInt) : Int) < (1) := ci_lt rfl rfl c24
          refine ⟨Or.inl rfl, ?_⟩
          intro o26
          refine ⟨fun c27 => ?_, fun c27 => ?_⟩
          · exact absurd c27 (by decide)
          · skip
            refine w_X11_deny ?_
            have hB28 : Bd (uI I 1 0 5) := Bd.o0 hB0 (show isO 112 1 11 = true from rfl) (by omega) (show bnd 11 0 = none from rfl)
            refine ⟨Or.inl rfl, ?_⟩
            intro o29
            refine ⟨Or.inl rfl, ?_⟩
            exact hQ _ _ _ _ hB28 ⟨hJ0, (by have q0 : (0 : Int32).toInt = 0 := rfl; omega)⟩
        · skip
          have d30 : ((1) : Int) ≤ (v3.toInt) := ci_nlt rfl rfl c24
          refine ⟨fun c31 => ?_, fun c31 => ?_⟩
          · skip
            have d32 : ((99) : Int) < (v3.toInt) := ci_lt rfl rfl c31
            refine ⟨Or.inl rfl, ?_⟩
            intro o33
            refine ⟨fun c34 => ?_, fun c34 => ?_⟩
            · exact absurd c34 (by decide)
            · skip
              refine w_X11_deny ?_
              have hB35 : Bd (uI I 1 0 5) := Bd.o0 hB0 (show isO 112 1 11 = true from rfl) (by omega) (show bnd 11 0 = none from rfl)
              refine ⟨Or.inl rfl, ?_⟩
              intro o36
              refine ⟨Or.inl rfl, ?_⟩
              exact hQ _ _ _ _ hB35 ⟨hJ0, (by have q0 : (0 : Int32).toInt = 0 := rfl; omega)⟩
          · skip
            have d37 : ((v3.toInt) : Int) ≤ (99) := ci_nlt rfl rfl c31
            refine ⟨fun c38 => ?_, fun c38 => ?_⟩
            · skip
              have d39 : ((v4.toInt) : Int) < (1) := ci_lt rfl rfl c38
              refine ⟨Or.inl rfl, ?_⟩
              intro o40
              refine ⟨fun c41 => ?_, fun c41 => ?_⟩
              · exact absurd c41 (by decide)
              · skip
                refine w_X11_deny ?_
                have hB42 : Bd (uI I 1 0 5) := Bd.o0 hB0 (show isO 112 1 11 = true from rfl) (by omega) (show bnd 11 0 = none from rfl)
                refine ⟨Or.inl rfl, ?_⟩
                intro o43
                refine ⟨Or.inl rfl, ?_⟩
                exact hQ _ _ _ _ hB42 ⟨hJ0, (by have q0 : (0 : Int32).toInt = 0 := rfl; omega)⟩
            · skip
              have d44 : ((1) : Int) ≤ (v4.toInt) := ci_nlt rfl rfl c38
              refine ⟨fun c45 => ?_, fun c45 => ?_⟩
              · skip
                have d46 : ((30) : Int) < (v4.toInt) := ci_lt rfl rfl c45
                refine ⟨Or.inl rfl, ?_⟩
                intro o47
                refine ⟨fun c48 => ?_, fun c48 => ?_⟩
                · exact absurd c48 (by decide)
                · skip
                  refine w_X11_deny ?_
                  have hB49 : Bd (uI I 1 0 5) := Bd.o0 hB0 (show isO 112 1 11 = true from rfl) (by omega) (show bnd 11 0 = none from rfl)
                  refine ⟨Or.inl rfl, ?_⟩
                  intro o50
                  refine ⟨Or.inl rfl, ?_⟩
                  exact hQ _ _ _ _ hB49 ⟨hJ0, (by have q0 : (0 : Int32).toInt = 0 := rfl; omega)⟩
              · skip
                have d51 : ((v4.toInt) : Int) ≤ (30) := ci_nlt rfl rfl c45
                refine ⟨Or.inr rfl, ?_⟩
                intro o52
                refine ⟨fun c53 => ?_, fun c53 => ?_⟩
                · skip
                  refine kpp rfl (sp_J6_bitCount_0f7a4 hB0 hR0 (fun x54 y59 I55 J56 hB57 p58 eI2 eJ2 eR2 => ?_))
                  subst eJ2
                  obtain ⟨heI55, p58⟩ := p58
                  subst heI55
                  have i60 := i32 x54
                  refine ⟨fun c61 => ?_, fun c61 => ?_⟩
                  · skip
                    have d62 : ((v2.toInt) : Int) ≤ (x54.toInt) := ci_le rfl rfl c61
                    refine px_lay hB0 (by omega) (by omega) hJ0 (fun I64 J65 n hB66 hn hsz hmb hJ => ?_)
                    have hz : J65 47 0 = 0 := Int64.toInt_inj.mp (by rw [hJ 0 (Nat.pow_pos (by decide)), smN_0]; rfl)
                    refine w_X11_crumbs ?_
                    refine ⟨fun c69 => ?_, fun c69 => ?_⟩
                    · skip
                      have d70 : ((1) : Int) ≤ (v4.toInt) := ci_le rfl rfl c69
                      refine ⟨(fun z => by have z2 : (v4.toInt : Int) = 0 := cl_eq (tl_i2l rfl) rfl z; omega), ?_⟩
                      refine kpp rfl (sp_X9_countWithin hB66 hR0 (fun x71 y76 I72 J73 hB74 p75 eI3 eJ3 eR3 => ?_))
                      subst eJ3
                      refine kp6 rfl hR0 rfl (sp_X11_choices hB74 hR0 (by have z : (v2 : Int32).toInt = v2.toInt := rfl; omega) (fun x77 y82 I78 J79 hB80 p81 k6_4 => ?_))
                      refine kp6 rfl hR0 rfl (sp_X11_tell hB80 hR0 (fun x83 y88 I84 J85 hB86 p87 k6_5 => ?_))
                      intro o89
                      have i90 := i32 x83
                      refine ⟨o89, ?_⟩
                      exact hQ _ _ _ _ hB86 ⟨((congrFun k6_5 0).trans ((congrFun k6_4 0).trans hz)), (by have q0 : (x83 : Int32).toInt = x83.toInt := rfl; omega)⟩
                    · skip
                      have d91 : ((v4.toInt) : Int) < (1) := ci_nle rfl rfl c69
                      refine kpp rfl (sp_X9_countWithin hB66 hR0 (fun x92 y97 I93 J94 hB95 p96 eI6 eJ6 eR6 => ?_))
                      subst eJ6
                      refine kp6 rfl hR0 rfl (sp_X11_choices hB95 hR0 (by have z : (v2 : Int32).toInt = v2.toInt := rfl; omega) (fun x98 y103 I99 J100 hB101 p102 k6_7 => ?_))
                      refine kp6 rfl hR0 rfl (sp_X11_tell hB101 hR0 (fun x104 y109 I105 J106 hB107 p108 k6_8 => ?_))
                      intro o110
                      have i111 := i32 x104
                      refine ⟨o110, ?_⟩
                      exact hQ _ _ _ _ hB107 ⟨((congrFun k6_8 0).trans ((congrFun k6_7 0).trans hz)), (by have q0 : (x104 : Int32).toInt = x104.toInt := rfl; omega)⟩
                  · skip
                    have d112 : ((x54.toInt) : Int) < (v2.toInt) := ci_nle rfl rfl c61
                    refine w_X11_deny ?_
                    have hB113 : Bd (uI I 1 0 8) := Bd.o0 hB0 (show isO 112 1 11 = true from rfl) (by omega) (show bnd 11 0 = none from rfl)
                    refine ⟨Or.inl rfl, ?_⟩
                    intro o114
                    refine ⟨Or.inl rfl, ?_⟩
                    exact hQ _ _ _ _ hB113 ⟨hJ0, (by have q0 : (0 : Int32).toInt = 0 := rfl; omega)⟩
                · exact absurd c53 (by decide)

