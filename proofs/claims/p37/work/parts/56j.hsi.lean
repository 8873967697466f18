section PT13x9
theorem StB.give {M : Nat} {m k d : Int32} {s : StS9} (h : StB M s) : StB M (opGive m k d s).2 := by
  unfold opGive
  split
  · rename_i hq
    obtain ⟨hk, hd⟩ := hq
    split
    · rename_i hc
      have nd := (sq_nn hd).2
      have hD := h.1 _ nd.1 nd.2
      have hD1 : ¬ (s.1 (nn9 d)).toInt < 1 := fun z => hc.1 (Int32.lt_iff_toInt_lt.mpr z)
      refine ⟨fun j j1 j2 => ?_, fun i hi => ?_⟩
      · have hj := h.1 j j1 j2
        have e := ups9 (f := s.1) (k := nn9 d) (j := j) (by omega)
        show 0 ≤ (upd s.1 (nn9 d) (s.1 (nn9 d) - 1) j).toInt ∧ (upd s.1 (nn9 d) (s.1 (nn9 d) - 1) j).toInt ≤ 99
        rw [e]
        by_cases q : j = nn9 d
        · rw [if_pos q]
          rw [← q] at hD1
          omega
        · rw [if_neg q]
          omega
      · show 0 ≤ (upd s.2.1 (nn9 k) (s.2.1 (nn9 k) ||| biS d) i).toInt ∧ (upd s.2.1 (nn9 k) (s.2.1 (nn9 k) ||| biS d) i).toInt ≤ 1073741823
        by_cases q : i = nn9 k
        · subst q
          rw [upd_at9]
          have hh := h.2 _ hi
          have := bi_in (s := s.2.1 (nn9 k)) (d := d) ⟨hh.1, by omega⟩ hd.1 hd.2
          omega
        · rw [upd_ne9 q]
          exact h.2 i hi
    · exact h
  · exact h
theorem StB.take {M : Nat} {m k d : Int32} {s : StS9} (h : StB M s) : StB M (opTake m k d s).2 := by
  unfold opTake
  split
  · rename_i hq
    obtain ⟨hk, hd⟩ := hq
    split
    · rename_i h9
      split
      · have nd := (sq_nn hd).2
        have hD := h.1 _ nd.1 nd.2
        have hD1 : (s.1 (nn9 d)).toInt < 99 := Int32.lt_iff_toInt_lt.mp h9
        refine ⟨fun j j1 j2 => ?_, fun i hi => ?_⟩
        · have hj := h.1 j j1 j2
          have e := upa9 (f := s.1) (k := nn9 d) (j := j) (v := 1) (by omega) (by decide)
          show 0 ≤ (upd s.1 (nn9 d) (s.1 (nn9 d) + 1) j).toInt ∧ (upd s.1 (nn9 d) (s.1 (nn9 d) + 1) j).toInt ≤ 99
          rw [e, i1]
          by_cases q : j = nn9 d
          · rw [if_pos q]
            rw [← q] at hD1
            omega
          · rw [if_neg q]
            omega
        · show 0 ≤ (upd s.2.1 (nn9 k) (s.2.1 (nn9 k) &&& (biS d ^^^ (-1))) i).toInt ∧ (upd s.2.1 (nn9 k) (s.2.1 (nn9 k) &&& (biS d ^^^ (-1))) i).toInt ≤ 1073741823
          by_cases q : i = nn9 k
          · subst q
            rw [upd_at9]
            have hh := h.2 _ hi
            have := and_b9 (h := s.2.1 (nn9 k)) (m := biS d ^^^ (-1)) hh.1
            omega
          · rw [upd_ne9 q]
            exact h.2 i hi
      · exact h
    · exact h
  · exact h
end PT13x9
section PT13x10
/-! ===== what a man lacks; who has his share: both sides ===== -/
/-- the shares, by man -/
noncomputable abbrev Du9 : Type := Nat → Int32 × Int32
noncomputable def DuA (o M : Nat) (du : Du9) (I : Im) : Prop := ∀ k, k < M → I (o + 3) k = (du k).1 ∧ I (o + 4) k = (du k).2
noncomputable def DuR (M : Nat) (du : Du9) (I : Im) : Prop := ∀ k, k < M → I 102 (34 + k) = (du k).1 ∧ I 102 (40 + k) = (du k).2
noncomputable def lk9 (du : Du9) (hv : Nat → Int32) (k : Nat) : Int := shL (du k).1 (du k).2 - hvR (hv k) 30 0
theorem hvR_b {h : Int32} : ∀ (f : Nat) (a : Int), f ≤ 30 → 0 ≤ a → 0 ≤ hvR h f a ∧ hvR h f a ≤ a + (f : Int) * 2329089562800 := by
  intro f
  induction f with
  | zero => intro a _ ha; exact ⟨ha, by show a ≤ _; omega⟩
  | succ f ih =>
    intro a hf ha
    obtain ⟨p1, p2, -⟩ := pt_b (d := 30 - f) (by omega) (by omega)
    show 0 ≤ hvR h f (if inS h (nI (30 - f)) = true then a + pt (30 - f) else a) ∧ hvR h f (if inS h (nI (30 - f)) = true then a + pt (30 - f) else a) ≤ a + ((f + 1 : Nat) : Int) * 2329089562800
    split
    · have := ih (a + pt (30 - f)) (by omega) (by omega)
      omega
    · have := ih a (by omega) ha
      omega
theorem lk_tl {x y : Int64} {du : Du9} {hv : Nat → Int32} {k : Nat} (hs : sh (du k).1 (du k).2) (hx : x.toInt = shL (du k).1 (du k).2) (hy : y.toInt = hvR (hv k) 30 0) : (x - y).toInt = lk9 du hv k := by
  have b1 := shL_b hs
  have b2 := hvR_b (h := hv k) 30 0 (by decide) (by decide)
  exact tl_sub hx hy (by omega)
section STL
variable {M : Nat} {I : Im} {J : Jm} {R : Rm} {Q : Qt}
theorem px_lacking {e o : Nat} {k : Int32} {s : StS9} {du : Du9} (hO : isO 112 o 0 = true) (hk : (0 : Int32) ≤ k ∧ k < I o 4) (hm : (I o 4).toInt = (M : Int) ∧ M ≤ 6) (h : BkA o M s I) (hd : DuA o M du I) (hs : sh (du (nn9 k)).1 (du (nn9 k)).2) (hQ : ∀ y : Int64, y.toInt = lk9 du s.2.1 (nn9 k) → Q 0 y I J R) : AM (e + 3) 11 112 [.ref o, .int k] I J R Q := by
  obtain ⟨a3, l3, -⟩ := fa_0_6 hO
  obtain ⟨a4, l4, -⟩ := fa_0_7 hO
  obtain ⟨nk, vk⟩ := mn_nn hk hm
  obtain ⟨d1, d2⟩ := hd _ nk
  have v3 := vk
  have v4 := vk
  rw [← l3] at v3
  rw [← l4] at v4
  refine w_X0_lacking (bif_t hO (bif_t a3 ⟨v3, bif_t hO (bif_t a4 ⟨v4, ?_⟩)⟩))
  rw [d1, d2]
  exact px_crumbs hs (fun x hx => bif_t hO (px_holding hO hk hm h (fun y hy => hQ _ (lk_tl hs hx hy))))
theorem px_lackOf {e : Nat} {k m : Int32} {s : StS9} {du : Du9} (hk : (0 : Int32) ≤ k ∧ k < m) (hm : m.toInt = (M : Int) ∧ M ≤ 6) (h : BkR M s I) (hh : 0 ≤ (s.2.1 (nn9 k)).toInt) (hd : DuR M du I) (hs : sh (du (nn9 k)).1 (du (nn9 k)).2) (hQ : ∀ y : Int64, y.toInt = lk9 du s.2.1 (nn9 k) → Q 0 y I J R) : AM (e + 3) 244 112 [.ref 97, .int k] I J R Q := by
  obtain ⟨ik, vk, nk⟩ := ix_hv hk hm
  obtain ⟨d1, d2⟩ := hd _ nk
  have kn := nk
  obtain ⟨h1, h2⟩ := hk
  rw [le_i, show (0 : Int32).toInt = 0 from rfl] at h1
  rw [Int32.lt_iff_toInt_lt] at h2
  have e4 : nn9 k = k.toInt.toNat := rfl
  have e34 : (34 + k : Int32).toInt = 34 + k.toInt := ti_add (show (34 : Int32).toInt = 34 from rfl) rfl (by omega)
  have e40 : (40 + k : Int32).toInt = 40 + k.toInt := ti_add (show (40 : Int32).toInt = 40 from rfl) rfl (by omega)
  have i34 : Int32.toNatClampNeg (34 + k) = 34 + nn9 k := by
    have e3 : Int32.toNatClampNeg (34 + k) = (34 + k : Int32).toInt.toNat := rfl
    rw [e3, e34]; omega
  have i40 : Int32.toNatClampNeg (40 + k) = 40 + nn9 k := by
    have e3 : Int32.toNatClampNeg (40 + k) = (40 + k : Int32).toInt.toNat := rfl
    rw [e3, e40]; omega
  refine w_X12_lackOf ⟨vp_of e34 (by omega) (by omega), vp_of e40 (by omega) (by omega), ?_⟩
  rw [i34, i40, d1, d2]
  refine px_shareOf hs (fun x hx => ⟨vk, ?_⟩)
  rw [ik, h.2.1 _ nk]
  exact px_sumOf hh (fun y hy => hQ _ (lk_tl hs hx hy))
end STL
end PT13x10
section PT13x11
/-! ===== both sides' stores and shares at once: HS9 o M s s2: the reference holds s, the class s2 ===== -/
noncomputable def HS9 (o M : Nat) (s s2 : StS9) (du : Du9) (I : Im) : Prop := BkA o M s2 I ∧ BkR M s I ∧ StB M s ∧ StB M s2 ∧ DuA o M du I ∧ DuR M du I ∧ M ≤ 6
section STF
variable {I I2 : Im} {J J2 : Jm} {o M : Nat} {s s2 : StS9} {du : Du9}
theorem BkR.frC (ho : o = 9 ∨ o = 15) (h : BkR M s I) (hF : FrCk o I J I2 J2) : BkR M s I2 := by
  have e : I2 102 = I 102 := hF.c (fun k q => by rcases q with (q | q | q) | q <;> omega)
  unfold BkR
  rw [e]
  exact h
theorem BkA.frM (ho : o = 9 ∨ o = 15) (h : BkA o M s I) (hF : FrMk I J I2 J2) : BkA o M s I2 := by
  have e1 : I2 (o + 1) = I (o + 1) := hF.c (fun k q => by rcases q with q | q <;> omega)
  have e5 : I2 (o + 5) = I (o + 5) := hF.c (fun k q => by rcases q with q | q <;> omega)
  have e0 : I2 o = I o := hF.c (fun k q => by rcases q with q | q <;> omega)
  unfold BkA
  rw [e1, e5, e0]
  exact h
theorem DuA.frC (ho : o = 9 ∨ o = 15) (h : DuA o M du I) (hF : FrCk o I J I2 J2) : DuA o M du I2 := by
  have e3 : I2 (o + 3) = I (o + 3) := hF.c (fun k q => by rcases q with (q | q | q) | q <;> omega)
  have e4 : I2 (o + 4) = I (o + 4) := hF.c (fun k q => by rcases q with (q | q | q) | q <;> omega)
  unfold DuA
  rw [e3, e4]
  exact h
theorem DuA.frM (ho : o = 9 ∨ o = 15) (h : DuA o M du I) (hF : FrMk I J I2 J2) : DuA o M du I2 := by
  have e3 : I2 (o + 3) = I (o + 3) := hF.c (fun k q => by rcases q with q | q <;> omega)
  have e4 : I2 (o + 4) = I (o + 4) := hF.c (fun k q => by rcases q with q | q <;> omega)
  unfold DuA
  rw [e3, e4]
  exact h
theorem DuR.frC (ho : o = 9 ∨ o = 15) (h : DuR M du I) (hF : FrCk o I J I2 J2) : DuR M du I2 := by
  have e : I2 102 = I 102 := hF.c (fun k q => by rcases q with (q | q | q) | q <;> omega)
  unfold DuR
  rw [e]
  exact h
theorem DuR.frM (hM : M ≤ 6) (h : DuR M du I) (hF : FrMk I J I2 J2) : DuR M du I2 := fun k hk =>
  ⟨(hF.1 102 (34 + k) (fun q => by rcases q with q | q <;> omega)).trans (h k hk).1, (hF.1 102 (40 + k) (fun q => by rcases q with q | q <;> omega)).trans (h k hk).2⟩
theorem HS9.cl {s3 : StS9} (ho : o = 9 ∨ o = 15) (h : HS9 o M s s2 du I) (hA : BkA o M s3 I2) (hB : StB M s3) (hF : FrCk o I J I2 J2) : HS9 o M s s3 du I2 :=
  ⟨hA, h.2.1.frC ho hF, h.2.2.1, hB, h.2.2.2.2.1.frC ho hF, h.2.2.2.2.2.1.frC ho hF, h.2.2.2.2.2.2⟩
theorem HS9.mf {s3 : StS9} (ho : o = 9 ∨ o = 15) (h : HS9 o M s s2 du I) (hA : BkR M s3 I2) (hB : StB M s3) (hF : FrMk I J I2 J2) : HS9 o M s3 s2 du I2 :=
  ⟨h.1.frM ho hF, hA, hB, h.2.2.2.1, h.2.2.2.2.1.frM ho hF, h.2.2.2.2.2.1.frM h.2.2.2.2.2.2 hF, h.2.2.2.2.2.2⟩
end STF
end PT13x11
section PT13x12
/-! ===== the law's calls: bake, cut, split, give, take ===== -/
section STX
variable {I : Im} {J : Jm} {R : Rm} {o M : Nat} {s : StS9} {du : Du9}
theorem cx_bake9 {e : Nat} {n : Int32} (hR : RI R) (h : HS9 (R 1 7) M s s du I) : AM (e + 3) 118 112 [.ref 1, .int n] I J R (fun x _ I2 J2 _ => x = anX (opAdd n s).1 ((opAdd n s).2.1 1) ∧ HS9 (R 1 7) M s (opAdd n s).2 du I2 ∧ FrCk (R 1 7) I J I2 J2) :=
  px_cBake hR h.1 (fun _ h2 hF => ⟨rfl, h.cl (now_9 hR) h2 h.2.2.1.add hF, hF⟩)
theorem mx_bake9 {e : Nat} {n : Int32} (ho : o = 9 ∨ o = 15) (h : HS9 o M s (opAdd n s).2 du I) : AM (e + 2) 262 112 [.ref 97, .int n] I J R (fun x _ I2 J2 _ => x = anX (opAdd n s).1 ((opAdd n s).2.1 1) ∧ HS9 o M (opAdd n s).2 (opAdd n s).2 du I2 ∧ FrMk I J I2 J2) :=
  px_mBake h.2.1 (fun _ h2 hF => ⟨rfl, h.mf ho h2 h.2.2.2.1 hF, hF⟩)
end STX
end PT13x12
