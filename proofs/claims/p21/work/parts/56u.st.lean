/-! ===== what a man lacks; who has his share: both sides ===== -/
/-- the shares, by man -/
noncomputable abbrev Du9 : Type := Nat → Int32 × Int32
noncomputable def DuA (o M : Nat) (du : Du9) (I : Im) : Prop := ∀ k, k < M → I (o + 3) k = (du k).1 ∧ I (o + 4) k = (du k).2
noncomputable def DuR (M : Nat) (du : Du9) (I : Im) : Prop := ∀ k, k < M → I 102 (34 + k) = (du k).1 ∧ I 102 (40 + k) = (du k).2
noncomputable def lk9 (du : Du9) (hv : Nat → Int32) (k : Nat) : Int := shL (du k).1 (du k).2 - hvR (hv k) 30 0
theorem hvR_b {h : Int32} : ∀ (f : Nat) (a : Int), f ≤ 30 → 0 ≤ a → 0 ≤ hvR h f a ∧ hvR h f a ≤ a + (f : Int) * 2329089562800 := by
  intro f
  induction f with
  | zero => intro a _ ha; exact ⟨ha, by show a ≤ _; omega⟩
  | succ f ih =>
    intro a hf ha
    obtain ⟨p1, p2, -⟩ := pt_b (d := 30 - f) (by omega) (by omega)
    show 0 ≤ hvR h f (if inS h (nI (30 - f)) = true then a + pt (30 - f) else a) ∧ hvR h f (if inS h (nI (30 - f)) = true then a + pt (30 - f) else a) ≤ a + ((f + 1 : Nat) : Int) * 2329089562800
    split
    · have := ih (a + pt (30 - f)) (by omega) (by omega)
      omega
    · have := ih a (by omega) ha
      omega
theorem lk_tl {x y : Int64} {du : Du9} {hv : Nat → Int32} {k : Nat} (hs : sh (du k).1 (du k).2) (hx : x.toInt = shL (du k).1 (du k).2) (hy : y.toInt = hvR (hv k) 30 0) : (x - y).toInt = lk9 du hv k := by
  have b1 := shL_b hs
  have b2 := hvR_b (h := hv k) 30 0 (by decide) (by decide)
  exact tl_sub hx hy (by omega)
section STL
variable {M : Nat} {I : Im} {J : Jm} {R : Rm} {Q : Qt}
theorem px_lacking {e o : Nat} {k : Int32} {s : StS9} {du : Du9} (hO : isO 112 o 0 = true) (hk : (0 : Int32) ≤ k ∧ k < I o 4) (hm : (I o 4).toInt = (M : Int) ∧ M ≤ 6) (h : BkA o M s I) (hd : DuA o M du I) (hs : sh (du (nn9 k)).1 (du (nn9 k)).2) (hQ : ∀ y : Int64, y.toInt = lk9 du s.2.1 (nn9 k) → Q 0 y I J R) : AM (e + 3) 11 112 [.ref o, .int k] I J R Q := by
  obtain ⟨a3, l3, -⟩ := fa_0_6 hO
  obtain ⟨a4, l4, -⟩ := fa_0_7 hO
  obtain ⟨nk, vk⟩ := mn_nn hk hm
  obtain ⟨d1, d2⟩ := hd _ nk
  have v3 := vk
  have v4 := vk
  rw [← l3] at v3
  rw [← l4] at v4
  refine w_X0_lacking (bif_t hO (bif_t a3 ⟨v3, bif_t hO (bif_t a4 ⟨v4, ?_⟩)⟩))
  rw [d1, d2]
  exact px_crumbs hs (fun x hx => bif_t hO (px_holding hO hk hm h (fun y hy => hQ _ (lk_tl hs hx hy))))
theorem px_lackOf {e : Nat} {k m : Int32} {s : StS9} {du : Du9} (hk : (0 : Int32) ≤ k ∧ k < m) (hm : m.toInt = (M : Int) ∧ M ≤ 6) (h : BkR M s I) (hh : 0 ≤ (s.2.1 (nn9 k)).toInt) (hd : DuR M du I) (hs : sh (du (nn9 k)).1 (du (nn9 k)).2) (hQ : ∀ y : Int64, y.toInt = lk9 du s.2.1 (nn9 k) → Q 0 y I J R) : AM (e + 3) 244 112 [.ref 97, .int k] I J R Q := by
  obtain ⟨ik, vk, nk⟩ := ix_hv hk hm
  obtain ⟨d1, d2⟩ := hd _ nk
  have kn := nk
  obtain ⟨h1, h2⟩ := hk
  rw [le_i, show (0 : Int32).toInt = 0 from rfl] at h1
  rw [Int32.lt_iff_toInt_lt] at h2
  have e4 : nn9 k = k.toInt.toNat := rfl
  have e34 : (34 + k : Int32).toInt = 34 + k.toInt := ti_add (show (34 : Int32).toInt = 34 from rfl) rfl (by omega)
  have e40 : (40 + k : Int32).toInt = 40 + k.toInt := ti_add (show (40 : Int32).toInt = 40 from rfl) rfl (by omega)
  have i34 : Int32.toNatClampNeg (34 + k) = 34 + nn9 k := by
    have e3 : Int32.toNatClampNeg (34 + k) = (34 + k : Int32).toInt.toNat := rfl
    rw [e3, e34]; omega
  have i40 : Int32.toNatClampNeg (40 + k) = 40 + nn9 k := by
    have e3 : Int32.toNatClampNeg (40 + k) = (40 + k : Int32).toInt.toNat := rfl
    rw [e3, e40]; omega
  refine w_X12_lackOf ⟨vp_of e34 (by omega) (by omega), vp_of e40 (by omega) (by omega), ?_⟩
  rw [i34, i40, d1, d2]
  refine px_shareOf hs (fun x hx => ⟨vk, ?_⟩)
  rw [ik, h.2.1 _ nk]
  exact px_sumOf hh (fun y hy => hQ _ (lk_tl hs hx hy))
end STL
