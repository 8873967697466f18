/-! ===== the reference takes slices ===== -/
section ML
variable {T : Nat → Int32} {e a d : Nat} {I : Im} {J : Jm} {R : Rm} {Q : Qt}
theorem rf_sl {Q : Nat → Qt} {P : Kt} (hc : Cl (AM (d + 4)) true false 0 (fun _ => 0) 1 112 kX12_readSlices Q P) {I0 : Im} {J0 : Jm} (r : Rs Int32) (hE : ∀ p x I2 J2, r = .error p → FrM I0 J0 I2 J2 → FtM p I2 → Q 112 x 0 I2 J2 R) (hK : ∀ s b I2 J2, r = .ok (s, b) → FrM I0 J0 I2 J2 → Mr T e b I2 J2 → Q 112 s 0 I2 J2 R) :
    ∀ (f a : Nat) (set : Int32) (I : Im) (J : Jm), e < a + f → r = tkL T e f set a → 0 ≤ set.toInt ∧ set.toInt < 1073741824 → FrM I0 J0 I J → Mr T e a I J → P 2 112 [(0, .ref 97), (1, .int set)] [] I J R := by
  have bad : ∀ p (v : Int32) (I : Im) (J : Jm), r = .error p → FrM I0 J0 I J → FtM p I → P 53 112 [(0, .ref 97), (1, .int v)] [] I J R := fun p v I J he hF hf =>
    sg_X12_readSlices_53 hc _ _ _ _ (px_countB hf ⟨fun _ => sg_X12_readSlices_2 hc _ _ _ _ ⟨fun _ => hE p _ I J he hF hf, fun c => absurd c hf.ne.1⟩, fun c => absurd c hf.ne.1⟩)
  intro f
  induction f with
  | zero => intro a set I J h _ _ _ hR; have := hR.ha; omega
  | succ f ih =>
    intro a set I J hf hv hs hF h
    refine sg_X12_readSlices_2 hc _ _ _ _ ⟨fun c => absurd h.f c, fun _ => ⟨fun c => ?_, fun c => ?_⟩⟩
    · have hk : ¬ tK (tok T e a) = 2 := fun q => c ((h.k_is (n := 2) (by omega)).mpr q)
      refine hK set a I J ?_ hF h
      rw [hv]; unfold tkL; rw [if_neg hk]
    · have hk : tK (tok T e a) = 2 := (h.k_is (n := 2) (by omega)).mp c
      have hv2 : tkL T e (f + 1) set a = rb (tkN T e 1 30 a) (fun v b => if inS set v = true then .error (5, tS (tok T e a)) else tkL T e f (set ||| biS v) b) := by
        conv => lhs; unfold tkL
        rw [if_pos hk]
      rw [hv2] at hv
      have up := up_tkN (T := T) (lo := 1) (hi := 30) h.ha
      refine px_mayBe h (fun p I2 hp hF2 hf2 => ⟨fun _ => bad p _ I2 J (by rw [hv, rb_e hp]) (hF.tr hF2) hf2, fun z => absurd z hf2.ne.1⟩) (fun v b hp e17 l1 l2 hb => ⟨fun z => absurd h.f z, fun _ => ?_⟩)
      rw [rb_k hp] at hv
      rw [hp] at up
      rw [e17]
      refine px_isOf hs.1 l1 l2 (fun hi _ => ⟨fun z => absurd z (by decide), fun _ => ?_⟩) (fun hi _ => ⟨fun _ => ?_, fun z => absurd rfl z⟩)
      · rw [if_pos hi] at hv
        exact px_fail (k := 5) h (by decide) h.s (fun I3 hF3 hf3 => bad _ _ I3 J hv (hF.tr hF3) hf3)
      · rw [if_neg (by rw [hi]; decide)] at hv
        refine sg_X12_readSlices_53 hc _ _ _ _ (px_count h (fun p I2 hp2 _ _ => by rw [hp] at hp2; cases hp2) (fun v2 b2 I2 J2 hp2 _ _ hF2 h2 => ?_))
        rw [hp] at hp2
        cases hp2
        refine ⟨fun z => absurd h2.f z, fun _ => ?_⟩
        exact ih b _ I2 J2 (by have := up.1; omega) hv (bi_in hs l1 l2) (hF.tr hF2) h2
theorem px_msl (h : Mr T e a I J) (hE : ∀ p x I2 J2, tkL T e 31 0 a = .error p → FrM I J I2 J2 → FtM p I2 → Q x 0 I2 J2 R) (hK : ∀ s b I2 J2, tkL T e 31 0 a = .ok (s, b) → FrM I J I2 J2 → Mr T e b I2 J2 → Q s 0 I2 J2 R) : AM (d + 5) 219 112 [.ref 97] I J R Q := by
  have hp : pcn 0 30 = 0 := by decide +kernel
  have z0 : 0 ≤ (0 : Int32).toInt ∧ (0 : Int32).toInt < 1073741824 := by decide
  exact am_X12_readSlices (fun P hc => sg_X12_readSlices_0 hc _ _ _ (rf_sl hc _ hE hK (e + 1) a 0 I J (by omega) (tkL_f 31 (e + 1) 0 a h.ha z0 (Or.inl (by omega)) (Or.inr (by omega))) z0 FrW.rf h))
end ML
