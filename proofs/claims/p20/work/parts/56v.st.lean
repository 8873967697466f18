/-! ===== the set of those who have just their share: both sides ===== -/
theorem nx_m {m f : Nat} (h : f + 1 ≤ m) : nI (m - (f + 1)) + 1 = nI (m - f) := by rw [nI_k1]; exact congrArg nI (by omega)
theorem lc0 {y : Int64} {a : Int} (hy : y.toInt = a) : (lg_cmp y 0 = (0 : Int32)) ↔ a = 0 := by
  rw [lg_cmp_eq, ← Int64.toInt_inj, hy]
  exact Iff.rfl
section STM
variable {I : Im} {J : Jm} {R : Rm} {Q : Qt}
theorem px_evenMen {e o m : Nat} {s : StS9} {du : Du9} (hO : isO 112 o 0 = true) (hm : m ≤ 6) (em : I o 4 = nI m) (h : BkA o m s I) (hd : DuA o m du I) (hs : ∀ k, k < m → sh (du k).1 (du k).2) (hQ : Q (evR du s.2.1 m m 0) 0 I J R) : AM (e + 4) 12 112 [.ref o] I J R Q := by
  refine am_X0_evenMen (fun P hc => sg_X0_evenMen_0 hc _ _ _ _ ?_)
  have L : ∀ (f : Nat) (x : Int32), f ≤ m → Q (evR du s.2.1 m f x) 0 I J R → P 4 112 [(0, .ref o), (1, .int x), (2, .int (nI (m - f)))] [] I J R := by
    intro f
    induction f with
    | zero =>
      intro x _ hQ
      exact sg_X0_evenMen_4 hc _ _ _ _ _ _ (bif_t hO ⟨fun _ => hQ, fun c => absurd (show I o 4 ≤ nI (m - 0) by rw [em]; exact (nle_nI (by omega) (by omega)).mpr (by omega)) c⟩)
    | succ f ih =>
      intro x hf hQ
      have hk : (0 : Int32) ≤ nI (m - (f + 1)) ∧ nI (m - (f + 1)) < I o 4 := ⟨(nle_nI (a := 0) (by omega) (by omega)).mpr (by omega), by rw [em]; exact (nlt_nI (by omega) (by omega)).mpr (by omega)⟩
      have hm6 : (I o 4).toInt = (m : Int) ∧ m ≤ 6 := ⟨by rw [em, nI_toInt (by omega)], hm⟩
      have en : nn9 (nI (m - (f + 1))) = m - (f + 1) := tn_nI (by omega)
      have hQ2 : Q (evR du s.2.1 m f (if lk9 du s.2.1 (m - (f + 1)) = 0 then x ||| ((1 : Int32) <<< (nI (m - (f + 1)) &&& 31)) else x)) 0 I J R := hQ
      refine sg_X0_evenMen_4 hc _ _ _ _ _ _ (bif_t hO ⟨fun c => ?_, fun _ => bif_t hO (px_lacking hO hk hm6 h hd (by rw [en]; exact hs _ (by omega)) (fun y hy => ?_))⟩)
      · rw [em] at c
        exact absurd ((nle_nI (by omega) (by omega)).mp c) (by omega)
      · rw [en] at hy
        rw [nx_m hf]
        refine ⟨fun c => ih _ (by omega) ?_, fun c => ih _ (by omega) ?_⟩
        · rw [if_neg (fun z => c ((lc0 hy).mpr z))] at hQ2
          exact hQ2
        · rw [if_pos ((lc0 hy).mp c)] at hQ2
          exact hQ2
  have k := L m 0 (Nat.le_refl _) hQ
  rw [Nat.sub_self] at k
  exact k
theorem px_evenOnes {e m : Nat} {s : StS9} {du : Du9} (hm : m ≤ 6) (em : I 102 0 = nI m) (h : BkR m s I) (hh : ∀ k, k < m → 0 ≤ (s.2.1 k).toInt) (hd : DuR m du I) (hs : ∀ k, k < m → sh (du k).1 (du k).2) (hQ : Q (evR du s.2.1 m m 0) 0 I J R) : AM (e + 4) 247 112 [.ref 97] I J R Q := by
  have t0 : Int32.toNatClampNeg 0 = 0 := rfl
  refine am_X12_evenOnes (fun P hc => sg_X12_evenOnes_0 hc _ _ _ ?_)
  have L : ∀ (f : Nat) (x : Int32), f ≤ m → Q (evR du s.2.1 m f x) 0 I J R → P 4 112 [(0, .ref 97), (1, .int x), (2, .int (nI (m - f)))] [] I J R := by
    intro f
    induction f with
    | zero =>
      intro x _ hQ
      refine sg_X12_evenOnes_4 hc _ _ _ _ _ ⟨vp_of (a := 0) rfl (by decide) (by decide), fun _ => hQ, fun c => ?_⟩
      rw [t0, em] at c
      exact absurd ((nle_nI (by omega) (by omega)).mpr (by omega)) c
    | succ f ih =>
      intro x hf hQ
      have hk : (0 : Int32) ≤ nI (m - (f + 1)) ∧ nI (m - (f + 1)) < nI m := ⟨(nle_nI (a := 0) (by omega) (by omega)).mpr (by omega), (nlt_nI (by omega) (by omega)).mpr (by omega)⟩
      have hm6 : (nI m).toInt = (m : Int) ∧ m ≤ 6 := ⟨nI_toInt (by omega), hm⟩
      have en : nn9 (nI (m - (f + 1))) = m - (f + 1) := tn_nI (by omega)
      have hQ2 : Q (evR du s.2.1 m f (if lk9 du s.2.1 (m - (f + 1)) = 0 then x ||| ((1 : Int32) <<< (nI (m - (f + 1)) &&& 31)) else x)) 0 I J R := hQ
      refine sg_X12_evenOnes_4 hc _ _ _ _ _ ⟨vp_of (a := 0) rfl (by decide) (by decide), fun c => ?_, fun _ => px_lackOf hk hm6 h (by rw [en]; exact hh _ (by omega)) hd (by rw [en]; exact hs _ (by omega)) (fun y hy => ?_)⟩
      · rw [t0, em] at c
        exact absurd ((nle_nI (by omega) (by omega)).mp c) (by omega)
      · rw [en] at hy
        rw [nx_m hf]
        refine ⟨fun c => ?_, fun c => ih _ (by omega) ?_⟩
        · rw [Int32.or_zero]
          rw [if_neg (fun z => c ((lc0 hy).mpr z))] at hQ2
          exact ih _ (by omega) hQ2
        · rw [if_pos ((lc0 hy).mp c)] at hQ2
          exact hQ2
  have k := L m 0 (Nat.le_refl _) hQ
  rw [Nat.sub_self] at k
  exact k
end STM
