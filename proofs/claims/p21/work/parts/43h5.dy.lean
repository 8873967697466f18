/-! ===== the reference reads days: small pieces ===== -/
section RDA
variable {T : Nat → Int32} {e a d m : Nat} {N : Nat → Int64} {I : Im} {J : Jm} {R : Rm} {Q : Qt}
noncomputable def MnR (N : Nat → Int64) (m : Nat) (I : Im) (J : Jm) : Prop := m ≤ 6 ∧ I 102 0 = nI m ∧ ∀ k, k < m → J 104 k = N k
theorem MnR.fr {I2 : Im} {J2 : Jm} (h : MnR N m I J) (hF : FrM I J I2 J2) : MnR N m I2 J2 :=
  ⟨h.1, (hF.i (by intro q; have := q.1; omega)).trans h.2.1, fun k hk => (hF.j (by intro q; have := q.1; omega)).trans (h.2.2 k hk)⟩
theorem MnR.w {w : Nat} {v : Int32} (h : MnR N m I J) (hw : 1 ≤ w) : MnR N m (uI I 102 w v) J := ⟨h.1, (rd_k (by omega)).trans h.2.1, h.2.2⟩
theorem px_told (hm : MnR N m I J) (h : Mr T e a I J) (hE : ∀ q I2 J2, tkH T e N m a = .error q → FrM I J I2 J2 → FtM q I2 → Q 0 0 I2 J2 R) (hK : ∀ v b I2 J2, tkH T e N m a = .ok (v, b) → FrM I J I2 J2 → Mr T e b I2 J2 → Q v 0 I2 J2 R) : AM (d + 5) 227 112 [.ref 97, .int 0] I J R Q := by
  have hm6 := hm.1
  have eH : tkH T e N m a = rb (tkM T e a) fun w b => if nmG N w m 0 = -1 then .error (3, tS (tok T e a)) else .ok (nmG N w m 0, b) := rfl
  have eM : tkM T e a = if tI (tok T e a) = 0 then (if tW (tok T e a) = 0 then .error (mis T e a) else .ok (tW (tok T e a), tB (tok T e a))) else .error (mis T e a) := rfl
  refine am_X12_readTold (fun P hc => sg_X12_readTold_0 hc _ _ _ _ ⟨fun c => absurd h.f c, fun _ => px_isName h (fun i0 w0 _ => ⟨fun _ => ?_, fun z => absurd z (by decide)⟩) (fun hn _ => ⟨fun z => absurd rfl z, fun _ => px_amiss h (fun I2 hF hf => ?_)⟩)⟩)
  · rw [if_pos i0, if_neg w0] at eM
    have hk : tK (tok T e a) = 1 := tI_k (by rw [i0]; decide)
    have hw : J 97 19 = tW (tok T e a) := by rw [h.w hk, if_neg w0]
    rw [rb_k eM] at eH
    refine sg_X12_readTold_18 hc _ _ _ _ ⟨fun _ => px_mnamed (b := 0) (N := N) rfl rfl (by omega) hm.1 hm.2.1 (fun k hk => by rw [Nat.mul_zero, Nat.zero_add]; exact hm.2.2 k hk) hw ?_, fun c => absurd h.le.1 c⟩
    have hin := nmG_in (N := N) (w := tW (tok T e a)) m 0
    generalize nmG N (tW (tok T e a)) m 0 = x at eH hin
    rcases hin with rfl | ⟨j, -, hj, rfl⟩
    · rw [if_pos rfl] at eH
      exact ⟨fun c => absurd c (by decide), fun _ => px_fail (k := 3) h (by decide) h.s (fun I2 hF hf => px_mustB hf (hE _ I2 J eH hF hf))⟩
    · have hj6 : j < 2 ^ 31 := by have := hm.1; omega
      have nj : ¬ nI j = -1 := fun z => by
        have := congrArg Int32.toInt z
        rw [nI_toInt hj6] at this
        have e1 : (-1 : Int32).toInt = -1 := rfl
        omega
      rw [if_neg nj] at eH
      refine ⟨fun _ => px_mustY h (fun I2 J2 hF h2 => ?_), fun c => absurd ?_ c⟩
      · have ex : (if (0 : Int32) < nI j then nI j else 0) = nI j := by
          by_cases z : (0 : Int32) < nI j
          · rw [if_pos z]
          · rw [if_neg z]
            rcases Nat.eq_zero_or_pos j with y | y
            · rw [y]; rfl
            · exact absurd ((nlt_nI (a := 0) (by omega) (by omega)).mpr y) z
        rw [ex]
        exact hK _ _ I2 J2 eH hF h2
      · exact (nle_nI (a := 0) (by omega) (by omega)).mpr (by omega)
  · have e2 : tkM T e a = .error (mis T e a) := by
      rw [eM]
      by_cases z : tI (tok T e a) = 0
      · rw [if_pos z, if_pos (hn.resolve_left (fun y => y z))]
      · rw [if_neg z]
    exact sg_X12_readTold_18 hc _ _ _ _ ⟨fun c => absurd c hf.ne.2.1, fun _ => hE _ I2 J (by rw [eH]; exact rb_e e2) hF hf⟩
theorem px_toldB {q : Nat × Nat} (hf : FtM q I) (hQ : Q 0 0 I J R) : AM (d + 5) 227 112 [.ref 97, .int 0] I J R Q :=
  am_X12_readTold (fun P hc => sg_X12_readTold_0 hc _ _ _ _ ⟨fun _ => sg_X12_readTold_18 hc _ _ _ _ ⟨fun c => absurd c hf.ne.2.1, fun _ => hQ⟩, fun c => absurd c hf.ne.1⟩)
end RDA
