/-! ===== days(): what it answers ===== -/
def dyX (T : Nat → Int32) (n : Nat) (N : Nat → Int64) (m : Nat) : Int32 := match dyB T n N m (n + 1) ds0 0 with
  | .error _ => -1
  | .ok p => nI (dN p.1)
def DyH (f : Nat) (T : Nat → Int32) (N : Nat → Int64) (m : Nat) (v x : Int32) : Prop := ((v < 0 ∨ nI f < v ∨ 300 < v) ∧ x = -1) ∨ ∃ n, n ≤ f ∧ n ≤ 300 ∧ v = nI n ∧ x = dyX T n N m
theorem dy_v {v : Int32} {f : Nat} (hf : f ≤ 900) : (v < 0 ∨ nI f < v ∨ 300 < v) ∨ ∃ n, n ≤ f ∧ n ≤ 300 ∧ v = nI n := by
  by_cases q : 300 < v
  · exact Or.inl (Or.inr (Or.inr q))
  rcases sp_v (v := v) hf with z | ⟨n, hn, rfl⟩
  · exact Or.inl (z.elim Or.inl (fun y => Or.inr (Or.inl y)))
  · refine Or.inr ⟨n, hn, ?_, rfl⟩
    rcases Nat.lt_or_ge 300 n with z | z
    · exact absurd ((nlt_nI (a := 300) (by omega) (by omega)).mpr z) q
    · exact z
theorem cx_days {d m : Nat} {N : Nat → Int64} {v : Int32} {I : Im} {J : Jm} {R : Rm} (hB : Bd I) (hR : RI R) (h3 : R3 I J) (hm : MnA N m (R 1 7) I J) : AM (d + 9) 109 112 [.ref 1, .int v] I J R (fun x _ _ _ _ => DyH (fl I) (I 4) N m v x) := by
  obtain ⟨h1, h2⟩ := fl_bd hB
  rcases dy_v (v := v) h2 with q | ⟨n, hn, h300, rfl⟩
  · exact px_cdN h2 h1 q (Or.inl ⟨q, rfl⟩)
  · exact px_cdY h2 hn h300 h1 h3.2.2 hR hm (fun q I2 J2 he _ _ _ _ => Or.inr ⟨n, hn, h300, rfl, by unfold dyX; rw [he]⟩) (fun s b I2 J2 he _ _ _ _ _ _ _ _ => Or.inr ⟨n, hn, h300, rfl, by unfold dyX; rw [he]⟩)
theorem mx_days {d f m : Nat} {T : Nat → Int32} {N : Nat → Int64} {v : Int32} {I : Im} {J : Jm} {R : Rm} (h1 : I 97 8 = nI f) (h2 : f ≤ 900) (hT : Byt T) (hI : ∀ i, i < f → I 101 i = T i) (hm : MnR N m I J) : AM (d + 12) 237 112 [.ref 97, .int v] I J R (fun x _ _ _ _ => DyH f T N m v x) := by
  rcases dy_v (v := v) h2 with q | ⟨n, hn, h300, rfl⟩
  · exact px_mdN h2 h1 q (fun _ _ => Or.inl ⟨q, rfl⟩)
  · exact px_mdY h2 hn h300 h1 hT hI hm (fun q I2 J2 he _ _ _ _ => Or.inr ⟨n, hn, h300, rfl, by unfold dyX; rw [he]⟩) (fun s b I2 J2 he _ _ _ _ _ _ _ _ _ _ => Or.inr ⟨n, hn, h300, rfl, by unfold dyX; rw [he]⟩)
theorem DyH.eq {f m : Nat} {T : Nat → Int32} {N : Nat → Int64} {v x x2 : Int32} (hf : f ≤ 900) (h : DyH f T N m v x) (h2 : DyH f T N m v x2) : x2 = x := by
  have bad : ∀ n : Nat, n ≤ f → n ≤ 300 → ¬ (nI n < 0 ∨ nI f < nI n ∨ 300 < nI n) := fun n hn h3 z => by
    rcases z with q | q | q
    · exact absurd q (nI_pos (by omega))
    · have := (nlt_nI (by omega) (by omega)).mp q; omega
    · have := (nlt_nI (a := 300) (by omega) (by omega)).mp q; omega
  rcases h with ⟨a, b⟩ | ⟨n, a, a3, rfl, b⟩
  · rcases h2 with ⟨c, e⟩ | ⟨k, c, c3, rfl, e⟩
    · rw [b, e]
    · exact absurd a (bad k c c3)
  · rcases h2 with ⟨c, e⟩ | ⟨k, c, c3, ek, e⟩
    · exact absurd c (bad n a a3)
    · have := (nK (a := n) (b := k) (by omega) (by omega)).mp ek
      rw [b, e, this]
/-- the men's names, by the relation -/
theorem RM.mnA {I : Im} {J : Jm} {R : Rm} (hB : Bd I) (h : RM I J R) : MnA (J 104) (I 102 0).toInt.toNat (R 1 7) I J := by
  have b := Bd.men hB
  refine ⟨by omega, h.1.1.trans (Int32.toInt_inj.mp (by rw [nI_toInt (by omega)]; omega)), fun k hk => ?_⟩
  exact (h.1.2.2 k (by omega) (by omega)).trans (by rw [Nat.zero_add])
theorem RM.mnR {I I1 : Im} {J J1 : Jm} (hB : Bd I) (e0 : I1 102 0 = I 102 0) (e104 : J1 104 = J 104) : MnR (J 104) (I 102 0).toInt.toNat I1 J1 := by
  have b := Bd.men hB
  exact ⟨by omega, e0.trans (Int32.toInt_inj.mp (by rw [nI_toInt (by omega)]; omega)), fun k hk => by rw [e104]⟩
