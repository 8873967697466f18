/-! ===== the scribe's days() ===== -/
noncomputable abbrev WD (p : Nat) : Nat → Nat → Prop := fun c k => (c = 1 ∧ k = 0) ∨ c = 3 ∨ c = 7 ∨ c = 8 ∨ (p ≤ c ∧ c ≤ p + 5)
section CDY
variable {d M : Nat} {N : Nat → Int64} {I : Im} {J : Jm} {R : Rm} {Q : Qt}
theorem px_cdN {v : Int32} {f : Nat} (hf : f ≤ 900) (h1 : I 3 1 = nI f) (hv : v < 0 ∨ nI f < v ∨ 300 < v) (hQ : Q (-1) 0 (uI I 1 0 5) J R) : AM (d + 9) 109 112 [.ref 1, .int v] I J R Q := by
  refine am2_of (k := kX11_days) rfl rfl rfl rfl rfl rfl (Nat.le_of_ble_eq_true rfl) (fun P hc => sg_X11_days_0 hc _ _ _ _ ⟨fun _ => w_X11_refuse ⟨rfl, hQ⟩, fun c1 => ⟨fun _ => w_X11_refuse ⟨rfl, hQ⟩, fun c2 => ⟨fun c3 => ?_, fun _ => w_X11_refuse ⟨rfl, hQ⟩⟩⟩⟩)
  rw [h1] at c2
  rcases hv with z | z | z
  · exact absurd z c1
  · exact absurd z c2
  · exact absurd c3 (fun y => ile.mpr y z)
theorem px_cdY {n f : Nat} (hf : f ≤ 900) (hn : n ≤ f) (h3 : n ≤ 300) (h1 : I 3 1 = nI f) (hJ : ∀ k, k < 22 → J 5 k = rsv.getD k 0) (hR : RI R) (hm : MnA N M (R 1 7) I J)
    (hE : ∀ q I2 J2, dyB (I 4) n N M (n + 1) ds0 0 = .error q → FrW (WD (R 1 10)) VR I J I2 J2 → I2 3 1 = 0 → I2 3 3 = 1 → Ft q I2 → Q (-1) 0 I2 J2 R)
    (hK : ∀ s b I2 J2, dyB (I 4) n N M (n + 1) ds0 0 = .ok (s, b) → DOk s → FrW (WD (R 1 10)) VR I J I2 J2 → I2 3 1 = 0 → I2 3 3 = 1 → I2 3 12 = 0 → I2 3 13 = -1 → SDs s (R 1 10) I2 → I2 (R 1 10) 0 = 1 → Q (nI (dN s)) 0 I2 J2 (uR (uR R 1 9 (R 1 10)) 1 10 (R 1 9))) : AM (d + 9) 109 112 [.ref 1, .int (nI n)] I J R Q := by
  have hO := hR.now.1
  have ho := o_ge hO
  have hP := hR.splan.1
  have hp := p_ge hP
  have hop := op_ne hO hP
  refine am2_of (k := kX11_days) rfl rfl rfl rfl rfl rfl (Nat.le_of_ble_eq_true rfl) (fun P hc => sg_X11_days_0 hc _ _ _ _ ⟨fun c => absurd c (nI_pos (by omega)), fun _ => ⟨fun c => ?_, fun _ => ⟨fun _ => ?_, fun c => absurd ?_ c⟩⟩⟩)
  · rw [h1] at c
    have := (nlt_nI (by omega) (by omega)).mp c; omega
  · refine px_open hf hn h1 hJ (fun I2 J2 hF2 h2 h31 h33 => ⟨hR.splan.2, hR.now.2, px_intoD hP hO (by omega) ⟨hm.1, (hF2.i (by omega)).trans hm.2.1, fun k hk => (hF2.j (by intro q; have := q.1; omega)).trans (hm.2.2 k hk)⟩ h2 (fun q I3 J3 he hF3 hf3 _ => ⟨fun z => absurd rfl z, fun _ => w_X11_refuse ⟨rfl, ?_⟩⟩) (fun s b I3 J3 he hF3 hR3 hs3 h0 hD3 _ => ⟨fun _ => ⟨hR.plan.2, hR.splan.2, hR.splan.2, hR.plan.2, ?_⟩, fun z => absurd z (by decide)⟩)⟩)
    · have hFa : FrW (WD (R 1 10)) VR I J (uI I3 1 0 10) J3 := ((hF2.up (fun c k q => Or.inr (Or.inl q)) (fun _ _ q => q)).tr (hF3.up (fun c k q => q.elim (fun z => Or.inr (Or.inl z.1)) (fun z => Or.inr (Or.inr z))) (fun _ _ q => q))).u (Or.inl ⟨rfl, rfl⟩)
      refine hE q _ J3 he hFa ?_ ?_ (hf3.w_ (by decide))
      · rw [rd_ne (by decide), hF3.i (by rintro (q | q | q | q) <;> first | exact absurd q.2 (by decide) | omega)]; exact h31
      · rw [rd_ne (by decide), hF3.i (by rintro (q | q | q | q) <;> first | exact absurd q.2 (by decide) | omega)]; exact h33
    · have e9 : uR (uR R 1 9 (R 1 10)) 1 10 (R 1 9) 1 9 = R 1 10 := by rw [uR_k (by decide), uR_s]
      rw [e9]
      refine ⟨hR.splan.2, bif_t hP (w_X11_answer ⟨rfl, ?_⟩)⟩
      have hFa : FrW (WD (R 1 10)) VR I J (uI I3 1 0 0) J3 := ((hF2.up (fun c k q => Or.inr (Or.inl q)) (fun _ _ q => q)).tr (hF3.up (fun c k q => q.elim (fun z => Or.inr (Or.inl z.1)) (fun z => Or.inr (Or.inr z))) (fun _ _ q => q))).u (Or.inl ⟨rfl, rfl⟩)
      rw [hs3.1]
      refine hK s b _ J3 he hD3 hFa ?_ ?_ ?_ ?_ (hs3.cp (fun c hc => uI_ne (by omega))) ((rd_ne (by omega)).trans h0)
      · rw [rd_ne (by decide), hF3.i (by rintro (q | q | q | q) <;> first | exact absurd q.2 (by decide) | omega)]; exact h31
      · rw [rd_ne (by decide), hF3.i (by rintro (q | q | q | q) <;> first | exact absurd q.2 (by decide) | omega)]; exact h33
      · rw [rd_ne (by decide)]; exact hR3.f
      · rw [rd_ne (by decide)]; exact hR3.f13
  · exact (nle_nI (b := 300) (by omega) (by omega)).mpr h3
end CDY
