section PT14x4
section RNF
variable {I0 I : Im} {J : Jm} {R : Rm} {Q : Qt} {M n : Nat} {r : Rn9} {m od : Int32} {s : DS} {du : Du9}
theorem px_all9 (hE : Ev9 s M m od du I0) : ∀ (g D : Nat) (Q : Qt) (t u a b z f n : Nat) (q : Nat → Int32) (r : Rn9) (I : Im), 2 * g + 7 ≤ D → Sq9 s g t u a b → u ≤ dN s → b ≤ dL s → In9 M I0 J n r I → I 97 41 = 0 → I 97 48 = 0 → 200 * (301 - n) + z ≤ f → KH9 s m od du M I0 J n z a b q (rn9 s m od du f a q n r) (fun I2 => Q 0 0 I2 J R) → SH9 M I0 J (rn9 s m od du f a q n r) (fun I2 => Q 0 0 I2 J R) → ∀ P : Kt, Cl (AM D) true false 0 (fun _ => 0) 0 112 kX12_doAll (fun _ => Q) P → P 2 112 [(0, .ref 97), (2, .int (nI u)), (3, .int (nI t))] [] I J R := by
  have h30 : dN s ≤ 30 := hE.2.2.2.1
  have nil : ∀ (D : Nat) (Q : Qt) (t a z f n : Nat) (q : Nat → Int32) (r : Rn9) (I : Im), t ≤ dN s → In9 M I0 J n r I → I 97 41 = 0 → I 97 48 = 0 → 200 * (301 - n) + z ≤ f → KH9 s m od du M I0 J n z a a q (rn9 s m od du f a q n r) (fun I2 => Q 0 0 I2 J R) → ∀ P : Kt, Cl (AM D) true false 0 (fun _ => 0) 0 112 kX12_doAll (fun _ => Q) P → P 2 112 [(0, .ref 97), (2, .int (nI t)), (3, .int (nI t))] [] I J R := by
    intro D Q t a z f n q r I ht hI h41 h48 hf hK P hc
    exact sg_X12_doAll_2 hc _ _ _ _ _ ⟨fun _ => hK I f q n r hI (Nat.le_refl _) h41 h48 hf (fun _ _ => rfl) rfl, fun c => absurd ((nle_nI (by omega) (by omega)).mpr (Nat.le_refl _)) c⟩
  intro g
  induction g with
  | zero =>
    intro D Q t u a b z f n q r I hD hq hu hb hI h41 h48 hf hK hS P hc
    obtain ⟨h1, h2⟩ := hq
    subst h1
    subst h2
    exact nil D Q t a z f n q r I hu hI h41 h48 hf hK P hc
  | succ g ih =>
    intro D Q t u a b z f n q r I hD hq hu hb hI h41 h48 hf hK hS P hc
    rcases hq with ⟨h1, h2⟩ | hq
    · subst h1
      subst h2
      exact nil D Q t a z f n q r I hu hI h41 h48 hf hK P hc
    have htu : t < u := by
      rcases hq with ⟨h1, -⟩ | ⟨nn, mm, h1, h2, -⟩ <;> omega
    obtain ⟨D, rfl⟩ : ∃ D', D = D' + 9 := ⟨D - 9, by omega⟩
    have hw : 54 + 9 * t + 8 < 1620 := by omega
    have ew := ew9 (t := t) (by omega)
    obtain ⟨-, -, -, -, -, -, -, t8⟩ := tn_w hw
    obtain ⟨-, -, -, -, -, -, -, v8⟩ := vp_w hw
    have gx : ∀ {n2 : Nat} {r2 : Rn9} {I2 : Im}, In9 M I0 J n2 r2 I2 → I2 102 (54 + 9 * t + 8) = nI (dNx s t) := fun h2 => (h2.i (by omega)).trans (hE.2.2.2.2 t (by omega)).1.2.2
    have stp : ∀ (k : Int32) (I3 : Im), ¬ I3 97 41 = 0 → Q 0 0 I3 J R → P 2 112 [(0, .ref 97), (2, .int (nI u)), (3, .int k)] [] I3 J R := fun k I3 hs3 hQ3 => sg_X12_doAll_2 hc _ _ _ _ _ ⟨fun _ => hQ3, fun _ => ⟨fun _ => hQ3, fun c => absurd c hs3⟩⟩
    refine sg_X12_doAll_2 hc _ _ _ _ _ ⟨fun c => absurd ((nle_nI (by omega) (by omega)).mp c) (by omega), fun _ => ⟨fun c => absurd h41 c, fun _ => ?_⟩⟩
    rw [ew, t8]
    rcases hq with ⟨-, es, hpl, ex, hq2⟩ | ⟨nn, mm, h1, h2, es, hbl, ex, ham, c20, eM, eM2, hqb, hq2⟩
    · have l2 := hq2.le
      refine px_one9 (z := z) (f := f) (q := q) (n := n) (r := r) hE (by omega) es (by omega) hpl hI h41 h48 hf (fun I2 f2 q2 n2 r2 hI2 hn2 k41 k48 hf2 hq3 eX => ⟨v8, ?_⟩) (fun I2 l n2 r2 hI2 hs2 hl eX => ⟨v8, stp _ I2 hs2 (hS I2 l n2 r2 hI2 hs2 hl eX)⟩)
      rw [gx hI2, ex]
      exact ih (D + 9) Q (t + 1) u (a + 1) b z f2 n2 q2 r2 I2 (by omega) hq2 hu hb hI2 k41 k48 hf2 (fun I3 f3 q3 n3 r3 hI3 hn3 j41 j48 hf3 hq4 eY => hK I3 f3 q3 n3 r3 hI3 (by omega) j41 j48 hf3 (fun k hk => (hq4 k (by omega)).trans (hq3 k hk)) (eX.trans eY)) (fun I3 l n3 r3 hI3 hs3 hl eY => hS I3 l n3 r3 hI3 hs3 hl (eX.trans eY)) P hc
    · have l1 := hqb.le
      have l2 := hq2.le
      refine px_blk9 (z := z) (f := f) (q := q) (n := n) (r := r) hE (by omega) es (by omega) hbl ex (by omega) c20 eM eM2 ham hI h41 h48 hf (fun G I2 f2 z2 n2 q2 r2 hI2 k41 k48 hf2 hK2 hS2 => ?_) (fun I2 f2 q2 n2 r2 hI2 hn2 k41 k48 hf2 hq3 eX => ⟨v8, ?_⟩) (fun I2 l n2 r2 hI2 hs2 hl eX => ⟨v8, stp _ I2 hs2 (hS I2 l n2 r2 hI2 hs2 hl eX)⟩)
      · exact am_X12_doAll (fun P2 hc2 => sg_X12_doAll_0 hc2 _ _ _ _ _ (ih (D + 7) G (t + 1) nn (a + 1) mm z2 f2 n2 q2 r2 I2 (by omega) hqb (by omega) (by omega) hI2 k41 k48 hf2 hK2 hS2 P2 hc2))
      · rw [gx hI2, ex]
        exact ih (D + 9) Q nn u (mm + 1) b z f2 n2 q2 r2 I2 (by omega) hq2 hu hb hI2 k41 k48 hf2 (fun I3 f3 q3 n3 r3 hI3 hn3 j41 j48 hf3 hq4 eY => hK I3 f3 q3 n3 r3 hI3 (by omega) j41 j48 hf3 (fun k hk => (hq4 k (by omega)).trans (hq3 k hk)) (eX.trans eY)) (fun I3 l n3 r3 hI3 hs3 hl eY => hS I3 l n3 r3 hI3 hs3 hl (eX.trans eY)) P hc
end RNF
end PT14x4
