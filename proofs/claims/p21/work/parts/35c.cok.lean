/-! ===== numbers that can be ===== -/
/-- a bakery's block: as the document's numbers go -/
noncomputable def COk (C : Nat → Int32) : Prop := (∃ m, m ≤ 6 ∧ C 0 = nI m) ∧ (0 ≤ (C 1).toInt ∧ (C 1).toInt ≤ 16) ∧ (0 ≤ (C 3).toInt ∧ (C 3).toInt < 1073741824) ∧ (∀ d, 1 ≤ d → d ≤ 30 → 0 ≤ (C (3 + d)).toInt ∧ (C (3 + d)).toInt ≤ 99) ∧ ∀ k, k < mnN C → (1 ≤ (C (34 + k)).toInt ∧ (C (34 + k)).toInt ≤ 99) ∧ (1 ≤ (C (40 + k)).toInt ∧ (C (40 + k)).toInt ≤ 30) ∧ (0 ≤ (C (46 + k)).toInt ∧ (C (46 + k)).toInt < 1073741824)
noncomputable def BOk (B : BS) : Prop := COk B.1 ∧ 0 ≤ B.2.2.2.2.toInt ∧ B.2.2.2.2.toInt < 1073741824
theorem mnN_of {C : Nat → Int32} {m : Nat} (hm : m ≤ 6) (h : C 0 = nI m) : mnN C = m := by
  unfold mnN
  rw [h, tn_nI (by omega)]
theorem COk.m {C : Nat → Int32} (h : COk C) : mnN C ≤ 6 ∧ C 0 = nI (mnN C) := by
  obtain ⟨⟨m, hm, e⟩, _⟩ := h
  rw [mnN_of hm e]
  exact ⟨hm, e⟩
theorem mnN_u {C : Nat → Int32} {j : Nat} {v : Int32} (h : ¬ j = 0) : mnN (upd C j v) = mnN C := by
  unfold mnN
  rw [upd_i (fun q => h q.symm)]
section COKU
variable {C : Nat → Int32} {v : Int32}
theorem COk.odds (h : COk C) (hv : 0 ≤ v.toInt ∧ v.toInt ≤ 16) : COk (upd C 1 v) := by
  obtain ⟨b1, b2, b3, b4, b5⟩ := h
  refine ⟨?_, ?_, ?_, fun d h1 h2 => ?_, fun k hk => ?_⟩
  · rw [upd_i (by decide)]; exact b1
  · rw [upd_s]; exact hv
  · rw [upd_i (by decide)]; exact b3
  · rw [upd_i (by omega)]; exact b4 d h1 h2
  · rw [mnN_u (by decide)] at hk
    rw [upd_i (by omega), upd_i (by omega), upd_i (by omega)]; exact b5 k hk
theorem COk.cuts (h : COk C) : COk (upd C 2 v) := by
  obtain ⟨b1, b2, b3, b4, b5⟩ := h
  refine ⟨?_, ?_, ?_, fun d h1 h2 => ?_, fun k hk => ?_⟩
  · rw [upd_i (by decide)]; exact b1
  · rw [upd_i (by decide)]; exact b2
  · rw [upd_i (by decide)]; exact b3
  · rw [upd_i (by omega)]; exact b4 d h1 h2
  · rw [mnN_u (by decide)] at hk
    rw [upd_i (by omega), upd_i (by omega), upd_i (by omega)]; exact b5 k hk
theorem COk.known (h : COk C) (hv : 0 ≤ v.toInt ∧ v.toInt < 1073741824) : COk (upd C 3 v) := by
  obtain ⟨b1, b2, b3, b4, b5⟩ := h
  refine ⟨?_, ?_, ?_, fun d h1 h2 => ?_, fun k hk => ?_⟩
  · rw [upd_i (by decide)]; exact b1
  · rw [upd_i (by decide)]; exact b2
  · rw [upd_s]; exact hv
  · rw [upd_i (by omega)]; exact b4 d h1 h2
  · rw [mnN_u (by decide)] at hk
    rw [upd_i (by omega), upd_i (by omega), upd_i (by omega)]; exact b5 k hk
theorem COk.store {d : Nat} (h : COk C) (h1 : 1 ≤ d) (h30 : d ≤ 30) (hv : 0 ≤ v.toInt ∧ v.toInt ≤ 99) : COk (upd C (3 + d) v) := by
  obtain ⟨b1, b2, b3, b4, b5⟩ := h
  refine ⟨?_, ?_, ?_, fun c h1 h2 => ?_, fun k hk => ?_⟩
  · rw [upd_i (by omega)]; exact b1
  · rw [upd_i (by omega)]; exact b2
  · rw [upd_i (by omega)]; exact b3
  · by_cases q : c = d
    · subst q; rw [upd_s]; exact hv
    · rw [upd_i (by omega)]; exact b4 c h1 h2
  · rw [mnN_u (by omega)] at hk
    rw [upd_i (by omega), upd_i (by omega), upd_i (by omega)]; exact b5 k hk
theorem COk.having {m : Nat} (h : COk C) (hm : m ≤ 5) (hv : 0 ≤ v.toInt ∧ v.toInt < 1073741824) : COk (upd C (46 + m) v) := by
  have h6 := h.m.1
  obtain ⟨b1, b2, b3, b4, b5⟩ := h
  refine ⟨?_, ?_, ?_, fun c h1 h2 => ?_, fun k hk => ?_⟩
  · rw [upd_i (by omega)]; exact b1
  · rw [upd_i (by omega)]; exact b2
  · rw [upd_i (by omega)]; exact b3
  · rw [upd_i (by omega)]; exact b4 c h1 h2
  · rw [mnN_u (by omega)] at hk
    obtain ⟨c1, c2, c3⟩ := b5 k hk
    rw [upd_i (by omega), upd_i (by omega)]
    refine ⟨c1, c2, ?_⟩
    by_cases q : k = m
    · subst q; rw [upd_s]; exact hv
    · rw [upd_i (by omega)]; exact c3
theorem COk.man {m : Nat} {p q s : Int32} (h : COk C) (hm : m ≤ 5) (e : C 0 = nI m) (hp : 1 ≤ p.toInt ∧ p.toInt ≤ 99) (hq : 1 ≤ q.toInt ∧ q.toInt ≤ 30) (hs : 0 ≤ s.toInt ∧ s.toInt < 1073741824) : COk (upd (upd (upd (upd C (34 + m) p) (40 + m) q) (46 + m) s) 0 (nI m + 1)) := by
  have e2 : mnN C = m := mnN_of (by omega) e
  have e3 : mnN (upd (upd (upd (upd C (34 + m) p) (40 + m) q) (46 + m) s) 0 (nI m + 1)) = m + 1 := mnN_of (by omega) (by rw [upd_s, nI_k1])
  obtain ⟨b1, b2, b3, b4, b5⟩ := h
  refine ⟨⟨m + 1, by omega, by rw [upd_s, nI_k1]⟩, ?_, ?_, fun c h1 h2 => ?_, fun k hk => ?_⟩
  · rw [upd_i (by omega), upd_i (by omega), upd_i (by omega), upd_i (by omega)]; exact b2
  · rw [upd_i (by omega), upd_i (by omega), upd_i (by omega), upd_i (by omega)]; exact b3
  · rw [upd_i (by omega), upd_i (by omega), upd_i (by omega), upd_i (by omega)]; exact b4 c h1 h2
  · by_cases z : k = m
    · subst z
      refine ⟨?_, ?_, ?_⟩
      · rw [upd_i (by omega), upd_i (by omega), upd_i (by omega), upd_s]; exact hp
      · rw [upd_i (by omega), upd_i (by omega), upd_s]; exact hq
      · rw [upd_i (by omega), upd_s]; exact hs
    · obtain ⟨c1, c2, c3⟩ := b5 k (by omega)
      refine ⟨?_, ?_, ?_⟩
      · rw [upd_i (by omega), upd_i (by omega), upd_i (by omega), upd_i (by omega)]; exact c1
      · rw [upd_i (by omega), upd_i (by omega), upd_i (by omega), upd_i (by omega)]; exact c2
      · rw [upd_i (by omega), upd_i (by omega), upd_i (by omega), upd_i (by omega)]; exact c3
theorem COk.em : COk emC := by
  refine ⟨⟨0, by decide, rfl⟩, by decide, by decide, fun d h1 h2 => ?_, fun k hk => ?_⟩
  · have e : emC (3 + d) = 0 := by
      unfold emC
      rw [if_neg (by omega), if_neg (by omega)]
    rw [e]; decide
  · exact absurd hk (by rw [show mnN emC = 0 from rfl]; omega)
end COKU
theorem BOk.em : BOk em0 := ⟨COk.em, by decide, by decide⟩
theorem rb_ok {α β : Type} {r : Rs α} {f : α → Nat → Rs β} {z : β × Nat} (h : rb r f = .ok z) : ∃ v b, r = .ok (v, b) ∧ f v b = .ok z := by
  cases r with
  | error x => cases h
  | ok p => exact ⟨p.1, p.2, rfl, h⟩
theorem le_i {a b : Int32} : a ≤ b ↔ a.toInt ≤ b.toInt := Int32.le_iff_toInt_le
theorem bi_in {s d : Int32} (hs : 0 ≤ s.toInt ∧ s.toInt < 1073741824) (h1 : (1 : Int32) ≤ d) (h2 : d ≤ 30) : 0 ≤ (s ||| biS d).toInt ∧ (s ||| biS d).toInt < 1073741824 := by
  rw [le_i] at h1 h2
  have e1 : (1 : Int32).toInt = 1 := rfl
  have e30 : (30 : Int32).toInt = 30 := rfl
  have hd : (d - 1).toInt = d.toInt - 1 := ti_sub rfl e1 (by omega)
  unfold biS
  rw [orI hs.1 (by omega)]
  have := or_lt (M := s.toInt.toNat) (k := (d - 1).toInt.toNat) (n := 30) (by omega) (by omega)
  rw [nI_toInt (by omega)]
  omega
theorem tn_sl {v : Int32} (h1 : (1 : Int32) ≤ v) (h2 : v ≤ 30) : 1 ≤ Int32.toNatClampNeg v ∧ Int32.toNatClampNeg v ≤ 30 ∧ v = nI (Int32.toNatClampNeg v) ∧ v.toInt = Int32.toNatClampNeg v := by
  rw [Int32.le_iff_toInt_le] at h1 h2
  have e1 : (1 : Int32).toInt = 1 := rfl
  have e30 : (30 : Int32).toInt = 30 := rfl
  have e : ((Int32.toNatClampNeg v : Nat) : Int) = v.toInt := tn_of rfl (by omega)
  refine ⟨by omega, by omega, ?_, by omega⟩
  exact Int32.toInt_inj.mp (by rw [nI_toInt (by omega)]; omega)
section TKI
variable {T : Nat → Int32} {e : Nat}
theorem tkN_in {lo hi v : Int32} {a b : Nat} (h : tkN T e lo hi a = .ok (v, b)) : lo ≤ v ∧ v ≤ hi := by
  unfold tkN at h
  split at h
  · split at h
    · cases h
    · rename_i q
      split at h
      · rename_i q2
        cases h
        refine ⟨?_, q2⟩
        rw [le_i]; rw [Int32.lt_iff_toInt_lt] at q; omega
      · cases h
  · cases h
theorem tkL_in : ∀ {f : Nat} {set s : Int32} {a b : Nat}, tkL T e f set a = .ok (s, b) → 0 ≤ set.toInt ∧ set.toInt < 1073741824 → 0 ≤ s.toInt ∧ s.toInt < 1073741824 := by
  intro f
  induction f with
  | zero => intro set s a b h hs; cases h; exact hs
  | succ f ih =>
    intro set s a b h hs
    unfold tkL at h
    split at h
    · obtain ⟨v, b2, h1, h2⟩ := rb_ok h
      split at h2
      · cases h2
      · have := tkN_in h1
        exact ih h2 (bi_in hs this.1 this.2)
    · cases h; exact hs
theorem bok_prP {B B2 : BS} {a b : Nat} (h : BOk B) (hp : prP T e B a = .ok (B2, b)) : BOk B2 := by
  have e1 : (1 : Int32).toInt = 1 := rfl
  have e0 : (0 : Int32).toInt = 0 := rfl
  have e16 : (16 : Int32).toInt = 16 := rfl
  have e30 : (30 : Int32).toInt = 30 := rfl
  have e99 : (99 : Int32).toInt = 99 := rfl
  have z0 : 0 ≤ (0 : Int32).toInt ∧ (0 : Int32).toInt < 1073741824 := by decide
  unfold prP at hp
  split at hp
  · unfold prO at hp
    split at hp
    · obtain ⟨v, b1, h1, h2⟩ := rb_ok hp
      obtain ⟨u, b2, h3, h4⟩ := rb_ok h2
      cases h4
      have hv := tkN_in h1
      rw [le_i, le_i] at hv
      exact ⟨h.1.odds (by omega), h.2⟩
    · cases hp
  · split at hp
    · unfold prS at hp
      obtain ⟨v, b1, h1, h2⟩ := rb_ok hp
      have hv := tkN_in h1
      have hb := bi_in h.2 hv.1 hv.2
      rw [le_i, le_i] at hv
      split at h2
      · cases h2
      · obtain ⟨n, b3, h3, h4⟩ := rb_ok h2
        obtain ⟨u, b4, h5, h6⟩ := rb_ok h4
        cases h6
        have e : ((Int32.toNatClampNeg v : Nat) : Int) = v.toInt := tn_of rfl (by omega)
        refine ⟨h.1.store (by omega) (by omega) ?_, hb⟩
        split at h3
        · have hn := tkN_in h3
          rw [le_i, le_i] at hn
          omega
        · cases h3; decide
    · split at hp
      · unfold prM at hp
        split at hp
        · cases hp
        · rename_i q6
          obtain ⟨w, b1, h1, h2⟩ := rb_ok hp
          split at h2
          · obtain ⟨_, b2, _, h3⟩ := rb_ok h2
            obtain ⟨p, b3, hp3, h4⟩ := rb_ok h3
            obtain ⟨_, b4, _, h5⟩ := rb_ok h4
            obtain ⟨q, b5, hq5, h6⟩ := rb_ok h5
            obtain ⟨s, b6, hs6, h7⟩ := rb_ok h6
            obtain ⟨_, b7, _, h8⟩ := rb_ok h7
            cases h8
            have hp4 := tkN_in hp3
            have hq6 := tkN_in hq5
            rw [le_i, le_i] at hp4 hq6
            have hm := h.1.m
            have hm5 : mnN B.1 ≤ 5 := by
              rcases Nat.lt_or_ge (mnN B.1) 6 with z | z
              · omega
              · exact absurd (by rw [hm.2, show mnN B.1 = 6 by omega]; rfl) q6
            refine ⟨?_, h.2⟩
            have := h.1.man (p := p) (q := q) (s := s) hm5 hm.2 (by omega) (by omega) ?_
            · rw [← hm.2] at this; exact this
            · split at hs6
              · exact tkL_in hs6 z0
              · cases hs6; exact z0
          · cases h2
      · split at hp
        · unfold prK at hp
          split at hp
          · obtain ⟨v, b1, h1, h2⟩ := rb_ok hp
            obtain ⟨u, b2, h3, h4⟩ := rb_ok h2
            cases h4
            exact ⟨h.1.known (tkL_in h1 z0), h.2⟩
          · cases hp
        · cases hp
end TKI
