section PT5x0
/-! ===== a bakery's text, read ===== -/
/-- what is read, and the place behind; or the fault's kind and its place -/
noncomputable abbrev Rs (α : Type) : Type := Except (Nat × Nat) (α × Nat)
noncomputable def rb {α β : Type} (r : Rs α) (f : α → Nat → Rs β) : Rs β := match r with
  | .error x => .error x
  | .ok p => f p.1 p.2
theorem rb_e {α β : Type} {r : Rs α} {f : α → Nat → Rs β} {x : Nat × Nat} (h : r = .error x) : rb r f = .error x := by rw [h]; rfl
theorem rb_k {α β : Type} {r : Rs α} {f : α → Nat → Rs β} {v : α} {b : Nat} (h : r = .ok (v, b)) : rb r f = f v b := by rw [h]; rfl
section PRS
variable (T : Nat → Int32) (e : Nat)
noncomputable def mis (a : Nat) : Nat × Nat := (if tK (tok T e a) = 4 then 1 else 2, tS (tok T e a))
/-- a number from lo to hi -/
noncomputable def tkN (lo hi : Int32) (a : Nat) : Rs Int32 := if tK (tok T e a) = 2 then (if tV (tok T e a) < lo then .error (4, tS (tok T e a)) else if tV (tok T e a) ≤ hi then .ok (tV (tok T e a), tB (tok T e a)) else .error (4, tS (tok T e a))) else .error (mis T e a)
noncomputable def tkW (i : Int32) (a : Nat) : Rs Unit := if tI (tok T e a) = i then .ok ((), tB (tok T e a)) else .error (mis T e a)
noncomputable def tkS (a : Nat) : Rs Unit := if tK (tok T e a) = 3 then (if tV (tok T e a) = 59 then .ok ((), tB (tok T e a)) else .error (mis T e a)) else .error (mis T e a)
noncomputable def tkM (a : Nat) : Rs Int64 := if tI (tok T e a) = 0 then (if tW (tok T e a) = 0 then .error (mis T e a) else .ok (tW (tok T e a), tB (tok T e a))) else .error (mis T e a)
noncomputable def inS (set d : Int32) : Bool := !decide (set &&& ((1 : Int32) <<< ((d - 1) &&& 31)) = 0)
noncomputable def biS (d : Int32) : Int32 := (1 : Int32) <<< ((d - 1) &&& 31)
/-- slices as long as there are numbers, each once -/
noncomputable def tkL : Nat → Int32 → Nat → Rs Int32
  | 0, set, a => .ok (set, a)
  | f + 1, set, a => if tK (tok T e a) = 2 then rb (tkN T e 1 30 a) (fun v b => if inS set v = true then .error (5, tS (tok T e a)) else tkL f (set ||| biS v) b) else .ok (set, a)
/-- a bakery as the reference's block has it, the names; odds told, known told, the store's slices told -/
noncomputable abbrev BS : Type := (Nat → Int32) × (Nat → Int64) × Int32 × Int32 × Int32
/-- the first of n that has a name -/
noncomputable def nmG (N : Nat → Int64) (w : Int64) : Nat → Nat → Int32
  | 0, _ => -1
  | f + 1, k => if N k = w then nI k else nmG N w f (k + 1)
noncomputable def mnN (C : Nat → Int32) : Nat := (C 0).toNatClampNeg
noncomputable def prO (B : BS) (a : Nat) : Rs BS := if B.2.2.1 = 0 then rb (tkN T e 0 16 (tB (tok T e a))) fun v b => rb (tkS T e b) fun _ b => .ok ((upd B.1 1 v, B.2.1, 1, B.2.2.2.1, B.2.2.2.2), b) else .error (5, tS (tok T e a))
noncomputable def prS (B : BS) (a : Nat) : Rs BS := rb (tkN T e 1 30 (tB (tok T e a))) fun d b => if inS B.2.2.2.2 d = true then .error (5, tS (tok T e (tB (tok T e a)))) else
  rb (if tI (tok T e b) = 3 then tkN T e 0 99 (tB (tok T e b)) else .ok (1, b)) fun n b => rb (tkS T e b) fun _ b => .ok ((upd B.1 (3 + d.toNatClampNeg) n, B.2.1, B.2.2.1, B.2.2.2.1, B.2.2.2.2 ||| biS d), b)
noncomputable def prM (B : BS) (a : Nat) : Rs BS := if B.1 0 = 6 then .error (6, tS (tok T e a)) else
  rb (tkM T e (tB (tok T e a))) fun w b => if nmG B.2.1 w (mnN B.1) 0 = -1 then
    rb (tkW T e 5 b) fun _ b => rb (tkN T e 1 99 b) fun p b => rb (tkW T e 6 b) fun _ b => rb (tkN T e 1 30 b) fun q b =>
    rb (if tI (tok T e b) = 7 then tkL T e 31 0 (tB (tok T e b)) else .ok (0, b)) fun h b => rb (tkS T e b) fun _ b =>
    .ok ((upd (upd (upd (upd B.1 (34 + mnN B.1) p) (40 + mnN B.1) q) (46 + mnN B.1) h) 0 (B.1 0 + 1), vp_updL B.2.1 (mnN B.1) w, B.2.2), b)
  else .error (3, tS (tok T e (tB (tok T e a))))
noncomputable def prK (B : BS) (a : Nat) : Rs BS := if B.2.2.2.1 = 0 then rb (tkL T e 31 0 (tB (tok T e a))) fun s b => rb (tkS T e b) fun _ b => .ok ((upd B.1 3 s, B.2.1, B.2.2.1, 1, B.2.2.2.2), b) else .error (5, tS (tok T e a))
noncomputable def prP (B : BS) (a : Nat) : Rs BS := if tI (tok T e a) = 1 then prO T e B a else if tI (tok T e a) = 2 then prS T e B a else if tI (tok T e a) = 4 then prM T e B a else if tI (tok T e a) = 8 then prK T e B a else .error (mis T e a)
noncomputable def prB : Nat → BS → Nat → Rs BS
  | 0, B, a => .ok (B, a)
  | f + 1, B, a => if tK (tok T e a) = 0 then .ok (B, a) else rb (prP T e B a) fun B b => prB f B b
end PRS
noncomputable def emC : Nat → Int32 := fun k => if k = 1 then 4 else if k = 3 then 1073741823 else 0
noncomputable def em0 : BS := (emC, fun _ => 0, 0, 0, 0)
/-! places rise -/
noncomputable def Up {α : Type} (e a : Nat) (r : Rs α) : Prop := match r with
  | .error _ => True
  | .ok p => a ≤ p.2 ∧ p.2 ≤ e
noncomputable def Up1 {α : Type} (e a : Nat) (r : Rs α) : Prop := match r with
  | .error _ => True
  | .ok p => a < p.2 ∧ p.2 ≤ e
section UP
variable {T : Nat → Int32} {e : Nat} {a : Nat} {α β : Type}
theorem Up1.w {r : Rs α} (h : Up1 e a r) : Up e a r := by
  cases r with
  | error x => trivial
  | ok p => exact ⟨Nat.le_of_lt h.1, h.2⟩
theorem Up1.le {r : Rs α} {b : Nat} (h : Up1 e b r) (hb : a ≤ b) : Up1 e a r := by
  cases r with
  | error x => trivial
  | ok p => exact ⟨Nat.lt_of_le_of_lt hb h.1, h.2⟩
theorem Up.rb {r : Rs α} {f : α → Nat → Rs β} (h : Up e a r) (hf : ∀ v b, a ≤ b → b ≤ e → Up e b (f v b)) : Up e a (rb r f) := by
  cases r with
  | error x => trivial
  | ok p =>
    have h2 := hf p.1 p.2 h.1 h.2
    show Up e a (f p.1 p.2)
    cases q : f p.1 p.2 with
    | error x => trivial
    | ok p2 => rw [q] at h2; exact ⟨Nat.le_trans h.1 h2.1, h2.2⟩
theorem Up1.rb {r : Rs α} {f : α → Nat → Rs β} (h : Up1 e a r) (hf : ∀ v b, a ≤ b → b ≤ e → Up e b (f v b)) : Up1 e a (rb r f) := by
  cases r with
  | error x => trivial
  | ok p =>
    have h2 := hf p.1 p.2 (Nat.le_of_lt h.1) h.2
    show Up1 e a (f p.1 p.2)
    cases q : f p.1 p.2 with
    | error x => trivial
    | ok p2 => rw [q] at h2; exact ⟨Nat.lt_of_lt_of_le h.1 h2.1, h2.2⟩
theorem tB_lt (ha : a ≤ e) (hk : ¬ tK (tok T e a) = 0) : a < tB (tok T e a) ∧ tB (tok T e a) ≤ e := by
  have h1 := tok_s (T := T) ha
  have h2 := tok_b (T := T) ha
  have := h2.2.2.1 hk
  omega
theorem tB_le (ha : a ≤ e) : a ≤ tB (tok T e a) ∧ tB (tok T e a) ≤ e := by
  have h1 := tok_s (T := T) ha
  have h2 := tok_b (T := T) ha
  omega
theorem tI_k {t : Tok} (h : ¬ tI t = -1) : tK t = 1 := by
  unfold tI at h
  by_cases q : tK t = 1
  · exact q
  · rw [if_neg q] at h; exact absurd rfl h
theorem up_tkN {lo hi : Int32} (ha : a ≤ e) : Up1 e a (tkN T e lo hi a) := by
  unfold tkN
  by_cases q : tK (tok T e a) = 2
  · rw [if_pos q]
    have h := tB_lt (T := T) ha (by omega)
    split
    · trivial
    · split
      · exact h
      · trivial
  · rw [if_neg q]; trivial
theorem up_tkW {i : Int32} (hi : ¬ i = -1) (ha : a ≤ e) : Up1 e a (tkW T e i a) := by
  unfold tkW
  by_cases q : tI (tok T e a) = i
  · rw [if_pos q]
    exact tB_lt (T := T) ha (by have := tI_k (t := tok T e a) (by rw [q]; exact hi); omega)
  · rw [if_neg q]; trivial
theorem up_tkS (ha : a ≤ e) : Up1 e a (tkS T e a) := by
  unfold tkS
  by_cases q : tK (tok T e a) = 3
  · rw [if_pos q]
    split
    · exact tB_lt (T := T) ha (by omega)
    · trivial
  · rw [if_neg q]; trivial
theorem up_tkM (ha : a ≤ e) : Up1 e a (tkM T e a) := by
  unfold tkM
  by_cases q : tI (tok T e a) = 0
  · rw [if_pos q]
    split
    · trivial
    · exact tB_lt (T := T) ha (by have := tI_k (t := tok T e a) (by rw [q]; decide); omega)
  · rw [if_neg q]; trivial
theorem up_tkL : ∀ {f : Nat} {set : Int32} {a : Nat}, a ≤ e → Up e a (tkL T e f set a) := by
  intro f
  induction f with
  | zero => intro set a ha; exact ⟨Nat.le_refl _, ha⟩
  | succ f ih =>
    intro set a ha
    unfold tkL
    split
    · refine Up.rb (up_tkN ha).w (fun v b h1 h2 => ?_)
      split
      · trivial
      · exact ih h2
    · exact ⟨Nat.le_refl _, ha⟩
theorem up_prP {B : BS} (ha : a ≤ e) : Up1 e a (prP T e B a) := by
  have hk : ¬ tI (tok T e a) = -1 → a ≤ tB (tok T e a) ∧ tB (tok T e a) ≤ e := fun h => tB_le ha
  unfold prP
  split
  · rename_i q
    have h := hk (by rw [q]; decide)
    unfold prO
    split
    · exact ((up_tkN h.2).le h.1).rb (fun v b _ hb => (up_tkS hb).w.rb (fun _ b _ hb => ⟨Nat.le_refl _, hb⟩))
    · trivial
  · split
    · rename_i q
      have h := hk (by rw [q]; decide)
      unfold prS
      refine ((up_tkN h.2).le h.1).rb (fun v b _ hb => ?_)
      split
      · trivial
      · refine Up.rb ?_ (fun n b _ hb => (up_tkS hb).w.rb (fun _ b _ hb => ⟨Nat.le_refl _, hb⟩))
        split
        · have h3 := tB_le (T := T) hb
          exact ((up_tkN h3.2).le h3.1).w
        · exact ⟨Nat.le_refl _, hb⟩
    · split
      · rename_i q
        have h := hk (by rw [q]; decide)
        unfold prM
        split
        · trivial
        · refine ((up_tkM h.2).le h.1).rb (fun w b _ hb => ?_)
          split
          · refine (up_tkW (by decide) hb).w.rb (fun _ b _ hb => (up_tkN hb).w.rb (fun p b _ hb => (up_tkW (by decide) hb).w.rb (fun _ b _ hb => (up_tkN hb).w.rb (fun q b _ hb => ?_))))
            refine Up.rb ?_ (fun n b _ hb => (up_tkS hb).w.rb (fun _ b _ hb => ⟨Nat.le_refl _, hb⟩))
            split
            · have h3 := tB_le (T := T) hb
              have h4 := up_tkL (T := T) (f := 31) (set := 0) h3.2
              cases q : tkL T e 31 0 (tB (tok T e b)) with
              | error x => trivial
              | ok p => rw [q] at h4; exact ⟨Nat.le_trans h3.1 h4.1, h4.2⟩
            · exact ⟨Nat.le_refl _, hb⟩
          · trivial
      · split
        · rename_i q
          have h := hk (by rw [q]; decide)
          unfold prK
          split
          · have hlt := tB_lt (T := T) ha (by have := tI_k (t := tok T e a) (by rw [q]; decide); omega)
            have h4 := up_tkL (T := T) (f := 31) (set := 0) h.2
            refine Up1.rb (a := a) ?_ (fun s b _ hb => (up_tkS hb).w.rb (fun _ b _ hb => ⟨Nat.le_refl _, hb⟩))
            cases q : tkL T e 31 0 (tB (tok T e a)) with
            | error x => trivial
            | ok p => rw [q] at h4; exact ⟨Nat.lt_of_lt_of_le hlt.1 h4.1, h4.2⟩
          · trivial
        · trivial
end UP
end PT5x0
section PT5x1
/-! ===== numbers that can be ===== -/
/-- a bakery's block: as the document's numbers go -/
noncomputable def COk (C : Nat → Int32) : Prop := (∃ m, m ≤ 6 ∧ C 0 = nI m) ∧ (0 ≤ (C 1).toInt ∧ (C 1).toInt ≤ 16) ∧ (0 ≤ (C 3).toInt ∧ (C 3).toInt < 1073741824) ∧ (∀ d, 1 ≤ d → d ≤ 30 → 0 ≤ (C (3 + d)).toInt ∧ (C (3 + d)).toInt ≤ 99) ∧ ∀ k, k < mnN C → (1 ≤ (C (34 + k)).toInt ∧ (C (34 + k)).toInt ≤ 99) ∧ (1 ≤ (C (40 + k)).toInt ∧ (C (40 + k)).toInt ≤ 30) ∧ (0 ≤ (C (46 + k)).toInt ∧ (C (46 + k)).toInt < 1073741824)
noncomputable def BOk (B : BS) : Prop := COk B.1 ∧ 0 ≤ B.2.2.2.2.toInt ∧ B.2.2.2.2.toInt < 1073741824
theorem mnN_of {C : Nat → Int32} {m : Nat} (hm : m ≤ 6) (h : C 0 = nI m) : mnN C = m := by
  unfold mnN
  rw [h, tn_nI (by omega)]
theorem COk.m {C : Nat → Int32} (h : COk C) : mnN C ≤ 6 ∧ C 0 = nI (mnN C) := by
  obtain ⟨⟨m, hm, e⟩, _⟩ := h
  rw [mnN_of hm e]
  exact ⟨hm, e⟩
theorem mnN_u {C : Nat → Int32} {j : Nat} {v : Int32} (h : ¬ j = 0) : mnN (upd C j v) = mnN C := by
  unfold mnN
  rw [upd_i (fun q => h q.symm)]
section COKU
variable {C : Nat → Int32} {v : Int32}
theorem COk.odds (h : COk C) (hv : 0 ≤ v.toInt ∧ v.toInt ≤ 16) : COk (upd C 1 v) := by
  obtain ⟨b1, b2, b3, b4, b5⟩ := h
  refine ⟨?_, ?_, ?_, fun d h1 h2 => ?_, fun k hk => ?_⟩
  · rw [upd_i (by decide)]; exact b1
  · rw [upd_s]; exact hv
  · rw [upd_i (by decide)]; exact b3
  · rw [upd_i (by omega)]; exact b4 d h1 h2
  · rw [mnN_u (by decide)] at hk
    rw [upd_i (by omega), upd_i (by omega), upd_i (by omega)]; exact b5 k hk
theorem COk.cuts (h : COk C) : COk (upd C 2 v) := by
  obtain ⟨b1, b2, b3, b4, b5⟩ := h
  refine ⟨?_, ?_, ?_, fun d h1 h2 => ?_, fun k hk => ?_⟩
  · rw [upd_i (by decide)]; exact b1
  · rw [upd_i (by decide)]; exact b2
  · rw [upd_i (by decide)]; exact b3
  · rw [upd_i (by omega)]; exact b4 d h1 h2
  · rw [mnN_u (by decide)] at hk
    rw [upd_i (by omega), upd_i (by omega), upd_i (by omega)]; exact b5 k hk
theorem COk.known (h : COk C) (hv : 0 ≤ v.toInt ∧ v.toInt < 1073741824) : COk (upd C 3 v) := by
  obtain ⟨b1, b2, b3, b4, b5⟩ := h
  refine ⟨?_, ?_, ?_, fun d h1 h2 => ?_, fun k hk => ?_⟩
  · rw [upd_i (by decide)]; exact b1
  · rw [upd_i (by decide)]; exact b2
  · rw [upd_s]; exact hv
  · rw [upd_i (by omega)]; exact b4 d h1 h2
  · rw [mnN_u (by decide)] at hk
    rw [upd_i (by omega), upd_i (by omega), upd_i (by omega)]; exact b5 k hk
theorem COk.store {d : Nat} (h : COk C) (h1 : 1 ≤ d) (h30 : d ≤ 30) (hv : 0 ≤ v.toInt ∧ v.toInt ≤ 99) : COk (upd C (3 + d) v) := by
  obtain ⟨b1, b2, b3, b4, b5⟩ := h
  refine ⟨?_, ?_, ?_, fun c h1 h2 => ?_, fun k hk => ?_⟩
  · rw [upd_i (by omega)]; exact b1
  · rw [upd_i (by omega)]; exact b2
  · rw [upd_i (by omega)]; exact b3
  · by_cases q : c = d
    · subst q; rw [upd_s]; exact hv
    · rw [upd_i (by omega)]; exact b4 c h1 h2
  · rw [mnN_u (by omega)] at hk
    rw [upd_i (by omega), upd_i (by omega), upd_i (by omega)]; exact b5 k hk
theorem COk.having {m : Nat} (h : COk C) (hm : m ≤ 5) (hv : 0 ≤ v.toInt ∧ v.toInt < 1073741824) : COk (upd C (46 + m) v) := by
  have h6 := h.m.1
  obtain ⟨b1, b2, b3, b4, b5⟩ := h
  refine ⟨?_, ?_, ?_, fun c h1 h2 => ?_, fun k hk => ?_⟩
  · rw [upd_i (by omega)]; exact b1
  · rw [upd_i (by omega)]; exact b2
  · rw [upd_i (by omega)]; exact b3
  · rw [upd_i (by omega)]; exact b4 c h1 h2
  · rw [mnN_u (by omega)] at hk
    obtain ⟨c1, c2, c3⟩ := b5 k hk
    rw [upd_i (by omega), upd_i (by omega)]
    refine ⟨c1, c2, ?_⟩
    by_cases q : k = m
    · subst q; rw [upd_s]; exact hv
    · rw [upd_i (by omega)]; exact c3
theorem COk.man {m : Nat} {p q s : Int32} (h : COk C) (hm : m ≤ 5) (e : C 0 = nI m) (hp : 1 ≤ p.toInt ∧ p.toInt ≤ 99) (hq : 1 ≤ q.toInt ∧ q.toInt ≤ 30) (hs : 0 ≤ s.toInt ∧ s.toInt < 1073741824) : COk (upd (upd (upd (upd C (34 + m) p) (40 + m) q) (46 + m) s) 0 (nI m + 1)) := by
  have e2 : mnN C = m := mnN_of (by omega) e
  have e3 : mnN (upd (upd (upd (upd C (34 + m) p) (40 + m) q) (46 + m) s) 0 (nI m + 1)) = m + 1 := mnN_of (by omega) (by rw [upd_s, nI_k1])
  obtain ⟨b1, b2, b3, b4, b5⟩ := h
  refine ⟨⟨m + 1, by omega, by rw [upd_s, nI_k1]⟩, ?_, ?_, fun c h1 h2 => ?_, fun k hk => ?_⟩
  · rw [upd_i (by omega), upd_i (by omega), upd_i (by omega), upd_i (by omega)]; exact b2
  · rw [upd_i (by omega), upd_i (by omega), upd_i (by omega), upd_i (by omega)]; exact b3
  · rw [upd_i (by omega), upd_i (by omega), upd_i (by omega), upd_i (by omega)]; exact b4 c h1 h2
  · by_cases z : k = m
    · subst z
      refine ⟨?_, ?_, ?_⟩
      · rw [upd_i (by omega), upd_i (by omega), upd_i (by omega), upd_s]; exact hp
      · rw [upd_i (by omega), upd_i (by omega), upd_s]; exact hq
      · rw [upd_i (by omega), upd_s]; exact hs
    · obtain ⟨c1, c2, c3⟩ := b5 k (by omega)
      refine ⟨?_, ?_, ?_⟩
      · rw [upd_i (by omega), upd_i (by omega), upd_i (by omega), upd_i (by omega)]; exact c1
      · rw [upd_i (by omega), upd_i (by omega), upd_i (by omega), upd_i (by omega)]; exact c2
      · rw [upd_i (by omega), upd_i (by omega), upd_i (by omega), upd_i (by omega)]; exact c3
theorem COk.em : COk emC := by
  refine ⟨⟨0, by decide, rfl⟩, by decide, by decide, fun d h1 h2 => ?_, fun k hk => ?_⟩
  · have e : emC (3 + d) = 0 := by
      unfold emC
      rw [if_neg (by omega), if_neg (by omega)]
    rw [e]; decide
  · exact absurd hk (by rw [show mnN emC = 0 from rfl]; omega)
end COKU
theorem BOk.em : BOk em0 := ⟨COk.em, by decide, by decide⟩
theorem rb_ok {α β : Type} {r : Rs α} {f : α → Nat → Rs β} {z : β × Nat} (h : rb r f = .ok z) : ∃ v b, r = .ok (v, b) ∧ f v b = .ok z := by
  cases r with
  | error x => cases h
  | ok p => exact ⟨p.1, p.2, rfl, h⟩
theorem le_i {a b : Int32} : a ≤ b ↔ a.toInt ≤ b.toInt := Int32.le_iff_toInt_le
theorem bi_in {s d : Int32} (hs : 0 ≤ s.toInt ∧ s.toInt < 1073741824) (h1 : (1 : Int32) ≤ d) (h2 : d ≤ 30) : 0 ≤ (s ||| biS d).toInt ∧ (s ||| biS d).toInt < 1073741824 := by
  rw [le_i] at h1 h2
  have e1 : (1 : Int32).toInt = 1 := rfl
  have e30 : (30 : Int32).toInt = 30 := rfl
  have hd : (d - 1).toInt = d.toInt - 1 := ti_sub rfl e1 (by omega)
  unfold biS
  rw [orI hs.1 (by omega)]
  have := or_lt (M := s.toInt.toNat) (k := (d - 1).toInt.toNat) (n := 30) (by omega) (by omega)
  rw [nI_toInt (by omega)]
  omega
theorem tn_sl {v : Int32} (h1 : (1 : Int32) ≤ v) (h2 : v ≤ 30) : 1 ≤ Int32.toNatClampNeg v ∧ Int32.toNatClampNeg v ≤ 30 ∧ v = nI (Int32.toNatClampNeg v) ∧ v.toInt = Int32.toNatClampNeg v := by
  rw [Int32.le_iff_toInt_le] at h1 h2
  have e1 : (1 : Int32).toInt = 1 := rfl
  have e30 : (30 : Int32).toInt = 30 := rfl
  have e : ((Int32.toNatClampNeg v : Nat) : Int) = v.toInt := tn_of rfl (by omega)
  refine ⟨by omega, by omega, ?_, by omega⟩
  exact Int32.toInt_inj.mp (by rw [nI_toInt (by omega)]; omega)
section TKI
variable {T : Nat → Int32} {e : Nat}
theorem tkN_in {lo hi v : Int32} {a b : Nat} (h : tkN T e lo hi a = .ok (v, b)) : lo ≤ v ∧ v ≤ hi := by
  unfold tkN at h
  split at h
  · split at h
    · cases h
    · rename_i q
      split at h
      · rename_i q2
        cases h
        refine ⟨?_, q2⟩
        rw [le_i]; rw [Int32.lt_iff_toInt_lt] at q; omega
      · cases h
  · cases h
theorem tkL_in : ∀ {f : Nat} {set s : Int32} {a b : Nat}, tkL T e f set a = .ok (s, b) → 0 ≤ set.toInt ∧ set.toInt < 1073741824 → 0 ≤ s.toInt ∧ s.toInt < 1073741824 := by
  intro f
  induction f with
  | zero => intro set s a b h hs; cases h; exact hs
  | succ f ih =>
    intro set s a b h hs
    unfold tkL at h
    split at h
    · obtain ⟨v, b2, h1, h2⟩ := rb_ok h
      split at h2
      · cases h2
      · have := tkN_in h1
        exact ih h2 (bi_in hs this.1 this.2)
    · cases h; exact hs
theorem bok_prP {B B2 : BS} {a b : Nat} (h : BOk B) (hp : prP T e B a = .ok (B2, b)) : BOk B2 := by
  have e1 : (1 : Int32).toInt = 1 := rfl
  have e0 : (0 : Int32).toInt = 0 := rfl
  have e16 : (16 : Int32).toInt = 16 := rfl
  have e30 : (30 : Int32).toInt = 30 := rfl
  have e99 : (99 : Int32).toInt = 99 := rfl
  have z0 : 0 ≤ (0 : Int32).toInt ∧ (0 : Int32).toInt < 1073741824 := by decide
  unfold prP at hp
  split at hp
  · unfold prO at hp
    split at hp
    · obtain ⟨v, b1, h1, h2⟩ := rb_ok hp
      obtain ⟨u, b2, h3, h4⟩ := rb_ok h2
      cases h4
      have hv := tkN_in h1
      rw [le_i, le_i] at hv
      exact ⟨h.1.odds (by omega), h.2⟩
    · cases hp
  · split at hp
    · unfold prS at hp
      obtain ⟨v, b1, h1, h2⟩ := rb_ok hp
      have hv := tkN_in h1
      have hb := bi_in h.2 hv.1 hv.2
      rw [le_i, le_i] at hv
      split at h2
      · cases h2
      · obtain ⟨n, b3, h3, h4⟩ := rb_ok h2
        obtain ⟨u, b4, h5, h6⟩ := rb_ok h4
        cases h6
        have e : ((Int32.toNatClampNeg v : Nat) : Int) = v.toInt := tn_of rfl (by omega)
        refine ⟨h.1.store (by omega) (by omega) ?_, hb⟩
        split at h3
        · have hn := tkN_in h3
          rw [le_i, le_i] at hn
          omega
        · cases h3; decide
    · split at hp
      · unfold prM at hp
        split at hp
        · cases hp
        · rename_i q6
          obtain ⟨w, b1, h1, h2⟩ := rb_ok hp
          split at h2
          · obtain ⟨_, b2, _, h3⟩ := rb_ok h2
            obtain ⟨p, b3, hp3, h4⟩ := rb_ok h3
            obtain ⟨_, b4, _, h5⟩ := rb_ok h4
            obtain ⟨q, b5, hq5, h6⟩ := rb_ok h5
            obtain ⟨s, b6, hs6, h7⟩ := rb_ok h6
            obtain ⟨_, b7, _, h8⟩ := rb_ok h7
            cases h8
            have hp4 := tkN_in hp3
            have hq6 := tkN_in hq5
            rw [le_i, le_i] at hp4 hq6
            have hm := h.1.m
            have hm5 : mnN B.1 ≤ 5 := by
              rcases Nat.lt_or_ge (mnN B.1) 6 with z | z
              · omega
              · exact absurd (by rw [hm.2, show mnN B.1 = 6 by omega]; rfl) q6
            refine ⟨?_, h.2⟩
            have := h.1.man (p := p) (q := q) (s := s) hm5 hm.2 (by omega) (by omega) ?_
            · rw [← hm.2] at this; exact this
            · split at hs6
              · exact tkL_in hs6 z0
              · cases hs6; exact z0
          · cases h2
      · split at hp
        · unfold prK at hp
          split at hp
          · obtain ⟨v, b1, h1, h2⟩ := rb_ok hp
            obtain ⟨u, b2, h3, h4⟩ := rb_ok h2
            cases h4
            exact ⟨h.1.known (tkL_in h1 z0), h.2⟩
          · cases hp
        · cases hp
end TKI
end PT5x1
section PT5x2
/-! ===== slices once each: thirty at most ===== -/
theorem pcn_s (s : Int32) (k : Nat) : pcn s (k + 1) = pcn s k + pcb s (Int32.ofNat k) := rfl
theorem pcn_up (s : Int32) : ∀ k : Nat, pcn s k ≤ k := by
  intro k
  induction k with
  | zero => exact Int.le_refl _
  | succ k ih =>
    rw [pcn_s]
    have := pcb_in s (Int32.ofNat k)
    omega
theorem biS_nI {v : Int32} (h1 : (1 : Int32) ≤ v) (h2 : v ≤ 30) : ∃ j : Nat, j < 30 ∧ (j : Int) = v.toInt - 1 ∧ (v - 1).toInt = (j : Int) := by
  rw [le_i] at h1 h2
  have e1 : (1 : Int32).toInt = 1 := rfl
  have e30 : (30 : Int32).toInt = 30 := rfl
  have hd : (v - 1).toInt = v.toInt - 1 := ti_sub rfl e1 (by omega)
  exact ⟨(v.toInt - 1).toNat, by omega, by omega, by omega⟩
theorem inS_tb {s v : Int32} (hs : 0 ≤ s.toInt) {j : Nat} (hj : j < 30) (hv : (v - 1).toInt = j) : inS s v = s.toInt.toNat.testBit j := by
  have h := isIn_iff (v1 := s) (v2 := v - 1) hs (by omega)
  rw [hv, Int.toNat_natCast] at h
  unfold inS
  cases q : s.toInt.toNat.testBit j with
  | false => rw [Bool.not_eq_false', decide_eq_true_eq]; exact h.mpr q
  | true =>
    rw [Bool.not_eq_true', decide_eq_false_iff_not]
    intro z
    rw [h.mp z] at q; cases q
theorem or_tb {s v : Int32} (hs : 0 ≤ s.toInt ∧ s.toInt < 1073741824) {j : Nat} (hj : j < 30) (hv : (v - 1).toInt = j) : (s ||| biS v).toInt.toNat = s.toInt.toNat ||| 2 ^ j := by
  unfold biS
  rw [orI hs.1 (by omega), hv, Int.toNat_natCast]
  have := or_lt (M := s.toInt.toNat) (k := j) (n := 30) (by omega) hj
  rw [nI_toInt (by omega), Int.toNat_natCast]
theorem pcn_or {s v : Int32} (hs : 0 ≤ s.toInt ∧ s.toInt < 1073741824) (h1 : (1 : Int32) ≤ v) (h2 : v ≤ 30) (hn : inS s v = false) : pcn (s ||| biS v) 30 = pcn s 30 + 1 := by
  obtain ⟨j, hj, -, hv⟩ := biS_nI h1 h2
  have hb := bi_in hs h1 h2
  have ho := or_tb hs hj hv
  rw [inS_tb hs.1 hj hv] at hn
  have key : ∀ k, k ≤ 30 → pcn (s ||| biS v) k = pcn s k + (if j < k then 1 else 0) := by
    intro k
    induction k with
    | zero => intro _; rw [if_neg (by omega)]; rfl
    | succ k ih =>
      intro hk
      rw [pcn_s, pcn_s, ih (by omega), pcb_tb hb.1 (by omega), pcb_tb hs.1 (by omega), ho]
      by_cases q : k = j
      · subst q
        rw [tb_or2, hn]
        simp
      · rw [tb_ne q]
        have e1 : (if j < k + 1 then (1 : Int) else 0) = if j < k then 1 else 0 := by
          by_cases z : j < k
          · rw [if_pos z, if_pos (by omega)]
          · rw [if_neg z, if_neg (by omega)]
        rw [e1]
        exact Int.add_right_comm _ _ _
  have := key 30 (by omega)
  rw [if_pos hj] at this; exact this
theorem tkL_f {T : Nat → Int32} {e : Nat} : ∀ (f g : Nat) (set : Int32) (a : Nat), a ≤ e → 0 ≤ set.toInt ∧ set.toInt < 1073741824 → (31 ≤ pcn set 30 + f ∨ e < a + f) → (31 ≤ pcn set 30 + g ∨ e < a + g) → tkL T e f set a = tkL T e g set a := by
  intro f
  induction f with
  | zero => intro g set a ha hs hf _; have := pcn_up set 30; omega
  | succ f ih =>
    intro g set a ha hs hf hg
    cases g with
    | zero => have := pcn_up set 30; omega
    | succ g =>
      unfold tkL
      by_cases q : tK (tok T e a) = 2
      · rw [if_pos q, if_pos q]
        have up := up_tkN (T := T) (lo := 1) (hi := 30) ha
        cases r : tkN T e 1 30 a with
        | error x => rfl
        | ok p =>
          obtain ⟨v, b⟩ := p
          rw [r] at up
          have hv := tkN_in r
          show (if inS set v = true then Except.error (5, tS (tok T e a)) else tkL T e f (set ||| biS v) b) = (if inS set v = true then Except.error (5, tS (tok T e a)) else tkL T e g (set ||| biS v) b)
          by_cases z : inS set v = true
          · rw [if_pos z, if_pos z]
          · rw [if_neg z, if_neg z]
            have hp := pcn_or hs hv.1 hv.2 (bf_of z)
            have h1 : a < b := up.1
            have h2 : b ≤ e := up.2
            exact ih g _ b h2 (bi_in hs hv.1 hv.2) (by omega) (by omega)
      · rw [if_neg q, if_neg q]
end PT5x2
section PT5x3
/-! ===== a part, then its semicolon ===== -/
section SEM
variable (T : Nat → Int32) (e : Nat)
noncomputable def sem (r : Rs BS) : Rs BS := rb r fun B b => rb (tkS T e b) fun _ b => .ok (B, b)
noncomputable def qrO (B : BS) (a : Nat) : Rs BS := if B.2.2.1 = 0 then rb (tkN T e 0 16 (tB (tok T e a))) fun v b => .ok ((upd B.1 1 v, B.2.1, 1, B.2.2.2.1, B.2.2.2.2), b) else .error (5, tS (tok T e a))
noncomputable def qrS (B : BS) (a : Nat) : Rs BS := rb (tkN T e 1 30 (tB (tok T e a))) fun d b => if inS B.2.2.2.2 d = true then .error (5, tS (tok T e (tB (tok T e a)))) else
  rb (if tI (tok T e b) = 3 then tkN T e 0 99 (tB (tok T e b)) else .ok (1, b)) fun n b => .ok ((upd B.1 (3 + d.toNatClampNeg) n, B.2.1, B.2.2.1, B.2.2.2.1, B.2.2.2.2 ||| biS d), b)
noncomputable def qrM (B : BS) (a : Nat) : Rs BS := if B.1 0 = 6 then .error (6, tS (tok T e a)) else
  rb (tkM T e (tB (tok T e a))) fun w b => if nmG B.2.1 w (mnN B.1) 0 = -1 then
    rb (rb (tkW T e 5 b) fun _ b => tkN T e 1 99 b) fun p b => rb (rb (tkW T e 6 b) fun _ b => tkN T e 1 30 b) fun q b =>
    rb (if tI (tok T e b) = 7 then tkL T e 31 0 (tB (tok T e b)) else .ok (0, b)) fun h b =>
    .ok ((upd (upd (upd (upd B.1 (34 + mnN B.1) p) (40 + mnN B.1) q) (46 + mnN B.1) h) 0 (B.1 0 + 1), vp_updL B.2.1 (mnN B.1) w, B.2.2), b)
  else .error (3, tS (tok T e (tB (tok T e a))))
noncomputable def qrK (B : BS) (a : Nat) : Rs BS := if B.2.2.2.1 = 0 then rb (tkL T e 31 0 (tB (tok T e a))) fun s b => .ok ((upd B.1 3 s, B.2.1, B.2.2.1, 1, B.2.2.2.2), b) else .error (5, tS (tok T e a))
noncomputable def qrP (B : BS) (a : Nat) : Rs BS := if tI (tok T e a) = 1 then qrO T e B a else if tI (tok T e a) = 2 then qrS T e B a else if tI (tok T e a) = 4 then qrM T e B a else if tI (tok T e a) = 8 then qrK T e B a else .error (mis T e a)
end SEM
theorem rb_rb {α β γ : Type} {r : Rs α} {f : α → Nat → Rs β} {g : β → Nat → Rs γ} : rb (rb r f) g = rb r (fun v b => rb (f v b) g) := by
  cases r with
  | error x => rfl
  | ok p => rfl
theorem rb_c {α β : Type} {r : Rs α} {f g : α → Nat → Rs β} (h : ∀ v b, f v b = g v b) : rb r f = rb r g := by
  rw [show f = g from funext fun v => funext fun b => h v b]
theorem rb_if {α β : Type} {c : Prop} [Decidable c] {r s : Rs α} {f : α → Nat → Rs β} : rb (if c then r else s) f = if c then rb r f else rb s f := by
  split <;> rfl
theorem prP_q {T : Nat → Int32} {e : Nat} {B : BS} {a : Nat} : prP T e B a = sem T e (qrP T e B a) := by
  unfold prP qrP sem
  rw [rb_if, rb_if, rb_if, rb_if]
  split
  · unfold prO qrO
    rw [rb_if]
    split
    · rw [rb_rb]
      exact rb_c (fun v b => rfl)
    · rfl
  · split
    · unfold prS qrS
      rw [rb_rb]
      refine rb_c (fun v b => ?_)
      by_cases z : inS B.2.2.2.2 v = true
      · rw [if_pos z, if_pos z]; rfl
      · rw [if_neg z, if_neg z, rb_rb]
        exact rb_c (fun v b => rfl)
    · split
      · unfold prM qrM
        rw [rb_if]
        split
        · rfl
        · rw [rb_rb]
          refine rb_c (fun w b => ?_)
          by_cases z : nmG B.2.1 w (mnN B.1) 0 = -1
          · rw [if_pos z, if_pos z, rb_rb, rb_rb]
            refine rb_c (fun _ b => ?_)
            refine rb_c (fun p b => ?_)
            rw [rb_rb, rb_rb]
            refine rb_c (fun _ b => ?_)
            refine rb_c (fun q b => ?_)
            rw [rb_rb]
            exact rb_c (fun h b => rfl)
          · rw [if_neg z, if_neg z]; rfl
      · split
        · unfold prK qrK
          rw [rb_if]
          split
          · rw [rb_rb]
            exact rb_c (fun v b => rfl)
          · rfl
        · rfl
end PT5x3
section PT5x4
/-! ===== the days' text, read ===== -/
theorem tok_sg {T : Nat → Int32} {e a : Nat} (h : tK (tok T e a) = 3) : tV (tok T e a) = 59 ∨ tV (tok T e a) = 60 ∨ tV (tok T e a) = 62 ∨ tV (tok T e a) = 61 := by
  unfold tok tokW at h ⊢
  generalize rnX isBl T e a = s at h ⊢
  by_cases h1 : e ≤ s
  · rw [if_pos h1] at h
    exact absurd h (show ¬ (0 : Nat) = 3 by decide)
  rw [if_neg h1] at h ⊢
  by_cases h2 : isLe (T s) = true
  · rw [if_pos h2] at h
    exact absurd h (show ¬ (1 : Nat) = 3 by decide)
  rw [if_neg h2] at h ⊢
  by_cases h3 : isDi (T s) = true
  · rw [if_pos h3] at h
    have h' : (if rnX isDi T e s - s ≤ 4 then 2 else 4) = 3 := h
    split at h' <;> omega
  rw [if_neg h3] at h ⊢
  have h' : (if isSg (T s) = true then 3 else 4) = 3 := h
  by_cases h4 : isSg (T s) = true
  · exact isSg_t.mp h4
  · rw [if_neg h4] at h'; omega
/-- a code of the days: its kind, three numbers -/
noncomputable abbrev CD : Type := Int32 × Int32 × Int32 × Int32
/-- steps, codes, open blocks; the codes, their mates, the open blocks' codes and steps; of a step: its code, the step behind it -/
noncomputable abbrev DS : Type := (Nat × Nat × Nat) × (Nat → CD) × (Nat → Nat) × (Nat → Nat) × (Nat → Nat) × (Nat → Nat) × (Nat → Nat)
noncomputable def dN (s : DS) : Nat := s.1.1
noncomputable def dL (s : DS) : Nat := s.1.2.1
noncomputable def dD (s : DS) : Nat := s.1.2.2
noncomputable def dC (s : DS) : Nat → CD := s.2.1
noncomputable def dM (s : DS) : Nat → Nat := s.2.2.1
noncomputable def dO (s : DS) : Nat → Nat := s.2.2.2.1
noncomputable def dOs (s : DS) : Nat → Nat := s.2.2.2.2.1
noncomputable def dSp (s : DS) : Nat → Nat := s.2.2.2.2.2.1
noncomputable def dNx (s : DS) : Nat → Nat := s.2.2.2.2.2.2
noncomputable def upN (f : Nat → Nat) (k v : Nat) : Nat → Nat := fun j => if j = k then v else f j
noncomputable def upC (f : Nat → CD) (k : Nat) (v : CD) : Nat → CD := fun j => if j = k then v else f j
theorem upN_s {f : Nat → Nat} {k v : Nat} : upN f k v k = v := if_pos rfl
theorem upN_i {f : Nat → Nat} {k v j : Nat} (h : ¬ j = k) : upN f k v j = f j := if_neg h
theorem upC_s {f : Nat → CD} {k : Nat} {v : CD} : upC f k v k = v := if_pos rfl
theorem upC_i {f : Nat → CD} {k j : Nat} {v : CD} (h : ¬ j = k) : upC f k v j = f j := if_neg h
noncomputable def ds0 : DS := ((0, 0, 0), (fun _ => (0, 0, 0, 0)), (fun _ => 0), (fun _ => 0), (fun _ => 0), (fun _ => 0), fun _ => 0)
/-- a step that is no block -/
noncomputable def dsA (s : DS) (c : CD) : DS := ((dN s + 1, dL s + 1, dD s), upC (dC s) (dL s) c, upN (dM s) (dL s) (dL s), dO s, dOs s, upN (dSp s) (dN s) (dL s), upN (dNx s) (dN s) (dN s + 1))
/-- a block begins -/
noncomputable def dsB (s : DS) (c : CD) : DS := ((dN s + 1, dL s + 1, dD s + 1), upC (dC s) (dL s) c, upN (dM s) (dL s) (dL s), upN (dO s) (dD s) (dL s), upN (dOs s) (dD s) (dN s), upN (dSp s) (dN s) (dL s), dNx s)
/-- a block ends -/
noncomputable def dsE (s : DS) : DS := ((dN s, dL s + 1, dD s - 1), upC (dC s) (dL s) (20, 0, 0, 0), upN (upN (upN (dM s) (dL s) (dL s)) (dO s (dD s - 1)) (dL s)) (dL s) (dO s (dD s - 1)), dO s, dOs s, dSp s, upN (dNx s) (dOs s (dD s - 1)) (dN s))
section DYS
variable (T : Nat → Int32) (e : Nat) (N : Nat → Int64) (M : Nat)
/-- a man by his name -/
noncomputable def tkH (a : Nat) : Rs Int32 := rb (tkM T e a) fun w b => if nmG N w M 0 = -1 then .error (3, tS (tok T e a)) else .ok (nmG N w M 0, b)
/-- one of the signs that compare -/
noncomputable def tkC (a : Nat) : Rs Int32 := if tK (tok T e a) = 3 then (if tV (tok T e a) = 59 then .error (mis T e a) else .ok (tV (tok T e a), tB (tok T e a))) else .error (mis T e a)
noncomputable def isTs (i : Int32) : Bool := i == 16 || (i == 17 || i == 18)
noncomputable def isBk (i : Int32) : Bool := i == 15 || i == 19
noncomputable def isSt (i : Int32) : Bool := isBk i || (i == 21 || (decide (9 ≤ i) && decide (i ≤ 14)))
/-- a test -/
noncomputable def dyT (a : Nat) : Rs CD := if isTs (tI (tok T e a)) = true then
    rb (if tI (tok T e a) = 17 then tkN T e 1 30 (tB (tok T e a)) else tkH T e N M (tB (tok T e a))) fun x b =>
    if tI (tok T e a) = 16 then .ok ((16, x, 0, 0), b) else rb (tkC T e b) fun y b => rb (tkN T e 0 99 b) fun z b => .ok ((tI (tok T e a), x, y, z), b)
  else .error (mis T e a)
/-- what a step's word asks for -/
noncomputable def dyA (i : Int32) (a : Nat) : Rs CD :=
  if i = 9 then rb (tkN T e 1 30 a) fun x b => rb (tkN T e 1 30 b) fun y b => rb (tkN T e 1 30 b) fun z b => .ok ((9, x, y, z), b)
  else if i = 10 then rb (tkN T e 1 30 a) fun x b => rb (tkN T e 2 30 b) fun y b => .ok ((10, x, y, 0), b)
  else if i = 11 ∨ i = 12 then rb (tkH T e N M a) fun x b => rb (tkN T e 1 30 b) fun y b => .ok ((i, x, y, 0), b)
  else if i = 13 then rb (tkN T e 1 9 a) fun x b => .ok ((13, x, 0, 0), b)
  else if i = 19 then rb (tkN T e 1 99 a) fun x b => .ok ((19, x, 0, 0), b)
  else if i = 15 then dyT T e N M a
  else .ok ((i, 0, 0, 0), a)
noncomputable def dyS (s : DS) (a : Nat) : Rs DS := if isSt (tI (tok T e a)) = true then (if dN s = 30 then .error (6, tS (tok T e a)) else
    if isBk (tI (tok T e a)) = true ∧ dD s = 3 then .error (7, tS (tok T e a)) else
    rb (dyA T e N M (tI (tok T e a)) (tB (tok T e a))) fun c b => rb (tkS T e b) fun _ b => .ok (if isBk (tI (tok T e a)) = true then dsB s c else dsA s c, b))
  else .error (mis T e a)
noncomputable def dyE (s : DS) (a : Nat) : Rs DS := if dD s = 0 then .error (mis T e a) else rb (tkS T e (tB (tok T e a))) fun _ b => .ok (dsE s, b)
noncomputable def dyB : Nat → DS → Nat → Rs DS
  | 0, s, a => .ok (s, a)
  | f + 1, s, a => if tK (tok T e a) = 0 then (if dD s = 0 then .ok (s, a) else .error (mis T e a)) else rb (if tI (tok T e a) = 20 then dyE T e s a else dyS T e N M s a) fun s b => dyB f s b
end DYS
theorem iltle {a b : Int32} : ¬ b < a ↔ a ≤ b := by
  rw [Int32.lt_iff_toInt_lt, Int32.le_iff_toInt_le]; omega
theorem isBk_no {i : Int32} (h1 : ¬ i = 15) (h2 : ¬ i = 19) : isBk i = false := by
  unfold isBk
  rw [Bool.or_eq_false_iff, beq_eq_false_iff_ne, beq_eq_false_iff_ne]
  exact ⟨h1, h2⟩
theorem isSt_no {i : Int32} (h1 : ¬ i = 15) (h2 : ¬ i = 19) (h3 : ¬ i = 21) (h4 : i < 9 ∨ 14 < i) : isSt i = false := by
  unfold isSt
  rw [isBk_no h1 h2, Bool.false_or, Bool.or_eq_false_iff, beq_eq_false_iff_ne, Bool.and_eq_false_iff, decide_eq_false_iff_not, decide_eq_false_iff_not]
  exact ⟨h3, h4.elim (fun z => Or.inl (fun y => iltle.mpr y z)) (fun z => Or.inr (fun y => iltle.mpr y z))⟩
theorem isSt_yes {i : Int32} (h1 : (9 : Int32) ≤ i) (h2 : i ≤ 14) : isSt i = true := by
  unfold isSt
  rw [Bool.or_eq_true, Bool.or_eq_true, Bool.and_eq_true, decide_eq_true_eq, decide_eq_true_eq]
  exact Or.inr (Or.inr ⟨h1, h2⟩)
section DYU
variable {T : Nat → Int32} {e : Nat} {N : Nat → Int64} {M : Nat} {a : Nat}
theorem up_tkH (ha : a ≤ e) : Up1 e a (tkH T e N M a) := by
  unfold tkH
  refine Up1.rb (up_tkM ha) (fun w b h1 h2 => ?_)
  split
  · trivial
  · exact ⟨Nat.le_refl _, h2⟩
theorem up_tkC (ha : a ≤ e) : Up1 e a (tkC T e a) := by
  unfold tkC
  by_cases q : tK (tok T e a) = 3
  · rw [if_pos q]
    split
    · trivial
    · exact tB_lt (T := T) ha (by omega)
  · rw [if_neg q]; trivial
theorem up_ok {α : Type} {v : α} {b : Nat} (h : b ≤ e) : Up e b (.ok (v, b) : Rs α) := ⟨Nat.le_refl _, h⟩
theorem up_dyT (ha : a ≤ e) : Up1 e a (dyT T e N M a) := by
  unfold dyT
  by_cases q : isTs (tI (tok T e a)) = true
  · rw [if_pos q]
    have hi : ¬ tI (tok T e a) = -1 := fun z => by rw [z] at q; exact absurd q (by decide)
    have hk : ¬ tK (tok T e a) = 0 := by have := tI_k hi; omega
    have hb := tB_lt (T := T) ha hk
    refine Up1.rb ?_ (fun x b h1 h2 => ?_)
    · split
      · exact (up_tkN hb.2).le (by omega)
      · exact (up_tkH hb.2).le (by omega)
    · split
      · exact up_ok h2
      · exact Up.rb (up_tkC h2).w (fun y b _ h3 => Up.rb (up_tkN h3).w (fun z b _ h4 => up_ok h4))
  · rw [if_neg q]; trivial
theorem up_dyA {i : Int32} (ha : a ≤ e) : Up e a (dyA T e N M i a) := by
  unfold dyA
  split
  · exact Up.rb (up_tkN ha).w (fun x b _ h => Up.rb (up_tkN h).w (fun y b _ h => Up.rb (up_tkN h).w (fun z b _ h => up_ok h)))
  split
  · exact Up.rb (up_tkN ha).w (fun x b _ h => Up.rb (up_tkN h).w (fun y b _ h => up_ok h))
  split
  · exact Up.rb (up_tkH ha).w (fun x b _ h => Up.rb (up_tkN h).w (fun y b _ h => up_ok h))
  split
  · exact Up.rb (up_tkN ha).w (fun x b _ h => up_ok h)
  split
  · exact Up.rb (up_tkN ha).w (fun x b _ h => up_ok h)
  split
  · exact (up_dyT ha).w
  · exact up_ok ha
theorem isSt_n {i : Int32} (h : isSt i = true) : ¬ i = -1 := fun z => by rw [z] at h; exact absurd h (by decide)
theorem up_dyS {s : DS} (ha : a ≤ e) : Up1 e a (dyS T e N M s a) := by
  unfold dyS
  by_cases q : isSt (tI (tok T e a)) = true
  · rw [if_pos q]
    have hk : ¬ tK (tok T e a) = 0 := by have := tI_k (isSt_n q); omega
    have hb := tB_lt (T := T) ha hk
    split
    · trivial
    split
    · trivial
    have h2 : Up e (tB (tok T e a)) (rb (dyA T e N M (tI (tok T e a)) (tB (tok T e a))) fun c b => rb (tkS T e b) fun _ b => (.ok (if isBk (tI (tok T e a)) = true then dsB s c else dsA s c, b) : Rs DS)) := Up.rb (up_dyA hb.2) (fun c b _ h => Up.rb (up_tkS h).w (fun _ b _ h => up_ok h))
    cases z : (rb (dyA T e N M (tI (tok T e a)) (tB (tok T e a))) fun c b => rb (tkS T e b) fun _ b => (.ok (if isBk (tI (tok T e a)) = true then dsB s c else dsA s c, b) : Rs DS)) with
    | error x => trivial
    | ok p => rw [z] at h2; exact ⟨Nat.lt_of_lt_of_le hb.1 h2.1, h2.2⟩
  · rw [if_neg q]; trivial
theorem up_dyE {s : DS} (ha : a ≤ e) (hi : tI (tok T e a) = 20) : Up1 e a (dyE T e s a) := by
  unfold dyE
  have hk : ¬ tK (tok T e a) = 0 := by have := tI_k (t := tok T e a) (by rw [hi]; decide); omega
  have hb := tB_lt (T := T) ha hk
  split
  · trivial
  · refine ((up_tkS hb.2).le (by omega)).rb (fun _ b _ h => up_ok h)
end DYU
/-- what the told days keep: few codes -/
noncomputable def DOk (s : DS) : Prop := dN s ≤ 30 ∧ dD s ≤ 3 ∧ dL s + dD s ≤ 2 * dN s ∧ (∀ k, k < dD s → dO s k < dL s) ∧ ∀ k, k < dD s → dOs s k < dN s
theorem DOk.z : DOk ds0 := ⟨by decide, by decide, by decide, fun k h => absurd h (by show ¬ k < 0; omega), fun k h => absurd h (by show ¬ k < 0; omega)⟩
theorem DOk.a {s : DS} {c : CD} (h : DOk s) (hn : ¬ dN s = 30) : DOk (dsA s c) := by
  obtain ⟨h1, h2, h3, h4, h5⟩ := h
  refine ⟨?_, h2, ?_, fun k hk => ?_, fun k hk => ?_⟩
  · show dN s + 1 ≤ 30; omega
  · show dL s + 1 + dD s ≤ 2 * (dN s + 1); omega
  · show dO s k < dL s + 1; have := h4 k hk; omega
  · show dOs s k < dN s + 1; have := h5 k hk; omega
theorem DOk.b {s : DS} {c : CD} (h : DOk s) (hn : ¬ dN s = 30) (hd : ¬ dD s = 3) : DOk (dsB s c) := by
  obtain ⟨h1, h2, h3, h4, h5⟩ := h
  refine ⟨?_, ?_, ?_, fun k hk => ?_, fun k hk => ?_⟩
  · show dN s + 1 ≤ 30; omega
  · show dD s + 1 ≤ 3; omega
  · show dL s + 1 + (dD s + 1) ≤ 2 * (dN s + 1); omega
  · have hk2 : k < dD s + 1 := hk
    show upN (dO s) (dD s) (dL s) k < dL s + 1
    by_cases q : k = dD s
    · subst q; rw [upN_s]; omega
    · rw [upN_i q]; have := h4 k (by omega); omega
  · have hk2 : k < dD s + 1 := hk
    show upN (dOs s) (dD s) (dN s) k < dN s + 1
    by_cases q : k = dD s
    · subst q; rw [upN_s]; omega
    · rw [upN_i q]; have := h5 k (by omega); omega
theorem DOk.e {s : DS} (h : DOk s) (hd : ¬ dD s = 0) : DOk (dsE s) := by
  obtain ⟨h1, h2, h3, h4, h5⟩ := h
  refine ⟨h1, ?_, ?_, fun k hk => ?_, fun k hk => ?_⟩
  · show dD s - 1 ≤ 3; omega
  · show dL s + 1 + (dD s - 1) ≤ 2 * dN s; omega
  · have hk2 : k < dD s - 1 := hk
    show dO s k < dL s + 1; have := h4 k (by omega); omega
  · have hk2 : k < dD s - 1 := hk
    show dOs s k < dN s; exact h5 k (by omega)
end PT5x4
section PT5x5
/-! ===== what stays; the scribe's reader ===== -/
noncomputable def FrW (W V : Nat → Nat → Prop) (I : Im) (J : Jm) (I2 : Im) (J2 : Jm) : Prop := (∀ o k, ¬ W o k → I2 o k = I o k) ∧ (∀ o k, ¬ V o k → J2 o k = J o k)
noncomputable abbrev nV : Nat → Nat → Prop := fun _ _ => False
noncomputable abbrev WR (ws : List Nat) : Nat → Nat → Prop := fun o k => o = 3 ∧ k ∈ ws
noncomputable abbrev VR : Nat → Nat → Prop := fun o k => o = 3 ∧ k = 10
section FRW
variable {W V W2 V2 : Nat → Nat → Prop} {I I2 I3 : Im} {J J2 J3 : Jm} {o k : Nat}
theorem FrW.rf : FrW W V I J I J := ⟨fun _ _ _ => rfl, fun _ _ _ => rfl⟩
theorem FrW.tr (h : FrW W V I J I2 J2) (h2 : FrW W V I2 J2 I3 J3) : FrW W V I J I3 J3 := ⟨fun o k q => (h2.1 o k q).trans (h.1 o k q), fun o k q => (h2.2 o k q).trans (h.2 o k q)⟩
theorem FrW.up (h : FrW W V I J I2 J2) (hW : ∀ o k, W o k → W2 o k) (hV : ∀ o k, V o k → V2 o k) : FrW W2 V2 I J I2 J2 := ⟨fun o k q => h.1 o k (fun z => q (hW o k z)), fun o k q => h.2 o k (fun z => q (hV o k z))⟩
theorem FrW.u {v : Int32} (h : FrW W V I J I2 J2) (hk : W o k) : FrW W V I J (uI I2 o k v) J2 := ⟨fun a j q => by
  rw [show uI I2 o k v a j = I2 a j from ?_]
  · exact h.1 a j q
  · by_cases q1 : a = o
    · subst q1
      exact rd_k (fun z => q (by rw [z]; exact hk))
    · exact rd_ne q1, h.2⟩
theorem FrW.uj {v : Int64} (h : FrW W V I J I2 J2) (hk : V o k) : FrW W V I J I2 (uJ J2 o k v) := ⟨h.1, fun a j q => by
  rw [show uJ J2 o k v a j = J2 a j from ?_]
  · exact h.2 a j q
  · by_cases q1 : a = o
    · subst q1
      have : ¬ j = k := fun z => q (by rw [z]; exact hk)
      simp [uJ, vp_updL, this]
    · simp [uJ, q1]⟩
theorem FrW.i (h : FrW W V I J I2 J2) (hk : ¬ W o k) : I2 o k = I o k := h.1 o k hk
theorem FrW.j (h : FrW W V I J I2 J2) (hk : ¬ V o k) : J2 o k = J o k := h.2 o k hk
theorem FrW.c (h : FrW W V I J I2 J2) (hk : ∀ k, ¬ W o k) : I2 o = I o := funext fun k => h.1 o k (hk k)
theorem FrW.cj (h : FrW W V I J I2 J2) (hk : ∀ k, ¬ V o k) : J2 o = J o := funext fun k => h.2 o k (hk k)
end FRW
theorem WR.no {ws : List Nat} {o : Nat} (h : ¬ o = 3) : ∀ k, ¬ WR ws o k := fun _ q => h q.1
theorem WR.up {ws vs : List Nat} (h : ∀ k, k ∈ ws → k ∈ vs) : ∀ o k, WR ws o k → WR vs o k := fun _ _ q => ⟨q.1, h _ q.2⟩
theorem nV.up {V : Nat → Nat → Prop} : ∀ o k, nV o k → V o k := fun _ _ q => q.elim
theorem rj_eq {J : Jm} {o j : Nat} {v : Int64} : uJ J o j v o j = v := by simp [uJ, vp_updL]
theorem rj_k {J : Jm} {o j k : Nat} {v : Int64} (h : ¬ k = j) : uJ J o j v o k = J o k := by simp [uJ, vp_updL, h]
theorem nI_ti {n : Nat} (h : n ≤ 1000) : (nI n).toInt = n := nI_toInt (by omega)
/-- two places held against each other -/
theorem nle_nI {a b : Nat} (ha : a ≤ 1000) (hb : b ≤ 1000) : (nI a ≤ nI b) ↔ a ≤ b := by
  rw [Int32.le_iff_toInt_le, nI_ti ha, nI_ti hb]; omega
theorem nlt_nI {a b : Nat} (ha : a ≤ 1000) (hb : b ≤ 1000) : (nI a < nI b) ↔ a < b := by
  rw [Int32.lt_iff_toInt_lt, nI_ti ha, nI_ti hb]; omega
theorem gt_of {a b : Nat} (ha : a ≤ 1000) (hb : b ≤ 1000) (c : ¬ nI a ≤ nI b) : b < a := Nat.lt_of_not_le (fun z => c ((nle_nI ha hb).mpr z))
theorem ge_of {a b : Nat} (ha : a ≤ 1000) (hb : b ≤ 1000) (c : ¬ nI a < nI b) : b ≤ a := Nat.le_of_not_lt (fun z => c ((nlt_nI ha hb).mpr z))
theorem nI_sub {a b : Nat} (ha : a ≤ 1000) (hb : b ≤ a) : nI a - nI b = nI (a - b) := Int32.toInt_inj.mp (by
  rw [ti_sub (nI_ti ha) (nI_ti (by omega)) (by omega), nI_ti (by omega)]; omega)
theorem vp_nI {a n : Nat} (ha : a ≤ 1000) (h : a < n) : vp_in (nI a) n := vp_of (nI_ti ha) (by omega) (by omega)
/-- digits -/
theorem rd_num {d : Nat} {Q : Nat → Qt} {P : Kt} (hc : Cl (AM d) true false 0 (fun _ => 0) 0 112 kX6_readNumber Q P) {T : Nat → Int32} {e s : Nat} {I0 : Im} {J : Jm} {R : Rm} (he : e ≤ 900) (hQ : ∀ I2, FrW (WR [5, 8, 11]) nV I0 J I2 J → I2 3 5 = nI (rnX isDi T e s) → I2 3 8 = nI (if rnX isDi T e s - s ≤ 4 then 2 else 4) → I2 3 11 = diN T s (rnX isDi T e s - s) → Q 112 0 0 I2 J R) :
    ∀ (m i : Nat) (I : Im), e - i < m → s ≤ i → i ≤ e → rnX isDi T e i = rnX isDi T e s → FrW (WR [5, 8, 11]) nV I0 J I J → I 4 = T → I 3 4 = nI e → I 3 5 = nI i → I 3 6 = nI s → I 3 11 = diN T s (i - s) → P 10 112 [(0, .ref 3), (1, .int (nI i))] [] I J R := by
  intro m
  induction m with
  | zero => intro i I h; omega
  | succ m ih =>
    intro i I hm h1 h2 hr hF hT h4 h5 h6 h11
    have exit : rnX isDi T e i = i → ((((I 3 5) - (I 3 6)) ≤ 4 → Q 112 0 0 (uI I 3 8 2) J R) ∧ (¬ ((I 3 5) - (I 3 6)) ≤ 4 → Q 112 0 0 (uI I 3 8 4) J R)) := fun hz => by
      rw [hz] at hr
      rw [h5, h6, nI_sub (by omega) h1]
      have key : ∀ v : Int32, v = nI (if i - s ≤ 4 then 2 else 4) → Q 112 0 0 (uI I 3 8 v) J R := fun v hv => hQ _ (hF.u ⟨rfl, by decide⟩) (by rw [rd_k (by decide), ← hr]; exact h5) (by rw [rd_eq, ← hr]; exact hv) (by rw [rd_k (by decide), ← hr]; exact h11)
      refine ⟨fun c => key _ ?_, fun c => key _ ?_⟩
      · rw [if_pos ((nle_nI (b := 4) (by omega) (by omega)).mp c)]; rfl
      · rw [if_neg (fun z => c ((nle_nI (b := 4) (by omega) (by omega)).mpr z))]; rfl
    refine sg_X6_readNumber_10 hc _ _ _ _ ?_
    rw [h4, hT, tn_nI (by omega)]
    refine ⟨fun c => exit ?_, fun c => ⟨vp_nI (by omega) ?_, fun c2 => exit ?_, fun c2 => ⟨vp_nI (by omega) ?_, fun c3 => exit ?_, fun c3 => ?_⟩⟩⟩
    · exact rnX_z (fun q => absurd ((nle_nI (by omega) (by omega)).mp c) (by omega))
    · have := gt_of (a := e) (b := i) (by omega) (by omega) c; omega
    · exact rnX_z (fun _ => bf_of (fun q => (isDi_t.mp q).1 c2))
    · have := gt_of (a := e) (b := i) (by omega) (by omega) c; omega
    · exact rnX_z (fun _ => bf_of (fun q => (isDi_t.mp q).2 c3))
    · have hi : i < e := by have := gt_of (a := e) (b := i) (by omega) (by omega) c; omega
      have hd := rnX_s (p := isDi) hi (isDi_t.mpr ⟨c2, c3⟩)
      rw [nI_k1, rd_eq, rd_k (show ¬ 6 = 5 by decide), h6, nI_sub (by omega) (by omega)]
      have hF2 : ∀ v, FrW (WR [5, 8, 11]) nV I0 J (uI (uI I 3 5 (nI (i + 1))) 3 11 v) J := fun v => (hF.u ⟨rfl, by decide⟩).u ⟨rfl, by decide⟩
      have go : ∀ v, v = diN T s (i + 1 - s) → P 10 112 [(0, .ref 3), (1, .int (nI (i + 1)))] [] (uI (uI I 3 5 (nI (i + 1))) 3 11 v) J R := fun v hv =>
        ih (i + 1) _ (by omega) (by omega) (by omega) (by rw [← hd]; exact hr) (hF2 v) (by rw [(FrW.rf (W := WR [5, 8, 11]) (V := nV) (I := I) (J := J)).u (o := 3) (k := 5) ⟨rfl, by decide⟩ |>.u (o := 3) (k := 11) ⟨rfl, by decide⟩ |>.c (WR.no (by decide))]; exact hT) (by rw [rd_k (by decide), rd_k (by decide)]; exact h4) (by rw [rd_k (by decide), rd_eq]) (by rw [rd_k (by decide), rd_k (by decide)]; exact h6) (by rw [rd_eq]; exact hv)
      have e1 : diN T s (i + 1 - s) = if 4 ≤ i - s then 0 else diN T s (i - s) * 10 + (T i - 48) := by
        rw [show i + 1 - s = (i - s) + 1 by omega]
        conv => lhs; unfold diN
        rw [show s + (i - s) = i by omega]
      refine ⟨fun c4 => ⟨vp_nI (by omega) (by omega), go _ ?_⟩, fun c4 => go _ ?_⟩
      · have := (nle_nI (b := 4) (by omega) (by omega)).mp c4
        rw [e1, if_neg (by omega), rd_k (by decide), h11, rd_ne (by decide), hT]
      · have := gt_of (a := i + 1 - s) (b := 4) (by omega) (by omega) c4
        rw [e1, if_pos (by omega)]
theorem px_readNumber {d : Nat} {Q : Qt} {T : Nat → Int32} {e s : Nat} {I : Im} {J : Jm} {R : Rm} (he : e ≤ 900) (hs : s ≤ e) (hT : I 4 = T) (h4 : I 3 4 = nI e) (h5 : I 3 5 = nI s) (h6 : I 3 6 = nI s) (hQ : ∀ I2, FrW (WR [5, 8, 11]) nV I J I2 J → I2 3 5 = nI (rnX isDi T e s) → I2 3 8 = nI (if rnX isDi T e s - s ≤ 4 then 2 else 4) → I2 3 11 = diN T s (rnX isDi T e s - s) → Q 0 0 I2 J R) : AM (d + 1) 64 112 [.ref 3] I J R Q := by
  refine am_X6_readNumber (fun P hc => sg_X6_readNumber_0 hc _ _ _ ?_)
  rw [rd_k (by decide), h6]
  refine rd_num hc (I0 := I) he hQ (e - s + 1) s _ (by omega) (Nat.le_refl _) hs rfl (FrW.rf.u ⟨rfl, by decide⟩) ?_ ?_ ?_ ?_ ?_
  · rw [(FrW.rf (W := WR [5, 8, 11]) (V := nV) (I := I) (J := J)).u (o := 3) (k := 11) ⟨rfl, by decide⟩ |>.c (WR.no (by decide))]; exact hT
  · rw [rd_k (by decide)]; exact h4
  · rw [rd_k (by decide)]; exact h5
  · rw [rd_k (by decide)]; exact h6
  · rw [rd_eq, Nat.sub_self]; rfl
end PT5x5
section PT5x6
/-! ===== the scribe's reader: words, tokens ===== -/
theorem rd_wrd {d : Nat} {Q : Nat → Qt} {P : Kt} (hc : Cl (AM d) true false 0 (fun _ => 0) 0 112 kX6_readWord Q P) {T : Nat → Int32} {e s : Nat} {I0 : Im} {J0 : Jm} {R : Rm} (he : e ≤ 900) (hQ : ∀ I2 J2, FrW (WR [5, 8, 9]) VR I0 J0 I2 J2 → I2 3 5 = nI (rnX isLe T e s) → I2 3 8 = 1 → J2 3 10 = leN T s (rnX isLe T e s - s) → P 101 112 [(0, .ref 3)] [] I2 J2 R) :
    ∀ (m i : Nat) (I : Im) (J : Jm), e - i < m → s ≤ i → i ≤ e → rnX isLe T e i = rnX isLe T e s → FrW (WR [5, 8, 9]) VR I0 J0 I J → I 4 = T → I 3 4 = nI e → I 3 5 = nI i → I 3 6 = nI s → I 3 8 = 1 → J 3 10 = leN T s (i - s) → P 15 112 [(0, .ref 3), (1, .int (nI i))] [] I J R := by
  intro m
  induction m with
  | zero => intro i I J h; omega
  | succ m ih =>
    intro i I J hm h1 h2 hr hF hT h4 h5 h6 h8 h10
    have exit : rnX isLe T e i = i → P 101 112 [(0, .ref 3)] [] I J R := fun hz => by
      rw [hz] at hr
      exact hQ _ _ hF (by rw [← hr]; exact h5) h8 (by rw [← hr]; exact h10)
    refine sg_X6_readWord_15 hc _ _ _ _ ?_
    rw [h4, hT, tn_nI (by omega)]
    refine ⟨fun c => exit ?_, fun c => ⟨vp_nI (by omega) ?_, fun c2 => exit ?_, fun c2 => ⟨vp_nI (by omega) ?_, fun c3 => exit ?_, fun c3 => ?_⟩⟩⟩
    · exact rnX_z (fun q => absurd ((nle_nI (by omega) (by omega)).mp c) (by omega))
    · have := gt_of (a := e) (b := i) (by omega) (by omega) c; omega
    · exact rnX_z (fun _ => bf_of (fun q => (isLe_t.mp q).1 c2))
    · have := gt_of (a := e) (b := i) (by omega) (by omega) c; omega
    · exact rnX_z (fun _ => bf_of (fun q => (isLe_t.mp q).2 c3))
    · have hi : i < e := by have := gt_of (a := e) (b := i) (by omega) (by omega) c; omega
      have hd := rnX_s (p := isLe) hi (isLe_t.mpr ⟨c2, c3⟩)
      rw [nI_k1, rd_eq, rd_k (show ¬ 6 = 5 by decide), h6, nI_sub (by omega) (by omega)]
      have hF2 : ∀ v, FrW (WR [5, 8, 9]) VR I0 J0 (uI I 3 5 (nI (i + 1))) (uJ J 3 10 v) := fun v => (hF.u ⟨rfl, by decide⟩).uj ⟨rfl, rfl⟩
      have hT2 : uI I 3 5 (nI (i + 1)) 4 = T := (uI_ne (by decide)).trans hT
      have go : ∀ v, v = leN T s (i + 1 - s) → P 15 112 [(0, .ref 3), (1, .int (nI (i + 1)))] [] (uI I 3 5 (nI (i + 1))) (uJ J 3 10 v) R := fun v hv =>
        ih (i + 1) _ _ (by omega) (by omega) (by omega) (by rw [← hd]; exact hr) (hF2 v) hT2 (by rw [rd_k (by decide)]; exact h4) rd_eq (by rw [rd_k (by decide)]; exact h6) (by rw [rd_k (by decide)]; exact h8) (by rw [rj_eq]; exact hv)
      have e1 : leN T s (i + 1 - s) = if 8 ≤ i - s then 0 else leN T s (i - s) * 32 + Int32.toInt64 ((T i - 97) + 1) := by
        rw [show i + 1 - s = (i - s) + 1 by omega]
        conv => lhs; unfold leN
        rw [show s + (i - s) = i by omega]
      refine ⟨fun c4 => ⟨vp_nI (by omega) (by omega), go _ ?_⟩, fun c4 => go _ ?_⟩
      · have := (nle_nI (b := 8) (by omega) (by omega)).mp c4
        rw [e1, if_neg (by omega), h10, hT2]
      · have := gt_of (a := i + 1 - s) (b := 8) (by omega) (by omega) c4
        rw [e1, if_pos (by omega)]
theorem rd_wi {d : Nat} {Q : Nat → Qt} {P : Kt} (hc : Cl (AM d) true false 0 (fun _ => 0) 0 112 kX6_readWord Q P) {w : Int64} {I0 : Im} {J : Jm} {R : Rm} (hJ : ∀ k, k < 22 → J 5 k = rsv.getD k 0) (hw : J 3 10 = w) (hQ : ∀ I2, FrW (WR [9]) nV I0 J I2 J → I2 3 9 = wiN w 21 → Q 112 0 0 I2 J R) :
    ∀ (m n : Nat) (I : Im), 21 - n < m → n ≤ 21 → FrW (WR [9]) nV I0 J I J → I 3 9 = wiN w n → P 108 112 [(0, .ref 3), (1, .int (nI (n + 1)))] [] I J R := by
  intro m
  induction m with
  | zero => intro n I h; omega
  | succ m ih =>
    intro n I hm hn hF h9
    refine sg_X6_readWord_108 hc _ _ _ _ ?_
    refine ⟨fun c => ?_, fun c => ⟨?_, ?_⟩⟩
    · have := (nlt_nI (a := 21) (b := n + 1) (by omega) (by omega)).mp c
      obtain rfl : n = 21 := by omega
      exact hQ _ hF h9
    · have := ge_of (a := 21) (b := n + 1) (by omega) (by omega) c
      exact vp_nI (by omega) (by omega)
    · have hlt : n < 21 := by have := ge_of (a := 21) (b := n + 1) (by omega) (by omega) c; omega
      rw [tn_nI (by omega), hJ (n + 1) (by omega), hw, nI_k1, lg_cmp_eq]
      have e1 : wiN w (n + 1) = if rsv.getD (n + 1) 0 = w then nI (n + 1) else wiN w n := rfl
      refine ⟨fun c2 => ih (n + 1) _ (by omega) (by omega) hF ?_, fun c2 => ih (n + 1) _ (by omega) (by omega) (hF.u ⟨rfl, by decide⟩) ?_⟩
      · rw [e1, if_neg c2]; exact h9
      · rw [e1, if_pos c2, rd_eq]
theorem px_readWord {d : Nat} {Q : Qt} {T : Nat → Int32} {e s : Nat} {I : Im} {J : Jm} {R : Rm} (he : e ≤ 900) (hs : s ≤ e) (hT : I 4 = T) (h4 : I 3 4 = nI e) (h5 : I 3 5 = nI s) (h6 : I 3 6 = nI s) (hJ : ∀ k, k < 22 → J 5 k = rsv.getD k 0) (hQ : ∀ I2 J2, FrW (WR [5, 8, 9]) VR I J I2 J2 → I2 3 5 = nI (rnX isLe T e s) → I2 3 8 = 1 → I2 3 9 = wiN (leN T s (rnX isLe T e s - s)) 21 → J2 3 10 = leN T s (rnX isLe T e s - s) → Q 0 0 I2 J2 R) : AM (d + 1) 63 112 [.ref 3] I J R Q := by
  refine am_X6_readWord (fun P hc => sg_X6_readWord_0 hc _ _ _ ?_)
  rw [rd_k (by decide), h6]
  refine rd_wrd hc (I0 := I) (J0 := J) he (fun I2 J2 hF a b c => ?_) (e - s + 1) s _ _ (by omega) (Nat.le_refl _) hs rfl ((FrW.rf.u ⟨rfl, by decide⟩).uj ⟨rfl, rfl⟩) ((uI_ne (by decide)).trans hT) (by rw [rd_k (by decide)]; exact h4) (by rw [rd_k (by decide)]; exact h5) (by rw [rd_k (by decide)]; exact h6) rd_eq (by rw [rj_eq, Nat.sub_self]; rfl)
  refine sg_X6_readWord_101 hc _ _ _ (rd_wi hc (I0 := uI I2 3 9 0) (w := leN T s (rnX isLe T e s - s)) (fun k hk => ?_) c (fun I3 hF3 h9 => ?_) 22 0 _ (by omega) (by omega) FrW.rf rd_eq)
  · rw [hF.j (by intro q; exact absurd q.1 (by decide))]; exact hJ k hk
  · have hF4 : FrW (WR [5, 8, 9]) VR I2 J2 I3 J2 := (FrW.rf.u (o := 3) (k := 9) (v := 0) ⟨rfl, by decide⟩).tr (hF3.up (WR.up (by decide)) nV.up)
    exact hQ I3 J2 (hF.tr hF4) (by rw [hF3.i (by decide), rd_k (by decide)]; exact a) (by rw [hF3.i (by decide), rd_k (by decide)]; exact b) h9 c
/-! a token more -/
/-- the reader's fields tell the token behind place a -/
noncomputable def RdS (T : Nat → Int32) (e a : Nat) (I : Im) (J : Jm) : Prop := I 4 = T ∧ I 3 4 = nI e ∧ (∀ k, k < 22 → J 5 k = rsv.getD k 0) ∧ I 3 5 = nI (tB (tok T e a)) ∧ I 3 6 = nI (tS (tok T e a)) ∧ I 3 8 = nI (tK (tok T e a)) ∧ I 3 9 = tI (tok T e a) ∧ (tK (tok T e a) = 1 → J 3 10 = tW (tok T e a)) ∧ (2 ≤ tK (tok T e a) → I 3 11 = tV (tok T e a))
noncomputable abbrev wsA : List Nat := [5, 6, 7, 8, 9, 11]
theorem rd_bl {d : Nat} {Q : Nat → Qt} {P : Kt} (hc : Cl (AM d) true false 0 (fun _ => 0) 0 112 kX6_advance Q P) {T : Nat → Int32} {e a : Nat} {I0 : Im} {J : Jm} {R : Rm} (he : e ≤ 900) (hQ : ∀ I2, FrW (WR wsA) VR I0 J I2 J → I2 3 5 = nI (rnX isBl T e a) → I2 3 7 = I0 3 6 → P 56 112 [(0, .ref 3)] [] I2 J R) :
    ∀ (m i : Nat) (I : Im), e - i < m → i ≤ e → rnX isBl T e i = rnX isBl T e a → FrW (WR wsA) VR I0 J I J → I 4 = T → I 3 4 = nI e → I 3 5 = nI i → I 3 7 = I0 3 6 → P 13 112 [(0, .ref 3), (1, .int (nI i))] [] I J R := by
  intro m
  induction m with
  | zero => intro i I h; omega
  | succ m ih =>
    intro i I hm h2 hr hF hT h4 h5 h7
    have exit : rnX isBl T e i = i → P 56 112 [(0, .ref 3)] [] I J R := fun hz => by
      rw [hz] at hr
      exact hQ _ hF (by rw [← hr]; exact h5) h7
    have next : i < e → isBl (T i) = true → P 13 112 [(0, .ref 3), (1, .int (nI i + 1))] [] (uI I 3 5 (nI i + 1)) J R := fun hi hb => by
      rw [nI_k1]
      exact ih (i + 1) _ (by omega) (by omega) (by rw [← rnX_s (p := isBl) hi hb]; exact hr) (hF.u ⟨rfl, by decide⟩) ((uI_ne (by decide)).trans hT) (by rw [rd_k (by decide)]; exact h4) rd_eq (by rw [rd_k (by decide)]; exact h7)
    refine sg_X6_advance_13 hc _ _ _ _ ?_
    rw [h4, hT, tn_nI (by omega)]
    refine ⟨fun c => exit ?_, fun c => ?_⟩
    · exact rnX_z (fun q => absurd ((nle_nI (by omega) (by omega)).mp c) (by omega))
    · have hi : i < e := by have := gt_of (a := e) (b := i) (by omega) (by omega) c; omega
      refine ⟨vp_nI (by omega) (by omega), fun c2 => next hi (isBl_t.mpr (Or.inl c2)), fun c2 => ⟨vp_nI (by omega) (by omega), fun c3 => exit ?_, fun c3 => next hi (isBl_t.mpr (Or.inr c3))⟩⟩
      exact rnX_z (fun _ => bf_of (fun q => (isBl_t.mp q).elim c2 c3))
theorem px_advance {d : Nat} {Q : Qt} {T : Nat → Int32} {e a : Nat} {I : Im} {J : Jm} {R : Rm} (he : e ≤ 900) (ha : a ≤ e) (hT : I 4 = T) (h4 : I 3 4 = nI e) (h5 : I 3 5 = nI a) (hJ : ∀ k, k < 22 → J 5 k = rsv.getD k 0) (hQ : ∀ I2 J2, FrW (WR wsA) VR I J I2 J2 → RdS T e a I2 J2 → I2 3 7 = I 3 6 → Q 0 0 I2 J2 R) : AM (d + 2) 62 112 [.ref 3] I J R Q := by
  refine am_X6_advance (fun P hc => sg_X6_advance_0 hc _ _ _ ?_)
  rw [rd_k (by decide), h5]
  refine rd_bl hc (I0 := I) (T := T) (a := a) he (fun I2 hF g5 g7 => ?_) (e - a + 1) a _ (by omega) ha rfl (FrW.rf.u ⟨rfl, by decide⟩) ((uI_ne (by decide)).trans hT) (by rw [rd_k (by decide)]; exact h4) (by rw [rd_k (by decide)]; exact h5) rd_eq
  have hse := (rnX_in (p := isBl) (T := T) ha)
  have htok : tok T e a = tokW T e (rnX isBl T e a) := rfl
  generalize rnX isBl T e a = s at g5 hse htok
  have hT2 : I2 4 = T := (hF.c (WR.no (by decide))).trans hT
  have h42 : I2 3 4 = nI e := (hF.i (by decide)).trans h4
  have hJ2 : ∀ k, k < 22 → J 5 k = rsv.getD k 0 := hJ
  refine sg_X6_advance_56 hc _ _ _ ?_
  have hF3 : FrW (WR wsA) VR I J (uI (uI I2 3 6 (I2 3 5)) 3 9 (-1)) J := (hF.u ⟨rfl, by decide⟩).u ⟨rfl, by decide⟩
  have m4 : uI (uI I2 3 6 (I2 3 5)) 3 9 (-1) 4 = T := (uI_ne (by decide)).trans ((uI_ne (by decide)).trans hT2)
  have m34 : uI (uI I2 3 6 (I2 3 5)) 3 9 (-1) 3 4 = nI e := by rw [rd_k (by decide), rd_k (by decide)]; exact h42
  have m35 : uI (uI I2 3 6 (I2 3 5)) 3 9 (-1) 3 5 = nI s := by rw [rd_k (by decide), rd_k (by decide)]; exact g5
  have m36 : uI (uI I2 3 6 (I2 3 5)) 3 9 (-1) 3 6 = nI s := by rw [rd_k (by decide), rd_eq]; exact g5
  have m37 : uI (uI I2 3 6 (I2 3 5)) 3 9 (-1) 3 7 = I 3 6 := by rw [rd_k (by decide), rd_k (by decide)]; exact g7
  have m39 : uI (uI I2 3 6 (I2 3 5)) 3 9 (-1) 3 9 = -1 := rd_eq
  generalize uI (uI I2 3 6 (I2 3 5)) 3 9 (-1) = M at hF3 m4 m34 m35 m36 m37 m39
  rw [m34, m35, m4, tn_nI (by omega)]
  refine ⟨fun c => ?_, fun c => ?_⟩
  · have hs : s < e := (nlt_nI (by omega) (by omega)).mp c
    -- what no letter begins
    have noL : isLe (T s) = false → P 115 112 [(0, .ref 3), (1, .int (T s))] [] M J R := fun hl => by
      have ht : tok T e a = if isDi (T s) = true then (s, (if rnX isDi T e s - s ≤ 4 then 2 else 4), diN T s (rnX isDi T e s - s), 0, rnX isDi T e s) else (s, (if isSg (T s) = true then 3 else 4), T s, 0, s + 1) := by
        rw [htok]
        unfold tokW
        rw [if_neg (by omega), if_neg (by rw [hl]; decide)]
      have noD : isDi (T s) = false → P 134 112 [(0, .ref 3), (1, .int (T s))] [] M J R := fun hd => by
        rw [if_neg (by rw [hd]; decide)] at ht
        have fin : ∀ v : Int32, v = nI (if isSg (T s) = true then 3 else 4) → Q 0 0 (uI (uI (uI M 3 8 v) 3 11 (T s)) 3 5 (((uI (uI M 3 8 v) 3 11 (T s)) 3 5) + 1)) J R := fun v hv => by
          have e5 : ((uI (uI M 3 8 v) 3 11 (T s)) 3 5) + 1 = nI (s + 1) := by rw [rd_k (by decide), rd_k (by decide), m35, nI_k1]
          rw [e5]
          refine hQ _ _ (((hF3.u ⟨rfl, by decide⟩).u ⟨rfl, by decide⟩).u ⟨rfl, by decide⟩) ?_ ?_
          · refine ⟨?_, ?_, hJ2, ?_, ?_, ?_, ?_, fun q => ?_, fun q => ?_⟩
            · exact (uI_ne (by decide)).trans ((uI_ne (by decide)).trans ((uI_ne (by decide)).trans m4))
            · rw [rd_k (by decide), rd_k (by decide), rd_k (by decide)]; exact m34
            · rw [rd_eq, ht]; rfl
            · rw [rd_k (by decide), rd_k (by decide), rd_k (by decide), ht]; exact m36
            · rw [rd_k (by decide), rd_k (by decide), rd_eq, ht]; exact hv
            · rw [rd_k (by decide), rd_k (by decide), rd_k (by decide), m39, ht]
              unfold tI
              rw [if_neg]
              show ¬ (if isSg (T s) = true then 3 else 4) = 1
              split <;> decide
            · rw [ht] at q
              change (if isSg (T s) = true then 3 else 4) = 1 at q
              split at q <;> exact absurd q (by decide)
            · rw [rd_k (by decide), rd_eq, ht]; rfl
          · rw [rd_k (by decide), rd_k (by decide), rd_k (by decide)]; exact m37
        refine sg_X6_advance_134 hc _ _ _ _ ?_
        refine ⟨fun q => fin _ ?_, fun q => ⟨fun q2 => fin _ ?_, fun q2 => ⟨fun q3 => fin _ ?_, fun q3 => ⟨fun q4 => fin _ ?_, fun q4 => fin _ ?_⟩⟩⟩⟩
        · rw [if_pos (isSg_t.mpr (Or.inl q))]; rfl
        · rw [if_pos (isSg_t.mpr (Or.inr (Or.inl q2)))]; rfl
        · rw [if_pos (isSg_t.mpr (Or.inr (Or.inr (Or.inl q3))))]; rfl
        · rw [if_neg (isSg_no q q2 q3 q4)]; rfl
        · rw [if_pos (isSg_t.mpr (Or.inr (Or.inr (Or.inr q4))))]; rfl
      refine sg_X6_advance_115 hc _ _ _ _ ⟨fun q => noD (bf_of (fun z => (isDi_t.mp z).1 q)), fun q => ⟨fun q2 => noD (bf_of (fun z => (isDi_t.mp z).2 q2)), fun q2 => ?_⟩⟩
      rw [if_pos (isDi_t.mpr ⟨q, q2⟩)] at ht
      refine px_readNumber he (Nat.le_of_lt hs) m4 m34 m35 m36 (fun I3 hF4 h5 h8 h11 => ?_)
      refine hQ _ _ (hF3.tr (hF4.up (WR.up (by decide)) nV.up)) ⟨?_, ?_, hJ2, ?_, ?_, ?_, ?_, fun q => ?_, fun q => ?_⟩ ?_
      · exact (hF4.c (WR.no (by decide))).trans m4
      · rw [hF4.i (by decide)]; exact m34
      · rw [h5, ht]; rfl
      · rw [hF4.i (by decide), ht]; exact m36
      · rw [h8, ht]; rfl
      · rw [hF4.i (by decide), m39, ht]
        unfold tI
        rw [if_neg]
        show ¬ (if rnX isDi T e s - s ≤ 4 then 2 else 4) = 1
        split <;> decide
      · rw [ht] at q
        change (if rnX isDi T e s - s ≤ 4 then 2 else 4) = 1 at q
        split at q <;> exact absurd q (by decide)
      · rw [h11, ht]; rfl
      · rw [hF4.i (by decide)]; exact m37
    refine ⟨vp_nI (by omega) (by omega), fun q => noL (bf_of (fun z => (isLe_t.mp z).1 q)), fun q => ⟨fun q2 => noL (bf_of (fun z => (isLe_t.mp z).2 q2)), fun q2 => ?_⟩⟩
    have ht : tok T e a = (s, 1, 0, leN T s (rnX isLe T e s - s), rnX isLe T e s) := by
      rw [htok]
      unfold tokW
      rw [if_neg (by omega), if_pos (isLe_t.mpr ⟨q, q2⟩)]
    refine px_readWord he (Nat.le_of_lt hs) m4 m34 m35 m36 hJ2 (fun I3 J3 hF4 h5 h8 h9 h10 => ?_)
    refine hQ _ _ (hF3.tr (hF4.up (WR.up (by decide)) (fun _ _ z => z))) ⟨?_, ?_, ?_, ?_, ?_, ?_, ?_, fun _ => ?_, fun q => ?_⟩ ?_
    · exact (hF4.c (WR.no (by decide))).trans m4
    · rw [hF4.i (by decide)]; exact m34
    · intro k hk; rw [hF4.j (by intro z; exact absurd z.1 (by decide))]; exact hJ k hk
    · rw [h5, ht]; rfl
    · rw [hF4.i (by decide), ht]; exact m36
    · rw [h8, ht]; rfl
    · rw [h9, ht]; rfl
    · rw [h10, ht]; rfl
    · rw [ht] at q
      exact absurd (show (2 : Nat) ≤ 1 from q) (by decide)
    · rw [hF4.i (by decide)]; exact m37
  · have hs : s = e := by have := ge_of (a := s) (b := e) (by omega) (by omega) c; omega
    subst hs
    have ht : tok T s a = (s, 0, 0, 0, s) := by
      rw [htok]
      unfold tokW
      rw [if_pos (Nat.le_refl _)]
    refine hQ _ _ (hF3.u ⟨rfl, by decide⟩) ⟨?_, ?_, hJ2, ?_, ?_, ?_, ?_, fun q => ?_, fun q => ?_⟩ ?_
    · exact (uI_ne (by decide)).trans m4
    · rw [rd_k (by decide)]; exact m34
    · rw [rd_k (by decide), ht]; exact m35
    · rw [rd_k (by decide), ht]; exact m36
    · rw [rd_eq, ht]; rfl
    · rw [rd_k (by decide), m39, ht]; rfl
    · rw [ht] at q
      exact absurd (show (0 : Nat) = 1 from q) (by decide)
    · rw [ht] at q
      exact absurd (show (2 : Nat) ≤ 0 from q) (by decide)
    · rw [rd_k (by decide)]; exact m37
end PT5x6
section PT5x7
/-! ===== the scribe's reader: what is taken ===== -/
noncomputable abbrev wsB : List Nat := [5, 6, 7, 8, 9, 11, 12, 13]
noncomputable abbrev FrR (I : Im) (J : Jm) (I2 : Im) (J2 : Jm) : Prop := FrW (WR wsB) VR I J I2 J2
theorem FrW.ab {I I2 : Im} {J J2 : Jm} (h : FrW (WR wsA) VR I J I2 J2) : FrR I J I2 J2 := h.up (WR.up (by decide)) (fun _ _ z => z)
/-- the reader ahead of place a, no fault -/
noncomputable def Rd (T : Nat → Int32) (e a : Nat) (I : Im) (J : Jm) : Prop := RdS T e a I J ∧ (I 3 12 = 0 ∧ I 3 13 = -1) ∧ a ≤ e ∧ e ≤ 900
/-- a fault -/
noncomputable def Ft (p : Nat × Nat) (I : Im) : Prop := I 3 12 = nI p.1 ∧ I 3 13 = nI p.2 ∧ 1 ≤ p.1 ∧ p.1 ≤ 7
theorem Rd.a {T : Nat → Int32} {e a : Nat} {I : Im} {J : Jm} (h : Rd T e a I J) : a ≤ e := h.2.2.1
theorem Rd.e {T : Nat → Int32} {e a : Nat} {I : Im} {J : Jm} (h : Rd T e a I J) : e ≤ 900 := h.2.2.2
theorem Rd.f {T : Nat → Int32} {e a : Nat} {I : Im} {J : Jm} (h : Rd T e a I J) : I 3 12 = 0 := h.2.1.1
theorem Rd.f13 {T : Nat → Int32} {e a : Nat} {I : Im} {J : Jm} (h : Rd T e a I J) : I 3 13 = -1 := h.2.1.2
theorem Rd.s {T : Nat → Int32} {e a : Nat} {I : Im} {J : Jm} (h : Rd T e a I J) : I 3 6 = nI (tS (tok T e a)) := h.1.2.2.2.2.1
theorem Rd.k {T : Nat → Int32} {e a : Nat} {I : Im} {J : Jm} (h : Rd T e a I J) : I 3 8 = nI (tK (tok T e a)) := h.1.2.2.2.2.2.1
theorem Rd.w {T : Nat → Int32} {e a : Nat} {I : Im} {J : Jm} (h : Rd T e a I J) : I 3 9 = tI (tok T e a) := h.1.2.2.2.2.2.2.1
theorem Rd.l {T : Nat → Int32} {e a : Nat} {I : Im} {J : Jm} (h : Rd T e a I J) (q : tK (tok T e a) = 1) : J 3 10 = tW (tok T e a) := h.1.2.2.2.2.2.2.2.1 q
theorem Rd.v {T : Nat → Int32} {e a : Nat} {I : Im} {J : Jm} (h : Rd T e a I J) (q : 2 ≤ tK (tok T e a)) : I 3 11 = tV (tok T e a) := h.1.2.2.2.2.2.2.2.2 q
theorem nK {a b : Nat} (ha : a ≤ 1000) (hb : b ≤ 1000) : (nI a = nI b) ↔ a = b := nI_eq (by omega) (by omega)
theorem Rd.k_is {T : Nat → Int32} {e a n : Nat} {I : Im} {J : Jm} (h : Rd T e a I J) (hn : n ≤ 1000) : I 3 8 = nI n ↔ tK (tok T e a) = n := by
  have := tok_k (T := T) (e := e) (a := a)
  rw [h.k, nK (by omega) hn]
/-- writes elsewhere -/
theorem Rd.o {T : Nat → Int32} {e a : Nat} {I : Im} {J : Jm} (h : Rd T e a I J) {I2 : Im} {J2 : Jm} (h3 : I2 3 = I 3) (h4 : I2 4 = I 4) (j3 : J2 3 = J 3) (j5 : J2 5 = J 5) : Rd T e a I2 J2 := by
  unfold Rd RdS at h ⊢
  rw [h3, h4, j3, j5]
  exact h
theorem mis_in {T : Nat → Int32} {e a : Nat} : 1 ≤ (mis T e a).1 ∧ (mis T e a).1 ≤ 7 := by
  unfold mis
  show (1 ≤ if tK (tok T e a) = 4 then 1 else 2) ∧ (if tK (tok T e a) = 4 then 1 else 2) ≤ 7
  split <;> decide
section TAKE
variable {T : Nat → Int32} {e a d : Nat} {I : Im} {J : Jm} {R : Rm} {Q : Qt}
theorem px_adv (h : Rd T e a I J) (hQ : ∀ I2 J2, FrW (WR wsA) VR I J I2 J2 → Rd T e (tB (tok T e a)) I2 J2 → I2 3 7 = nI (tS (tok T e a)) → Q 0 0 I2 J2 R) : AM (d + 2) 62 112 [.ref 3] I J R Q := by
  have hb := tB_le (T := T) h.a
  refine px_advance h.e hb.2 h.1.1 h.1.2.1 h.1.2.2.2.1 h.1.2.2.1 (fun I2 J2 hF hS h7 => hQ I2 J2 hF ⟨hS, ⟨?_, ?_⟩, hb.2, h.e⟩ (h7.trans h.s))
  · rw [hF.i (by decide)]; exact h.f
  · rw [hF.i (by decide)]; exact h.f13
theorem px_any (h : Rd T e a I J) (hQ : ∀ I2 J2, FrR I J I2 J2 → Rd T e (tB (tok T e a)) I2 J2 → I2 3 7 = nI (tS (tok T e a)) → Q 1 0 I2 J2 R) : AM (d + 3) 68 112 [.ref 3] I J R Q :=
  w_X6_takeAny (px_adv h (fun I2 J2 hF h2 h7 => ⟨Or.inr rfl, hQ I2 J2 hF.ab h2 h7⟩))
theorem px_wrong {k p : Int32} (hQ : FrR I J (uI (uI I 3 12 k) 3 13 p) J → Q 0 0 (uI (uI I 3 12 k) 3 13 p) J R) : AM (d + 1) 65 112 [.ref 3, .int k, .int p] I J R Q :=
  w_X6_wrong ⟨Or.inl rfl, hQ ((FrW.rf.u ⟨rfl, by decide⟩).u ⟨rfl, by decide⟩)⟩
theorem px_mis (h : Rd T e a I J) (hQ : ∀ I2 J2, FrR I J I2 J2 → Ft (mis T e a) I2 → Q 0 0 I2 J2 R) : AM (d + 2) 66 112 [.ref 3] I J R Q := by
  refine w_X6_misplaced ⟨fun c => px_wrong (fun hF _ => ⟨Or.inl rfl, hQ _ _ hF ⟨?_, ?_, ?_⟩⟩), fun c => px_wrong (fun hF _ => ⟨Or.inl rfl, hQ _ _ hF ⟨?_, ?_, ?_⟩⟩)⟩
  · rw [rd_k (by decide), rd_eq]
    unfold mis
    rw [if_neg (fun q => c ((h.k_is (n := 4) (by omega)).mpr q))]; rfl
  · rw [rd_eq]; exact h.s
  · exact mis_in
  · rw [rd_k (by decide), rd_eq]
    unfold mis
    rw [if_pos ((h.k_is (n := 4) (by omega)).mp c)]; rfl
  · rw [rd_eq]; exact h.s
  · exact mis_in
theorem px_wt {k s : Nat} (hk : 1 ≤ k ∧ k ≤ 7) (h7 : I 3 7 = nI s) (hQ : ∀ I2, FrR I J I2 J → Ft (k, s) I2 → Q 0 0 I2 J R) : AM (d + 2) 67 112 [.ref 3, .int (nI k)] I J R Q :=
  w_X6_wrongTaken (px_wrong (fun hF _ => ⟨Or.inl rfl, hQ _ hF ⟨by rw [rd_k (by decide), rd_eq], by rw [rd_eq]; exact h7, hk⟩⟩))
theorem px_word {i : Int32} (h : Rd T e a I J) (hE : ∀ p I2 J2, tkW T e i a = .error p → FrR I J I2 J2 → Ft p I2 → Q 0 0 I2 J2 R) (hK : ∀ b I2 J2, tkW T e i a = .ok ((), b) → FrR I J I2 J2 → Rd T e b I2 J2 → Q 1 0 I2 J2 R) : AM (d + 4) 69 112 [.ref 3, .int i] I J R Q := by
  refine w_X6_takeWord ⟨fun c => px_mis h (fun I2 J2 hF hf _ => ⟨Or.inl rfl, hE _ I2 J2 ?_ hF hf⟩), fun c => px_any h (fun I2 J2 hF h2 h7 _ => ⟨Or.inr rfl, hK _ I2 J2 ?_ hF h2⟩)⟩
  · unfold tkW
    rw [if_neg (fun q => c (h.w.trans q))]
  · unfold tkW
    rw [if_pos (h.w.symm.trans c)]
theorem px_semi (h : Rd T e a I J) (hE : ∀ p I2 J2, tkS T e a = .error p → FrR I J I2 J2 → Ft p I2 → Q 0 0 I2 J2 R) (hK : ∀ b I2 J2, tkS T e a = .ok ((), b) → FrR I J I2 J2 → Rd T e b I2 J2 → Q 1 0 I2 J2 R) : AM (d + 4) 70 112 [.ref 3] I J R Q := by
  refine w_X6_takeSemicolon ⟨fun c => px_mis h (fun I2 J2 hF hf _ => ⟨Or.inl rfl, hE _ I2 J2 ?_ hF hf⟩), fun c => ?_⟩
  · unfold tkS
    rw [if_neg (fun q => c ((h.k_is (n := 3) (by omega)).mpr q))]
  have hk := (h.k_is (n := 3) (by omega)).mp c
  refine ⟨fun c2 => px_mis h (fun I2 J2 hF hf _ => ⟨Or.inl rfl, hE _ I2 J2 ?_ hF hf⟩), fun c2 => px_any h (fun I2 J2 hF h2 h7 _ => ⟨Or.inr rfl, hK _ I2 J2 ?_ hF h2⟩)⟩
  · rw [h.v (by omega)] at c2
    unfold tkS
    rw [if_pos hk, if_neg c2]
  · rw [h.v (by omega)] at c2
    unfold tkS
    rw [if_pos hk, if_pos c2]
theorem px_num {lo hi : Int32} (h : Rd T e a I J) (hE : ∀ p I2 J2, tkN T e lo hi a = .error p → FrR I J I2 J2 → Ft p I2 → Q (-1) 0 I2 J2 R) (hK : ∀ v b I2 J2, tkN T e lo hi a = .ok (v, b) → lo ≤ v → v ≤ hi → FrR I J I2 J2 → Rd T e b I2 J2 → I2 3 7 = nI (tS (tok T e a)) → Q v 0 I2 J2 R) : AM (d + 3) 72 112 [.ref 3, .int lo, .int hi] I J R Q := by
  refine w_X6_takeNumber ⟨fun c => ?_, fun c => px_mis h (fun I2 J2 hF hf _ => hE _ I2 J2 ?_ hF hf)⟩
  · have hk := (h.k_is (n := 2) (by omega)).mp c
    have hv := h.v (by omega)
    refine px_adv h (fun I2 J2 hF h2 h7 => ?_)
    rw [hv]
    refine ⟨fun c2 => px_wt (k := 4) (by decide) h7 (fun I3 hF3 hf _ => hE _ I3 J2 ?_ (hF.ab.tr hF3) hf), fun c2 => ⟨fun c3 => hK _ _ I2 J2 ?_ (by rw [Int32.le_iff_toInt_le]; rw [Int32.lt_iff_toInt_lt] at c2; omega) c3 hF.ab h2 h7, fun c3 => px_wt (k := 4) (by decide) h7 (fun I3 hF3 hf _ => hE _ I3 J2 ?_ (hF.ab.tr hF3) hf)⟩⟩
    · unfold tkN
      rw [if_pos hk, if_pos c2]
    · unfold tkN
      rw [if_pos hk, if_neg c2, if_pos c3]
    · unfold tkN
      rw [if_pos hk, if_neg c2, if_neg c3]
  · unfold tkN
    rw [if_neg (fun q => c ((h.k_is (n := 2) (by omega)).mpr q))]
theorem px_name (h : Rd T e a I J) (hE : ∀ p I2 J2, tkM T e a = .error p → FrR I J I2 J2 → Ft p I2 → Q 0 0 I2 J2 R) (hK : ∀ w b I2 J2, tkM T e a = .ok (w, b) → ¬ w = 0 → FrR I J I2 J2 → Rd T e b I2 J2 → I2 3 7 = nI (tS (tok T e a)) → Q 0 w I2 J2 R) : AM (d + 3) 73 112 [.ref 3] I J R Q := by
  refine w_X6_takeName ⟨fun c => px_mis h (fun I2 J2 hF hf _ => hE _ I2 J2 ?_ hF hf), fun c => ?_⟩
  · unfold tkM
    rw [if_neg (fun q => c (h.w.trans q))]
  have hi : tI (tok T e a) = 0 := h.w.symm.trans c
  have hk := tI_k (t := tok T e a) (by rw [hi]; decide)
  rw [h.l hk, lg_cmp_eq]
  refine ⟨fun c2 => px_adv h (fun I2 J2 hF h2 h7 => hK _ _ I2 J2 ?_ c2 hF.ab h2 h7), fun c2 => px_mis h (fun I2 J2 hF hf _ => hE _ I2 J2 ?_ hF hf)⟩
  · unfold tkM
    rw [if_pos hi, if_neg c2]
  · unfold tkM
    rw [if_pos hi, if_pos c2]
end TAKE
end PT5x7
section PT5x8
/-! ===== the scribe reads a bakery ===== -/
theorem aL_4096 (a : Nat) : aL a ≤ 4096 := aL_le a
theorem px_fill {d : Nat} {Q : Qt} {v0 : Nat} {v1 : Int32} {I : Im} {J : Jm} {R : Rm} (ha : isA 112 v0 0 = true) (hQ : ∀ (I2 : Im), (∀ i, i ≠ v0 → I2 i = I i) → (∀ k, I2 v0 k = if k < aL v0 then v1 else I v0 k) → Q 0 0 I2 J R) : AM (d + 1) 321 112 [.ref v0, .int v1] I J R Q := by
  refine am_J7_fill_53178 (fun P hc => ?_)
  have hle := aL_4096 v0
  have L : ∀ n i : Nat, ∀ I1 : Im, aL v0 - i < n → i ≤ aL v0 → (∀ i, i ≠ v0 → I1 i = I i) → (∀ k, I1 v0 k = if k < i then v1 else I v0 k) → P 5 112 [(0, .ref v0), (1, .int v1), (2, .int (nI i)), (3, .int (Int32.ofNat (aL v0)))] [] I1 J R := by
    intro n
    induction n with
    | zero => intro i I1 h; omega
    | succ n ih =>
      intro i I1 hm hi hI hk
      have hiI : (nI i).toInt = i := nI_toInt (by omega)
      refine sg_J7_fill_53178_5 hc _ _ _ _ _ _ _ ⟨fun c => ?_, fun c => ?_⟩
      · have d1 := ci_le (ofNat_ti hle) hiI c
        obtain rfl : i = aL v0 := by omega
        exact hQ _ hI hk
      · have d1 := ci_nle (ofNat_ti hle) hiI c
        refine bif_t ha ⟨vp_of hiI (by omega) (by omega), ?_⟩
        rw [nI_k1, tn_nI (by omega)]
        refine ih (i + 1) _ (by omega) (by omega) (fun j hj => by rw [uI_ne hj]; exact hI j hj) (fun k => ?_)
        by_cases q : k = i
        · subst q; rw [rd_eq, if_pos (by omega)]
        · rw [rd_k q, hk k]
          by_cases q2 : k < i
          · rw [if_pos q2, if_pos (by omega)]
          · rw [if_neg q2, if_neg (by omega)]
  refine sg_J7_fill_53178_0 hc _ _ _ _ _ ?_
  refine bif_tF ha ?_
  exact L (aL v0 + 1) 0 _ (by omega) (by omega) (fun _ _ => rfl) (fun k => by rw [if_neg (by omega)])
/-- a bakery's object holds what a block tells -/
noncomputable def BkC (C : Nat → Int32) (N : Nat → Int64) (o : Nat) (I : Im) (J : Jm) : Prop := I o 4 = C 0 ∧ I o 1 = C 1 ∧ I o 3 = C 2 ∧ I o 2 = C 3 ∧ (∀ d, 1 ≤ d → d ≤ 30 → I (o + 1) d = C (3 + d)) ∧ ∀ k, k < mnN C → J (o + 2) k = N k ∧ I (o + 3) k = C (34 + k) ∧ I (o + 4) k = C (40 + k) ∧ I (o + 5) k = C (46 + k)
noncomputable def BkS (B : BS) (o : Nat) (I : Im) (J : Jm) : Prop := BkC B.1 B.2.1 o I J ∧ I 6 0 = B.2.2.1 ∧ I 6 1 = B.2.2.2.1 ∧ I 6 2 = B.2.2.2.2
theorem BkC.cp {C : Nat → Int32} {N : Nat → Int64} {o : Nat} {I I2 : Im} {J J2 : Jm} (h : BkC C N o I J) (hI : ∀ c, o ≤ c → c ≤ o + 5 → I2 c = I c) (hJ : J2 (o + 2) = J (o + 2)) : BkC C N o I2 J2 := by
  unfold BkC at h ⊢
  rw [hI o (by omega) (by omega), hI (o + 1) (by omega) (by omega), hI (o + 3) (by omega) (by omega), hI (o + 4) (by omega) (by omega), hI (o + 5) (by omega) (by omega), hJ]
  exact h
section BKC
variable {C : Nat → Int32} {N : Nat → Int64} {o : Nat} {I : Im} {J : Jm} {v : Int32}
theorem BkC.odds (h : BkC C N o I J) : BkC (upd C 1 v) N o (uI I o 1 v) J := by
  obtain ⟨b1, b2, b3, b4, b5, b6⟩ := h
  refine ⟨?_, ?_, ?_, ?_, fun d h1 h2 => ?_, fun k hk => ?_⟩
  · rw [rd_k (by decide), upd_i (by decide)]; exact b1
  · rw [rd_eq, upd_s]
  · rw [rd_k (by decide), upd_i (by decide)]; exact b3
  · rw [rd_k (by decide), upd_i (by decide)]; exact b4
  · rw [rd_ne (by first | decide | omega), upd_i (by omega)]; exact b5 d h1 h2
  · rw [mnN_u (by decide)] at hk
    rw [rd_ne (by first | decide | omega), rd_ne (by first | decide | omega), rd_ne (by first | decide | omega), upd_i (by omega), upd_i (by omega), upd_i (by omega)]
    exact b6 k hk
theorem BkC.cuts (h : BkC C N o I J) : BkC (upd C 2 v) N o (uI I o 3 v) J := by
  obtain ⟨b1, b2, b3, b4, b5, b6⟩ := h
  refine ⟨?_, ?_, ?_, ?_, fun d h1 h2 => ?_, fun k hk => ?_⟩
  · rw [rd_k (by decide), upd_i (by decide)]; exact b1
  · rw [rd_k (by decide), upd_i (by decide)]; exact b2
  · rw [rd_eq, upd_s]
  · rw [rd_k (by decide), upd_i (by decide)]; exact b4
  · rw [rd_ne (by first | decide | omega), upd_i (by omega)]; exact b5 d h1 h2
  · rw [mnN_u (by decide)] at hk
    rw [rd_ne (by first | decide | omega), rd_ne (by first | decide | omega), rd_ne (by first | decide | omega), upd_i (by omega), upd_i (by omega), upd_i (by omega)]
    exact b6 k hk
theorem BkC.known (h : BkC C N o I J) : BkC (upd C 3 v) N o (uI I o 2 v) J := by
  obtain ⟨b1, b2, b3, b4, b5, b6⟩ := h
  refine ⟨?_, ?_, ?_, ?_, fun d h1 h2 => ?_, fun k hk => ?_⟩
  · rw [rd_k (by decide), upd_i (by decide)]; exact b1
  · rw [rd_k (by decide), upd_i (by decide)]; exact b2
  · rw [rd_k (by decide), upd_i (by decide)]; exact b3
  · rw [rd_eq, upd_s]
  · rw [rd_ne (by first | decide | omega), upd_i (by omega)]; exact b5 d h1 h2
  · rw [mnN_u (by decide)] at hk
    rw [rd_ne (by first | decide | omega), rd_ne (by first | decide | omega), rd_ne (by first | decide | omega), upd_i (by omega), upd_i (by omega), upd_i (by omega)]
    exact b6 k hk
theorem BkC.store {d : Nat} (h : BkC C N o I J) (h1 : 1 ≤ d) (h30 : d ≤ 30) : BkC (upd C (3 + d) v) N o (uI I (o + 1) d v) J := by
  obtain ⟨b1, b2, b3, b4, b5, b6⟩ := h
  refine ⟨?_, ?_, ?_, ?_, fun c h1 h2 => ?_, fun k hk => ?_⟩
  · rw [rd_ne (by first | decide | omega), upd_i (by omega)]; exact b1
  · rw [rd_ne (by first | decide | omega), upd_i (by omega)]; exact b2
  · rw [rd_ne (by first | decide | omega), upd_i (by omega)]; exact b3
  · rw [rd_ne (by first | decide | omega), upd_i (by omega)]; exact b4
  · by_cases q : c = d
    · subst q; rw [rd_eq, upd_s]
    · rw [rd_k q, upd_i (by omega)]; exact b5 c h1 h2
  · rw [mnN_u (by omega)] at hk
    rw [rd_ne (by first | decide | omega), rd_ne (by first | decide | omega), rd_ne (by first | decide | omega), upd_i (by omega), upd_i (by omega), upd_i (by omega)]
    exact b6 k hk
theorem BkC.having {m : Nat} (h : BkC C N o I J) (hm : m ≤ 5) (h6 : mnN C ≤ 6) : BkC (upd C (46 + m) v) N o (uI I (o + 5) m v) J := by
  obtain ⟨b1, b2, b3, b4, b5, b6⟩ := h
  refine ⟨?_, ?_, ?_, ?_, fun c h1 h2 => ?_, fun k hk => ?_⟩
  · rw [rd_ne (by first | decide | omega), upd_i (by omega)]; exact b1
  · rw [rd_ne (by first | decide | omega), upd_i (by omega)]; exact b2
  · rw [rd_ne (by first | decide | omega), upd_i (by omega)]; exact b3
  · rw [rd_ne (by first | decide | omega), upd_i (by omega)]; exact b4
  · rw [rd_ne (by first | decide | omega), upd_i (by omega)]; exact b5 c h1 h2
  · rw [mnN_u (by omega)] at hk
    obtain ⟨c1, c2, c3, c4⟩ := b6 k hk
    refine ⟨c1, ?_, ?_, ?_⟩
    · rw [rd_ne (by first | decide | omega), upd_i (by omega)]; exact c2
    · rw [rd_ne (by first | decide | omega), upd_i (by omega)]; exact c3
    · by_cases q : k = m
      · subst q; rw [rd_eq, upd_s]
      · rw [rd_k q, upd_i (by omega)]; exact c4
/-- a man more -/
theorem BkC.man {m : Nat} {w : Int64} {p q s : Int32} (h : BkC C N o I J) (hm : m ≤ 5) (e : C 0 = nI m) : BkC (upd (upd (upd (upd C (34 + m) p) (40 + m) q) (46 + m) s) 0 (nI m + 1)) (vp_updL N m w) o (uI (uI (uI (uI I (o + 3) m p) (o + 4) m q) (o + 5) m s) o 4 (nI m + 1)) (uJ J (o + 2) m w) := by
  have e2 : mnN C = m := mnN_of (by omega) e
  obtain ⟨b1, b2, b3, b4, b5, b6⟩ := h
  refine ⟨?_, ?_, ?_, ?_, fun c h1 h2 => ?_, fun k hk => ?_⟩
  · rw [rd_eq, upd_s]
  · rw [rd_k (by decide), rd_ne (by first | decide | omega), rd_ne (by first | decide | omega), rd_ne (by first | decide | omega), upd_i (by omega), upd_i (by omega), upd_i (by omega), upd_i (by omega)]; exact b2
  · rw [rd_k (by decide), rd_ne (by first | decide | omega), rd_ne (by first | decide | omega), rd_ne (by first | decide | omega), upd_i (by omega), upd_i (by omega), upd_i (by omega), upd_i (by omega)]; exact b3
  · rw [rd_k (by decide), rd_ne (by first | decide | omega), rd_ne (by first | decide | omega), rd_ne (by first | decide | omega), upd_i (by omega), upd_i (by omega), upd_i (by omega), upd_i (by omega)]; exact b4
  · rw [rd_ne (by first | decide | omega), rd_ne (by first | decide | omega), rd_ne (by first | decide | omega), rd_ne (by first | decide | omega), upd_i (by omega), upd_i (by omega), upd_i (by omega), upd_i (by omega)]; exact b5 c h1 h2
  · have hk2 : k < m + 1 := by
      have : mnN (upd (upd (upd (upd C (34 + m) p) (40 + m) q) (46 + m) s) 0 (nI m + 1)) = m + 1 := mnN_of (by omega) (by rw [upd_s, nI_k1])
      omega
    by_cases z : k = m
    · subst z
      refine ⟨by rw [rj_eq]; simp [vp_updL], ?_, ?_, ?_⟩
      · rw [rd_ne (by first | decide | omega), rd_ne (by first | decide | omega), rd_ne (by first | decide | omega), rd_eq, upd_i (by omega), upd_i (by omega), upd_i (by omega), upd_s]
      · rw [rd_ne (by first | decide | omega), rd_ne (by first | decide | omega), rd_eq, upd_i (by omega), upd_i (by omega), upd_s]
      · rw [rd_ne (by first | decide | omega), rd_eq, upd_i (by omega), upd_s]
    · obtain ⟨c1, c2, c3, c4⟩ := b6 k (by omega)
      refine ⟨by rw [rj_k z]; simp [vp_updL, z]; exact c1, ?_, ?_, ?_⟩
      · rw [rd_ne (by first | decide | omega), rd_ne (by first | decide | omega), rd_ne (by first | decide | omega), rd_k z, upd_i (by omega), upd_i (by omega), upd_i (by omega), upd_i (by omega)]; exact c2
      · rw [rd_ne (by first | decide | omega), rd_ne (by first | decide | omega), rd_k z, rd_ne (by first | decide | omega), upd_i (by omega), upd_i (by omega), upd_i (by omega), upd_i (by omega)]; exact c3
      · rw [rd_ne (by first | decide | omega), rd_k z, rd_ne (by first | decide | omega), rd_ne (by first | decide | omega), upd_i (by omega), upd_i (by omega), upd_i (by omega), upd_i (by omega)]; exact c4
end BKC
noncomputable abbrev WB (o : Nat) : Nat → Nat → Prop := fun c k => (c = 3 ∧ k ∈ wsB) ∨ c = 6 ∨ (o ≤ c ∧ c ≤ o + 5)
noncomputable abbrev VB (o : Nat) : Nat → Nat → Prop := fun c k => (c = 3 ∧ k = 10) ∨ c = o + 2
noncomputable abbrev FrB (o : Nat) (I : Im) (J : Jm) (I2 : Im) (J2 : Jm) : Prop := FrW (WB o) (VB o) I J I2 J2
theorem FrW.rb {o : Nat} {I I2 : Im} {J J2 : Jm} (h : FrR I J I2 J2) : FrB o I J I2 J2 := h.up (fun _ _ q => Or.inl q) (fun _ _ q => Or.inl q)
theorem FrW.six {o : Nat} {I I2 : Im} {J J2 : Jm} (h : FrR I J I2 J2) (ho : ¬ o = 3) : I2 o = I o := h.c (WR.no ho)
theorem VR.no {o : Nat} (h : ¬ o = 3) : ∀ k, ¬ VR o k := fun _ q => h q.1
theorem BkS.r {B : BS} {o : Nat} {I I2 : Im} {J J2 : Jm} (h : BkS B o I J) (ho : 9 ≤ o) (hF : FrR I J I2 J2) : BkS B o I2 J2 := by
  obtain ⟨h1, h2⟩ := h
  refine ⟨h1.cp (fun c a b => hF.six (by omega)) (hF.cj (VR.no (by omega))), ?_⟩
  rw [hF.six (o := 6) (by decide)]
  exact h2
/-- a write into one of the bakery's own cells leaves the reader -/
theorem Rd.w_ {T : Nat → Int32} {e a c k : Nat} {I : Im} {J : Jm} {v : Int32} (h : Rd T e a I J) (hc : ¬ c = 3) (hc4 : ¬ c = 4) : Rd T e a (uI I c k v) J := h.o (uI_ne (fun q => hc q.symm)) (uI_ne (fun q => hc4 q.symm)) rfl rfl
theorem Ft.w_ {p : Nat × Nat} {c k : Nat} {I : Im} {v : Int32} (h : Ft p I) (hc : ¬ c = 3) : Ft p (uI I c k v) := by
  unfold Ft at h ⊢
  rw [uI_ne (fun q => hc q.symm)]
  exact h
/-- is a slice -/
theorem px_isSlice {d : Nat} {Q : Qt} {v0 : Int32} {I : Im} {J : Jm} {R : Rm} (hY : (1 : Int32) ≤ v0 → v0 ≤ 30 → Q 1 0 I J R) (hN : v0 < 1 ∨ 30 < v0 → Q 0 0 I J R) : AM (d + 1) 161 112 [.int v0] I J R Q := by
  refine w_X11_isSlice ⟨fun c => ⟨Or.inl rfl, hN (Or.inl c)⟩, fun c => ⟨fun c2 => ⟨Or.inl rfl, hN (Or.inr c2)⟩, fun c2 => ⟨Or.inr rfl, hY ?_ ?_⟩⟩⟩
  · rw [Int32.le_iff_toInt_le]; rw [Int32.lt_iff_toInt_lt] at c; omega
  · rw [Int32.le_iff_toInt_le]; rw [Int32.lt_iff_toInt_lt] at c2; omega
theorem px_isIn {d : Nat} {Q : Qt} {v0 v1 : Int32} {I : Im} {J : Jm} {R : Rm} (hY : inS v0 v1 = true → Q 1 0 I J R) (hN : inS v0 v1 = false → Q 0 0 I J R) : AM (d + 1) 166 112 [.int v0, .int v1] I J R Q := by
  refine w_X11_isIn ⟨fun c => ⟨Or.inl rfl, hN ?_⟩, fun c => ⟨Or.inr rfl, hY ?_⟩⟩
  · unfold inS; rw [Bool.not_eq_false', decide_eq_true_eq]; exact c
  · unfold inS; rw [Bool.not_eq_true', decide_eq_false_iff_not]; exact c
theorem sl_no {v : Int32} (h1 : (1 : Int32) ≤ v) (h2 : v ≤ 30) : ¬ (v < 1 ∨ 30 < v) := by
  rw [Int32.le_iff_toInt_le] at h1 h2
  rw [Int32.lt_iff_toInt_lt, Int32.lt_iff_toInt_lt]
  omega
theorem sl_yes : ¬ ((1 : Int32) ≤ -1) := by decide
theorem Ft.ne {p : Nat × Nat} {I : Im} (h : Ft p I) : ¬ I 3 12 = 0 := fun q => by
  rw [h.1] at q
  have := (nK (a := p.1) (b := 0) (by have := h.2.2.2; omega) (by omega)).mp q
  have := h.2.2.1
  omega
theorem rd_sl {d : Nat} {Q : Nat → Qt} {P : Kt} (hc : Cl (AM (d + 3)) true false 0 (fun _ => 0) 1 112 kX1_takeSlices Q P) {T : Nat → Int32} {e a0 : Nat} {I0 : Im} {J0 : Jm} {R : Rm} (hE : ∀ p x I2 J2, tkL T e 31 0 a0 = .error p → FrR I0 J0 I2 J2 → Ft p I2 → Q 112 x 0 I2 J2 R) (hK : ∀ s b I2 J2, tkL T e 31 0 a0 = .ok (s, b) → FrR I0 J0 I2 J2 → Rd T e b I2 J2 → Q 112 s 0 I2 J2 R) :
    ∀ (f i a : Nat) (set : Int32) (I : Im) (J : Jm), i + f = 31 → tkL T e 31 0 a0 = tkL T e f set a → FrR I0 J0 I J → Rd T e a I J → P 4 112 [(0, .ref 3), (1, .int set), (2, .int (nI i))] [] I J R := by
  have bad : ∀ p (v : Int32) (i : Nat) (I : Im) (J : Jm), tkL T e 31 0 a0 = .error p → FrR I0 J0 I J → Ft p I → P 4 112 [(0, .ref 3), (1, .int v), (2, .int (nI i))] [] I J R := fun p v i I J he hF hf =>
    sg_X1_takeSlices_4 hc _ _ _ _ _ ⟨fun _ => hE p v I J he hF hf, fun _ => ⟨fun _ => hE p v I J he hF hf, fun c => absurd c hf.ne⟩⟩
  intro f
  induction f with
  | zero =>
    intro i a set I J hi hv hF h
    refine sg_X1_takeSlices_4 hc _ _ _ _ _ ⟨fun _ => hK _ _ I J hv hF h, fun c => absurd ?_ c⟩
    rw [show i = 31 by omega]; decide
  | succ f ih =>
    intro i a set I J hi hv hF h
    refine sg_X1_takeSlices_4 hc _ _ _ _ _ ⟨fun c => absurd ((nlt_nI (a := 30) (by omega) (by omega)).mp c) (by omega), fun _ => ⟨fun c => absurd h.f c, fun _ => ⟨fun c => ?_, fun c => ?_⟩⟩⟩
    · have hk : ¬ tK (tok T e a) = 2 := fun q => c ((h.k_is (n := 2) (by omega)).mpr q)
      refine hK set a I J ?_ hF h
      rw [hv]; unfold tkL; rw [if_neg hk]
    · have hk : tK (tok T e a) = 2 := (h.k_is (n := 2) (by omega)).mp c
      have hv2 : tkL T e (f + 1) set a = rb (tkN T e 1 30 a) (fun v b => if inS set v = true then .error (5, tS (tok T e a)) else tkL T e f (set ||| biS v) b) := by
        conv => lhs; unfold tkL
        rw [if_pos hk]
      rw [hv2] at hv
      refine px_num h (fun p I2 J2 hp hF2 hf => ?_) (fun v b I2 J2 hp l1 l2 hF2 h2 h7 => ?_)
      · rw [rb_e hp] at hv
        refine px_isSlice (fun q => absurd q sl_yes) (fun _ _ => ⟨fun _ => ?_, fun q => absurd rfl q⟩)
        refine px_isSlice (fun q => absurd q sl_yes) (fun _ _ => ⟨fun _ => ?_, fun q => absurd rfl q⟩)
        rw [nI_k1]
        exact bad p _ _ _ _ hv (hF.tr hF2) hf
      · rw [rb_k hp] at hv
        refine px_isSlice (fun _ _ _ => ⟨fun q => absurd q (by decide), fun _ => ?_⟩) (fun q => absurd q (sl_no l1 l2))
        refine px_isIn (fun hi _ => ⟨fun q => absurd q (by decide), fun _ => ?_⟩) (fun hi _ => ⟨fun _ => ?_, fun q => absurd rfl q⟩)
        · rw [if_pos hi] at hv
          refine px_wt (k := 5) (by decide) h7 (fun I3 hF3 hf _ => ?_)
          rw [nI_k1]
          exact bad _ _ _ _ _ hv (hF.tr (hF2.tr hF3)) hf
        · rw [if_neg (by rw [hi]; decide)] at hv
          refine px_isSlice (fun _ _ _ => ⟨fun q => absurd q (by decide), fun _ => w_X11_bit ?_⟩) (fun q => absurd q (sl_no l1 l2))
          rw [nI_k1]
          exact ih (i + 1) b _ I2 J2 (by omega) hv (hF.tr hF2) h2
section RB
variable {T : Nat → Int32} {e a d o : Nat} {I : Im} {J : Jm} {R : Rm} {Q : Qt} {B : BS}
theorem px_slices (h : Rd T e a I J) (hE : ∀ p x I2 J2, tkL T e 31 0 a = .error p → FrR I J I2 J2 → Ft p I2 → Q x 0 I2 J2 R) (hK : ∀ s b I2 J2, tkL T e 31 0 a = .ok (s, b) → FrR I J I2 J2 → Rd T e b I2 J2 → Q s 0 I2 J2 R) : AM (d + 4) 26 112 [.ref 3] I J R Q :=
  am_X1_takeSlices (fun P hc => sg_X1_takeSlices_0 hc _ _ _ (rd_sl hc hE hK 31 0 a 0 I J rfl rfl FrW.rf h))
theorem px_rOdds (ho : 9 ≤ o) (hO : isO 112 o 0 = true) (h : Rd T e a I J) (hB : BkS B o I J) (hE : ∀ p I2 J2, prO T e B a = .error p → FrB o I J I2 J2 → Ft p I2 → Q 0 0 I2 J2 R) (hK : ∀ B2 b I2 J2, prO T e B a = .ok (B2, b) → FrB o I J I2 J2 → Rd T e b I2 J2 → BkS B2 o I2 J2 → Q 1 0 I2 J2 R) : AM (d + 5) 22 112 [.ref 6, .ref o, .ref 3] I J R Q := by
  refine w_X1_readOdds (px_any h (fun I1 J1 hF1 h1 h7 _ => ⟨fun c => ⟨Or.inr rfl, ?_⟩, fun c => ?_⟩))
  all_goals have hB1 := hB.r ho hF1
  · rw [hB1.2.1] at c
    have hv : prO T e B a = rb (tkN T e 0 16 (tB (tok T e a))) fun v b => rb (tkS T e b) fun _ b => .ok ((upd B.1 1 v, B.2.1, 1, B.2.2.2.1, B.2.2.2.2), b) := by
      unfold prO; rw [if_pos c]
    have hFw : FrB o I J (uI I1 6 0 1) J1 := hF1.rb.u (Or.inr (Or.inl rfl))
    have hBw : BkS (B.1, B.2.1, 1, B.2.2.2.1, B.2.2.2.2) o (uI I1 6 0 1) J1 := ⟨hB1.1.cp (fun c _ _ => uI_ne (by first | decide | omega)) rfl, rd_eq, by rw [rd_k (by decide)]; exact hB1.2.2.1, by rw [rd_k (by decide)]; exact hB1.2.2.2⟩
    refine px_num (h1.w_ (by decide) (by decide)) (fun p I2 J2 hp hF2 hf => ?_) (fun v b I2 J2 hp l1 l2 hF2 h2 h72 => ?_)
    · refine bif_t hO (bif_t hO ⟨fun _ => ⟨Or.inl rfl, hE p _ _ (by rw [hv, rb_e hp]) ((hFw.tr hF2.rb).u (Or.inr (Or.inr ⟨Nat.le_refl _, by omega⟩))) (hf.w_ (by omega))⟩, fun q => absurd rd_eq q⟩)
    · have hn : ¬ v = -1 := fun q => by rw [q] at l1; exact absurd l1 (by decide)
      refine bif_t hO (bif_t hO ⟨fun q => absurd ((rd_eq (I := I2) (o := o) (j := 1) (v := v)).symm.trans q) hn, fun _ => ?_⟩)
      have hF3 : FrB o I J (uI I2 o 1 v) J2 := (hFw.tr hF2.rb).u (Or.inr (Or.inr ⟨Nat.le_refl _, by omega⟩))
      have hB3 := hBw.r ho hF2
      have hB4 : BkS (upd B.1 1 v, B.2.1, 1, B.2.2.2.1, B.2.2.2.2) o (uI I2 o 1 v) J2 := by
        obtain ⟨b1, b7⟩ := hB3
        exact ⟨b1.odds, by rw [uI_ne (a := o) (by omega)]; exact b7⟩
      refine px_semi (h2.w_ (by omega) (by omega)) (fun p I4 J4 hp4 hF4 hf _ => ⟨fun _ => ⟨Or.inl rfl, hE p _ _ (by rw [hv, rb_k hp, rb_e hp4]) (hF3.tr hF4.rb) hf⟩, fun q => absurd rfl q⟩) (fun b2 I4 J4 hp4 hF4 h4 _ => ⟨fun q => absurd q (by decide), fun _ => ⟨Or.inr rfl, hK _ _ _ _ (by rw [hv, rb_k hp, rb_k hp4]) (hF3.tr hF4.rb) h4 (hB4.r ho hF4)⟩⟩)
  · rw [hB1.2.1] at c
    refine px_wt (k := 5) (by decide) h7 (fun I2 hF2 hf _ => ⟨Or.inl rfl, hE _ _ _ ?_ (hF1.rb.tr hF2.rb) hf⟩)
    unfold prO; rw [if_neg c]
end RB
end PT5x8
section PT5x9
/-! ===== the scribe reads a bakery: store, known, men ===== -/
section RB2
variable {T : Nat → Int32} {e a d o : Nat} {I : Im} {J : Jm} {R : Rm} {Q : Qt} {B : BS}
theorem px_rKnown (ho : 9 ≤ o) (hO : isO 112 o 0 = true) (h : Rd T e a I J) (hB : BkS B o I J) (hE : ∀ p I2 J2, prK T e B a = .error p → FrB o I J I2 J2 → Ft p I2 → Q 0 0 I2 J2 R) (hK : ∀ B2 b I2 J2, prK T e B a = .ok (B2, b) → FrB o I J I2 J2 → Rd T e b I2 J2 → BkS B2 o I2 J2 → Q 1 0 I2 J2 R) : AM (d + 5) 25 112 [.ref 6, .ref o, .ref 3] I J R Q := by
  refine w_X1_readKnown (px_any h (fun I1 J1 hF1 h1 h7 _ => ⟨fun c => ⟨Or.inr rfl, ?_⟩, fun c => ?_⟩))
  all_goals have hB1 := hB.r ho hF1
  · rw [hB1.2.2.1] at c
    have hv : prK T e B a = rb (tkL T e 31 0 (tB (tok T e a))) fun s b => rb (tkS T e b) fun _ b => .ok ((upd B.1 3 s, B.2.1, B.2.2.1, 1, B.2.2.2.2), b) := by
      unfold prK; rw [if_pos c]
    have hFw : FrB o I J (uI I1 6 1 1) J1 := hF1.rb.u (Or.inr (Or.inl rfl))
    have hBw : BkS (B.1, B.2.1, B.2.2.1, 1, B.2.2.2.2) o (uI I1 6 1 1) J1 := ⟨hB1.1.cp (fun c _ _ => uI_ne (by first | decide | omega)) rfl, by rw [rd_k (by decide)]; exact hB1.2.1, rd_eq, by rw [rd_k (by decide)]; exact hB1.2.2.2⟩
    refine px_slices (h1.w_ (by decide) (by decide)) (fun p x I2 J2 hp hF2 hf => ?_) (fun v b I2 J2 hp hF2 h2 => ?_)
    · have hf2 : Ft p (uI I2 o 2 x) := hf.w_ (by omega)
      exact bif_t hO ⟨fun _ => ⟨Or.inl rfl, hE p _ _ (by rw [hv, rb_e hp]) ((hFw.tr hF2.rb).u (Or.inr (Or.inr ⟨Nat.le_refl _, by omega⟩))) hf2⟩, fun q => absurd q hf2.ne⟩
    · have hF3 : FrB o I J (uI I2 o 2 v) J2 := (hFw.tr hF2.rb).u (Or.inr (Or.inr ⟨Nat.le_refl _, by omega⟩))
      have h3 : Rd T e b (uI I2 o 2 v) J2 := h2.w_ (by omega) (by omega)
      have hB3 := hBw.r ho hF2
      have hB4 : BkS (upd B.1 3 v, B.2.1, B.2.2.1, 1, B.2.2.2.2) o (uI I2 o 2 v) J2 := by
        obtain ⟨b1, b7⟩ := hB3
        exact ⟨b1.known, by rw [uI_ne (a := o) (by omega)]; exact b7⟩
      refine bif_t hO ⟨fun q => absurd h3.f q, fun _ => ?_⟩
      exact px_semi h3 (fun p I4 J4 hp4 hF4 hf _ => ⟨fun _ => ⟨Or.inl rfl, hE p _ _ (by rw [hv, rb_k hp, rb_e hp4]) (hF3.tr hF4.rb) hf⟩, fun q => absurd rfl q⟩) (fun b2 I4 J4 hp4 hF4 h4 _ => ⟨fun q => absurd q (by decide), fun _ => ⟨Or.inr rfl, hK _ _ _ _ (by rw [hv, rb_k hp, rb_k hp4]) (hF3.tr hF4.rb) h4 (hB4.r ho hF4)⟩⟩)
  · rw [hB1.2.2.1] at c
    refine px_wt (k := 5) (by decide) h7 (fun I2 hF2 hf _ => ⟨Or.inl rfl, hE _ _ _ ?_ (hF1.rb.tr hF2.rb) hf⟩)
    unfold prK; rw [if_neg c]
theorem px_rStore (ho : 9 ≤ o) (hO : isO 112 o 0 = true) (h : Rd T e a I J) (hB : BkS B o I J) (hE : ∀ p I2 J2, prS T e B a = .error p → FrB o I J I2 J2 → Ft p I2 → Q 0 0 I2 J2 R) (hK : ∀ B2 b I2 J2, prS T e B a = .ok (B2, b) → FrB o I J I2 J2 → Rd T e b I2 J2 → BkS B2 o I2 J2 → Q 1 0 I2 J2 R) : AM (d + 5) 23 112 [.ref 6, .ref o, .ref 3] I J R Q := by
  refine am_X1_readStore (fun P hc => ?_)
  obtain ⟨hA, hL, -⟩ := fa_0_0 hO
  -- what stands behind the count
  have tail : ∀ (v n : Int32) (b : Nat) (I2 : Im) (J2 : Jm), (1 : Int32) ≤ v → v ≤ 30 → ¬ n = -1 → prS T e B a = (rb (tkS T e b) fun _ b => .ok ((upd B.1 (3 + v.toNatClampNeg) n, B.2.1, B.2.2.1, B.2.2.2.1, B.2.2.2.2 ||| biS v), b)) → FrB o I J I2 J2 → Rd T e b I2 J2 → BkS (B.1, B.2.1, B.2.2.1, B.2.2.2.1, B.2.2.2.2 ||| biS v) o I2 J2 → P 77 112 [(1, .ref o), (2, .ref 3), (3, .int v), (4, .int n)] [] I2 J2 R := fun v n b I2 J2 l1 l2 hn hv hF h2 hB2 => by
    obtain ⟨t1, t2, t3, t4⟩ := tn_sl l1 l2
    refine sg_X1_readStore_77 hc _ _ _ _ _ _ (bif_t hO (bif_t hA ⟨vp_of t4 (by omega) (by omega), fun q => absurd q hn, fun _ => ?_⟩))
    have hF3 : FrB o I J (uI I2 (o + 1) v.toNatClampNeg n) J2 := hF.u (Or.inr (Or.inr ⟨by omega, by omega⟩))
    have hB4 : BkS (upd B.1 (3 + v.toNatClampNeg) n, B.2.1, B.2.2.1, B.2.2.2.1, B.2.2.2.2 ||| biS v) o (uI I2 (o + 1) v.toNatClampNeg n) J2 := by
      obtain ⟨b1, b7⟩ := hB2
      exact ⟨b1.store t1 t2, by rw [uI_ne (a := o + 1) (by omega)]; exact b7⟩
    exact px_semi (h2.w_ (by omega) (by omega)) (fun p I4 J4 hp4 hF4 hf _ => ⟨fun _ => ⟨Or.inl rfl, hE p _ _ (by rw [hv, rb_e hp4]) (hF3.tr hF4.rb) hf⟩, fun q => absurd rfl q⟩) (fun b2 I4 J4 hp4 hF4 h4 _ => ⟨fun q => absurd q (by decide), fun _ => ⟨Or.inr rfl, hK _ _ _ _ (by rw [hv, rb_k hp4]) (hF3.tr hF4.rb) h4 (hB4.r ho hF4)⟩⟩)
  refine sg_X1_readStore_0 hc _ _ _ _ (px_any h (fun I1 J1 hF1 h1 h7 _ => ?_))
  have hB1 := hB.r ho hF1
  refine px_num h1 (fun p I2 J2 hp hF2 hf => ?_) (fun v b I2 J2 hp l1 l2 hF2 h2 h72 => ?_)
  · refine px_isSlice (fun q => absurd q sl_yes) (fun _ _ => ⟨fun q => absurd rfl q, fun _ => ⟨Or.inl rfl, hE p _ _ (by unfold prS; rw [rb_e hp]) (hF1.rb.tr hF2.rb) hf⟩⟩)
  · have hv : prS T e B a = if inS B.2.2.2.2 v = true then .error (5, tS (tok T e (tB (tok T e a)))) else rb (if tI (tok T e b) = 3 then tkN T e 0 99 (tB (tok T e b)) else .ok (1, b)) fun n b => rb (tkS T e b) fun _ b => .ok ((upd B.1 (3 + v.toNatClampNeg) n, B.2.1, B.2.2.1, B.2.2.2.1, B.2.2.2.2 ||| biS v), b) := by
      unfold prS; rw [rb_k hp]
    have hB2 := hB1.r ho hF2
    obtain ⟨t1, t2, t3, t4⟩ := tn_sl l1 l2
    have e62 : I2 6 2 = B.2.2.2.2 := hB2.2.2.2
    refine px_isSlice (fun _ _ _ => ⟨fun _ => ?_, fun q => absurd q (by decide)⟩) (fun q => absurd q (sl_no l1 l2))
    rw [e62]
    refine px_isIn (fun hi _ => ⟨fun q => absurd q (by decide), fun _ => ?_⟩) (fun hi _ => ⟨fun _ => ?_, fun q => absurd rfl q⟩)
    · refine px_wt (k := 5) (by decide) h72 (fun I3 hF3 hf _ => ⟨Or.inl rfl, hE _ _ _ (by rw [hv, if_pos hi]) ((hF1.rb.tr hF2.rb).tr hF3.rb) hf⟩)
    · rw [if_neg (by rw [hi]; decide)] at hv
      refine w_X11_bit ?_
      have hF3 : FrB o I J (uI I2 6 2 (B.2.2.2.2 ||| biS v)) J2 := (hF1.rb.tr hF2.rb).u (Or.inr (Or.inl rfl))
      have h3 : Rd T e b (uI I2 6 2 (B.2.2.2.2 ||| biS v)) J2 := h2.w_ (by decide) (by decide)
      have hB3 : BkS (B.1, B.2.1, B.2.2.1, B.2.2.2.1, B.2.2.2.2 ||| biS v) o (uI I2 6 2 (B.2.2.2.2 ||| biS v)) J2 := ⟨hB2.1.cp (fun c _ _ => uI_ne (by first | decide | omega)) rfl, by rw [rd_k (by decide)]; exact hB2.2.1, by rw [rd_k (by decide)]; exact hB2.2.2.1, rd_eq⟩
      show ((¬ uI I2 6 2 ((I2 6 2) ||| biS v) 3 9 = 3 → _) ∧ (uI I2 6 2 ((I2 6 2) ||| biS v) 3 9 = 3 → AM (d + 4) 68 112 [.ref 3] (uI I2 6 2 ((I2 6 2) ||| biS v)) J2 R _))
      rw [e62, h3.w]
      refine ⟨fun c => ?_, fun c => px_any h3 (fun I4 J4 hF4 h4 h74 _ => ?_)⟩
      · rw [if_neg c] at hv
        have hv2 : prS T e B a = rb (tkS T e b) fun _ b => .ok ((upd B.1 (3 + v.toNatClampNeg) 1, B.2.1, B.2.2.1, B.2.2.2.1, B.2.2.2.2 ||| biS v), b) := hv
        exact tail v 1 b _ _ l1 l2 (by decide) hv2 hF3 h3 hB3
      · rw [if_pos c] at hv
        refine px_num h4 (fun p I5 J5 hp5 hF5 hf => ?_) (fun n b5 I5 J5 hp5 m1 m2 hF5 h5 h75 => ?_)
        · rw [rb_e hp5] at hv
          refine sg_X1_readStore_77 hc _ _ _ _ _ _ (bif_t hO (bif_t hA ⟨vp_of t4 (by omega) (by omega), fun _ => ⟨Or.inl rfl, hE p _ _ hv (((hF3.tr hF4.rb).tr hF5.rb).u (Or.inr (Or.inr ⟨by omega, by omega⟩))) (hf.w_ (by omega))⟩, fun q => absurd rfl q⟩))
        · rw [rb_k hp5] at hv
          exact tail v n b5 _ _ l1 l2 (fun q => by rw [q] at m1; exact absurd m1 (by decide)) hv ((hF3.tr hF4.rb).tr hF5.rb) h5 ((hB3.r ho hF4).r ho hF5)
end RB2
end PT5x9
section PT5x10
/-! ===== the scribe reads a bakery: men, the whole ===== -/
section RB3
variable {T : Nat → Int32} {e a d o : Nat} {I : Im} {J : Jm} {R : Rm} {Q : Qt} {B : BS}
theorem px_named {C : Nat → Int32} {N : Nat → Int64} {w : Int64} (hO : isO 112 o 0 = true) (hC : COk C) (hB : BkC C N o I J) (hQ : Q (nmG N w (mnN C) 0) 0 I J R) : AM (d + 1) 5 112 [.ref o, .long w] I J R Q := by
  refine am_X0_manNamed (fun P hc => sg_X0_manNamed_0 hc _ _ _ _ _ ?_)
  obtain ⟨hA, hL, -⟩ := fa_0_5 hO
  have hm := hC.m
  have L : ∀ f k : Nat, k + f = mnN C → nmG N w (mnN C) 0 = nmG N w f k → P 2 112 [(0, .ref o), (1, .long w), (3, .int (nI k))] [] I J R := by
    intro f
    induction f with
    | zero =>
      intro k hk hv
      refine sg_X0_manNamed_2 hc _ _ _ _ _ _ (bif_t hO ?_)
      rw [hB.1, hm.2]
      refine ⟨fun _ => ?_, fun c => absurd ?_ c⟩
      · rw [hv] at hQ; exact hQ
      · rw [show k = mnN C by omega]; exact (nle_nI (by omega) (by omega)).mpr (Nat.le_refl _)
    | succ f ih =>
      intro k hk hv
      refine sg_X0_manNamed_2 hc _ _ _ _ _ _ (bif_t hO ?_)
      rw [hB.1, hm.2]
      refine ⟨fun c => absurd ((nle_nI (by omega) (by omega)).mp c) (by omega), fun _ => bif_t hO (bif_t hA ⟨vp_nI (by omega) (by omega), ?_⟩)⟩
      rw [tn_nI (by omega), (hB.2.2.2.2.2 k (by omega)).1, nI_k1, lg_cmp_eq]
      have e1 : nmG N w (f + 1) k = if N k = w then nI k else nmG N w f (k + 1) := rfl
      rw [e1] at hv
      refine ⟨fun c => ?_, fun c => ?_⟩
      · rw [if_neg c] at hv
        exact ih (k + 1) (by omega) hv
      · rw [if_pos c] at hv
        rw [hv] at hQ; exact hQ
  exact L (mnN C) 0 (by omega) rfl
noncomputable abbrev Wo (o : Nat) : Nat → Nat → Prop := fun c _ => o ≤ c ∧ c ≤ o + 5
noncomputable abbrev Vo (o : Nat) : Nat → Nat → Prop := fun c _ => c = o + 2
theorem px_addMan {C : Nat → Int32} {N : Nat → Int64} {w : Int64} {p q : Int32} {m : Nat} (hO : isO 112 o 0 = true) (hm : m ≤ 5) (e : C 0 = nI m) (hB : BkC C N o I J) (hQ : ∀ I2 J2, FrW (Wo o) (Vo o) I J I2 J2 → BkC (upd (upd (upd (upd C (34 + m) p) (40 + m) q) (46 + m) 0) 0 (nI m + 1)) (vp_updL N m w) o I2 J2 → Q (nI m) 0 I2 J2 R) : AM (d + 1) 4 112 [.ref o, .long w, .int p, .int q] I J R Q := by
  refine w_X0_addMan (bif_t hO ?_)
  obtain ⟨hA2, hL2, -⟩ := fa_0_5 hO
  obtain ⟨hA3, hL3, -⟩ := fa_0_6 hO
  obtain ⟨hA4, hL4, -⟩ := fa_0_7 hO
  obtain ⟨hA5, hL5, -⟩ := fa_0_8 hO
  have e0 : I o 4 = nI m := hB.1.trans e
  have e1 : uI I (o + 3) m p o 4 = nI m := (rd_ne (by first | decide | omega)).trans e0
  have e2 : uI (uI I (o + 3) m p) (o + 4) m q o 4 = nI m := (rd_ne (by first | decide | omega)).trans e1
  have e3 : uI (uI (uI I (o + 3) m p) (o + 4) m q) (o + 5) m 0 o 4 = nI m := (rd_ne (by first | decide | omega)).trans e2
  have tn : Int32.toNatClampNeg (nI m) = m := tn_nI (by omega)
  rw [e0, tn, e1, tn, e2, tn, e3, rd_eq]
  refine ⟨fun _ => bif_t hO (bif_t hO (bif_t hA2 ⟨vp_nI (by omega) (by omega), bif_t hO (bif_t hO (bif_t hA3 ⟨vp_nI (by omega) (by omega), bif_t hO (bif_t hO (bif_t hA4 ⟨vp_nI (by omega) (by omega), bif_t hO (bif_t hO (bif_t hA5 ⟨vp_nI (by omega) (by omega), bif_t hO (bif_t hO (bif_t hO ?_))⟩))⟩))⟩))⟩)), fun c => absurd ((nlt_nI (b := 6) (by omega) (by omega)).mpr (by omega)) c⟩
  have e5 : nI m + 1 - 1 = nI m := by rw [nI_k1, nI_pred]
  rw [e5]
  exact hQ _ _ ((((FrW.rf.u ⟨by omega, by omega⟩).u ⟨by omega, by omega⟩).u ⟨by omega, by omega⟩).u ⟨by omega, by omega⟩ |>.uj rfl) (hB.man hm e)
theorem FrW.mb {o : Nat} {I I2 : Im} {J J2 : Jm} (h : FrW (Wo o) (Vo o) I J I2 J2) : FrB o I J I2 J2 := h.up (fun _ _ q => Or.inr (Or.inr q)) (fun _ _ q => Or.inr q)
theorem px_isMan {m x : Nat} (hO : isO 112 o 0 = true) (hm : m ≤ 6) (e : I o 4 = nI m) (hx : x < m) (hQ : Q 1 0 I J R) : AM (d + 1) 3 112 [.ref o, .int (nI x)] I J R Q := by
  refine w_X0_isMan ⟨fun c => absurd c (nI_pos (by omega)), fun _ => bif_t hO ?_⟩
  rw [e]
  exact ⟨fun c => absurd ((nle_nI (by omega) (by omega)).mp c) (by omega), fun _ => ⟨Or.inr rfl, hQ⟩⟩
theorem Rd.f_ {I2 : Im} {J2 : Jm} (h : Rd T e a I J) (ho : 9 ≤ o) (hF : FrW (Wo o) (Vo o) I J I2 J2) : Rd T e a I2 J2 :=
  h.o (hF.c (by intro k q; omega)) (hF.c (by intro k q; omega)) (hF.cj (by intro k q; omega)) (hF.cj (by intro k q; omega))
theorem px_rMan (ho : 9 ≤ o) (hO : isO 112 o 0 = true) (hC : COk B.1) (h : Rd T e a I J) (hB : BkS B o I J) (hE : ∀ p I2 J2, prM T e B a = .error p → FrB o I J I2 J2 → Ft p I2 → Q 0 0 I2 J2 R) (hK : ∀ B2 b I2 J2, prM T e B a = .ok (B2, b) → FrB o I J I2 J2 → Rd T e b I2 J2 → BkS B2 o I2 J2 → Q 1 0 I2 J2 R) : AM (d + 5) 24 112 [.ref o, .ref 3] I J R Q := by
  have hm := hC.m
  obtain ⟨hA5, hL5, -⟩ := fa_0_8 hO
  refine w_X1_readMan (px_any h (fun I1 J1 hF1 h1 h7 _ => bif_t hO ?_))
  have hB1 := hB.r ho hF1
  rw [hB1.1.1, hm.2]
  refine ⟨fun c => ?_, fun c => ?_⟩
  · have hm5 : mnN B.1 < 6 := (nlt_nI (b := 6) (by omega) (by omega)).mp c
    have c6 : ¬ B.1 0 = 6 := fun q => by
      rw [hm.2] at q
      have := (nK (b := 6) (by omega) (by omega)).mp q
      omega
    have hv : prM T e B a = rb (tkM T e (tB (tok T e a))) fun w b => if nmG B.2.1 w (mnN B.1) 0 = -1 then
        rb (tkW T e 5 b) fun _ b => rb (tkN T e 1 99 b) fun p b => rb (tkW T e 6 b) fun _ b => rb (tkN T e 1 30 b) fun q b =>
        rb (if tI (tok T e b) = 7 then tkL T e 31 0 (tB (tok T e b)) else .ok (0, b)) fun h b => rb (tkS T e b) fun _ b =>
        .ok ((upd (upd (upd (upd B.1 (34 + mnN B.1) p) (40 + mnN B.1) q) (46 + mnN B.1) h) 0 (B.1 0 + 1), vp_updL B.2.1 (mnN B.1) w, B.2.2), b)
      else .error (3, tS (tok T e (tB (tok T e a)))) := by
      unfold prM; rw [if_neg c6]
    refine px_name h1 (fun p I2 J2 hp hF2 hf => ?_) (fun w b I2 J2 hp hw hF2 h2 h72 => ?_)
    · refine ⟨fun q => absurd ((lg_cmp_eq 0 0).mpr rfl) q, fun _ => ⟨Or.inl rfl, hE p _ _ (by rw [hv, rb_e hp]) (hF1.rb.tr hF2.rb) hf⟩⟩
    rw [rb_k hp] at hv
    have hB2 := hB1.r ho hF2
    have hFa := hF1.rb.tr (hF2.rb (o := o))
    refine ⟨fun _ => bif_t hO (px_named hO hC hB2.1 ⟨fun c3 => ?_, fun c3 => ?_⟩), fun q => absurd ((lg_cmp_eq _ _).mp q) hw⟩
    · rw [if_pos c3] at hv
      refine px_word h2 (fun p I4 J4 hp4 hF4 hf _ => ⟨fun _ => ⟨fun _ => ⟨Or.inl rfl, hE p _ _ (by rw [hv, rb_e hp4]) (hFa.tr hF4.rb) hf⟩, fun q => absurd rfl q⟩, fun q => absurd rfl q⟩) (fun b4 I4 J4 hp4 hF4 h4 _ => ⟨fun q => absurd q (by decide), fun _ => ?_⟩)
      rw [rb_k hp4] at hv
      refine px_num h4 (fun p I5 J5 hp5 hF5 hf => ⟨fun _ => ⟨Or.inl rfl, hE p _ _ (by rw [hv, rb_e hp5]) ((hFa.tr hF4.rb).tr hF5.rb) hf⟩, fun q => absurd rfl q⟩) (fun p b5 I5 J5 hp5 m1 m2 hF5 h5 h75 => ?_)
      rw [rb_k hp5] at hv
      refine ⟨fun q => by rw [q] at m1; exact absurd m1 (by decide), fun _ => ?_⟩
      refine px_word h5 (fun p I6 J6 hp6 hF6 hf _ => ⟨fun q => absurd rfl q, fun _ => ⟨Or.inl rfl, hE p _ _ (by rw [hv, rb_e hp6]) (((hFa.tr hF4.rb).tr hF5.rb).tr hF6.rb) hf⟩⟩) (fun b6 I6 J6 hp6 hF6 h6 _ => ⟨fun _ => ?_, fun q => absurd q (by decide)⟩)
      rw [rb_k hp6] at hv
      have hFb := ((hFa.tr hF4.rb).tr hF5.rb).tr (hF6.rb (o := o))
      refine px_num h6 (fun p I7 J7 hp7 hF7 hf => ⟨fun q => absurd rfl q, fun _ => ⟨Or.inl rfl, hE p _ _ (by rw [hv, rb_e hp7]) (hFb.tr hF7.rb) hf⟩⟩) (fun q b7 I7 J7 hp7 n1 n2 hF7 h7_ h77 => ?_)
      rw [rb_k hp7] at hv
      have hB7 := (((hB2.r ho hF4).r ho hF5).r ho hF6).r ho hF7
      refine ⟨fun _ => bif_t hO (px_addMan (p := p) (q := q) (m := mnN B.1) hO (by omega) hm.2 hB7.1 (fun I8 J8 hF8 hB8 => ?_)), fun z => by rw [z] at n1; exact absurd n1 (by decide)⟩
      have h8 : Rd T e b7 I8 J8 := h7_.f_ ho hF8
      have hFc := (hFb.tr hF7.rb).tr hF8.mb
      have e6 : I8 6 = I7 6 := hF8.c (by intro k z; omega)
      have hS8 : ∀ s : Int32, ∀ I9 J9, FrW (WB o) (VB o) I J I9 J9 → BkC (upd (upd (upd (upd B.1 (34 + mnN B.1) p) (40 + mnN B.1) q) (46 + mnN B.1) s) 0 (B.1 0 + 1)) (vp_updL B.2.1 (mnN B.1) w) o I9 J9 → I9 6 = I8 6 → BkS (upd (upd (upd (upd B.1 (34 + mnN B.1) p) (40 + mnN B.1) q) (46 + mnN B.1) s) 0 (B.1 0 + 1), vp_updL B.2.1 (mnN B.1) w, B.2.2) o I9 J9 := fun s I9 J9 _ hb h6 => by
        refine ⟨hb, ?_⟩
        rw [h6, e6]; exact hB7.2
      rw [← hm.2] at hB8
      rw [h8.w, h8.f]
      refine ⟨fun c9 => ⟨fun z => absurd rfl z, fun _ => ?_⟩, fun c9 => bif_t hO (px_isMan hO (m := mnN B.1 + 1) (by omega) ?_ (by omega) (fun _ => ⟨fun z => absurd z (by decide), fun _ => ?_⟩))⟩
      · rw [if_neg c9] at hv
        have hv2 : prM T e B a = rb (tkS T e b7) fun _ b => .ok ((upd (upd (upd (upd B.1 (34 + mnN B.1) p) (40 + mnN B.1) q) (46 + mnN B.1) 0) 0 (B.1 0 + 1), vp_updL B.2.1 (mnN B.1) w, B.2.2), b) := hv
        have hB9 := hS8 0 I8 J8 hFc hB8 rfl
        exact px_semi h8 (fun p I4 J4 hp4 hF4 hf _ => ⟨fun _ => ⟨Or.inl rfl, hE p _ _ (by rw [hv2, rb_e hp4]) (hFc.tr hF4.rb) hf⟩, fun q => absurd rfl q⟩) (fun b2 I4 J4 hp4 hF4 h4 _ => ⟨fun q => absurd q (by decide), fun _ => ⟨Or.inr rfl, hK _ _ _ _ (by rw [hv2, rb_k hp4]) (hFc.tr hF4.rb) h4 (hB9.r ho hF4)⟩⟩)
      · rw [hB8.1, upd_s, hm.2, nI_k1]
      · rw [if_pos c9] at hv
        refine px_any h8 (fun I9 J9 hF9 h9 _ _ => bif_t hO (px_slices h9 (fun p x I10 J10 hp10 hF10 hf => bif_t hA5 ⟨vp_nI (by omega) (by omega), ?_⟩) (fun s b10 I10 J10 hp10 hF10 h10 => bif_t hA5 ⟨vp_nI (by omega) (by omega), ?_⟩)))
        · have hf2 : Ft p (uI I10 (o + 5) (Int32.toNatClampNeg (nI (mnN B.1))) x) := hf.w_ (by omega)
          refine ⟨fun _ => ⟨Or.inl rfl, hE p _ _ (by rw [hv, rb_e hp10]) (((hFc.tr hF9.rb).tr hF10.rb).u (Or.inr (Or.inr ⟨by omega, by omega⟩))) hf2⟩, fun z => absurd z hf2.ne⟩
        · rw [rb_k hp10] at hv
          have hFd : FrB o I J (uI I10 (o + 5) (Int32.toNatClampNeg (nI (mnN B.1))) s) J10 := ((hFc.tr hF9.rb).tr hF10.rb).u (Or.inr (Or.inr ⟨by omega, by omega⟩))
          have h11 : Rd T e b10 (uI I10 (o + 5) (Int32.toNatClampNeg (nI (mnN B.1))) s) J10 := h10.w_ (by omega) (by omega)
          have hB10 : BkC (upd (upd (upd (upd B.1 (34 + mnN B.1) p) (40 + mnN B.1) q) (46 + mnN B.1) s) 0 (B.1 0 + 1)) (vp_updL B.2.1 (mnN B.1) w) o (uI I10 (o + 5) (Int32.toNatClampNeg (nI (mnN B.1))) s) J10 := by
            have h12 : BkC (upd (upd (upd (upd B.1 (34 + mnN B.1) p) (40 + mnN B.1) q) (46 + mnN B.1) 0) 0 (B.1 0 + 1)) (vp_updL B.2.1 (mnN B.1) w) o I10 J10 := (hB8.cp (fun c _ _ => hF9.six (by omega)) (hF9.cj (VR.no (by omega)))).cp (fun c _ _ => hF10.six (by omega)) (hF10.cj (VR.no (by omega)))
            have h13 := h12.having (v := s) (m := mnN B.1) (by omega) (by rw [show mnN (upd (upd (upd (upd B.1 (34 + mnN B.1) p) (40 + mnN B.1) q) (46 + mnN B.1) 0) 0 (B.1 0 + 1)) = mnN B.1 + 1 from mnN_of (by omega) (by rw [upd_s, hm.2, nI_k1])]; omega)
            rw [tn_nI (by omega)]
            have ec : upd (upd (upd (upd (upd B.1 (34 + mnN B.1) p) (40 + mnN B.1) q) (46 + mnN B.1) 0) 0 (B.1 0 + 1)) (46 + mnN B.1) s = upd (upd (upd (upd B.1 (34 + mnN B.1) p) (40 + mnN B.1) q) (46 + mnN B.1) s) 0 (B.1 0 + 1) := by
              funext j
              by_cases z : j = 46 + mnN B.1
              · subst z; rw [upd_s, upd_i (by omega), upd_s]
              · rw [upd_i z]
                by_cases z2 : j = 0
                · subst z2; rw [upd_s, upd_s]
                · rw [upd_i z2, upd_i z, upd_i z2, upd_i z]
            rw [ec] at h13
            exact h13
          have e66 : uI I10 (o + 5) (Int32.toNatClampNeg (nI (mnN B.1))) s 6 = I8 6 := (uI_ne (by first | decide | omega)).trans ((hF10.six (by decide)).trans (hF9.six (by decide)))
          have hB11 := hS8 s _ _ hFd hB10 e66
          refine ⟨fun z => absurd h11.f z, fun _ => ?_⟩
          exact px_semi h11 (fun p I4 J4 hp4 hF4 hf _ => ⟨fun _ => ⟨Or.inl rfl, hE p _ _ (by rw [hv, rb_e hp4]) (hFd.tr hF4.rb) hf⟩, fun q => absurd rfl q⟩) (fun b2 I4 J4 hp4 hF4 h4 _ => ⟨fun q => absurd q (by decide), fun _ => ⟨Or.inr rfl, hK _ _ _ _ (by rw [hv, rb_k hp4]) (hFd.tr hF4.rb) h4 (hB11.r ho hF4)⟩⟩)
    · rw [if_neg c3] at hv
      exact px_wt (k := 3) (by decide) h72 (fun I3 hF3 hf _ => ⟨Or.inl rfl, hE _ _ _ hv (hFa.tr hF3.rb) hf⟩)
  · have hm6 : mnN B.1 = 6 := by have := ge_of (b := 6) (by omega) (by omega) c; omega
    refine px_wt (k := 6) (by decide) h7 (fun I2 hF2 hf _ => ⟨Or.inl rfl, hE _ _ _ ?_ (hF1.rb.tr hF2.rb) hf⟩)
    unfold prM; rw [if_pos (by rw [hm.2, hm6]; rfl)]
end RB3
end PT5x10
