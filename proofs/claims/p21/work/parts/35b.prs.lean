/-! ===== a bakery's text, read ===== -/
/-- what is read, and the place behind; or the fault's kind and its place -/
noncomputable abbrev Rs (α : Type) : Type := Except (Nat × Nat) (α × Nat)
noncomputable def rb {α β : Type} (r : Rs α) (f : α → Nat → Rs β) : Rs β := match r with
  | .error x => .error x
  | .ok p => f p.1 p.2
theorem rb_e {α β : Type} {r : Rs α} {f : α → Nat → Rs β} {x : Nat × Nat} (h : r = .error x) : rb r f = .error x := by rw [h]; rfl
theorem rb_k {α β : Type} {r : Rs α} {f : α → Nat → Rs β} {v : α} {b : Nat} (h : r = .ok (v, b)) : rb r f = f v b := by rw [h]; rfl
section PRS
variable (T : Nat → Int32) (e : Nat)
noncomputable def mis (a : Nat) : Nat × Nat := (if tK (tok T e a) = 4 then 1 else 2, tS (tok T e a))
/-- a number from lo to hi -/
noncomputable def tkN (lo hi : Int32) (a : Nat) : Rs Int32 := if tK (tok T e a) = 2 then (if tV (tok T e a) < lo then .error (4, tS (tok T e a)) else if tV (tok T e a) ≤ hi then .ok (tV (tok T e a), tB (tok T e a)) else .error (4, tS (tok T e a))) else .error (mis T e a)
noncomputable def tkW (i : Int32) (a : Nat) : Rs Unit := if tI (tok T e a) = i then .ok ((), tB (tok T e a)) else .error (mis T e a)
noncomputable def tkS (a : Nat) : Rs Unit := if tK (tok T e a) = 3 then (if tV (tok T e a) = 59 then .ok ((), tB (tok T e a)) else .error (mis T e a)) else .error (mis T e a)
noncomputable def tkM (a : Nat) : Rs Int64 := if tI (tok T e a) = 0 then (if tW (tok T e a) = 0 then .error (mis T e a) else .ok (tW (tok T e a), tB (tok T e a))) else .error (mis T e a)
noncomputable def inS (set d : Int32) : Bool := !decide (set &&& ((1 : Int32) <<< ((d - 1) &&& 31)) = 0)
noncomputable def biS (d : Int32) : Int32 := (1 : Int32) <<< ((d - 1) &&& 31)
/-- slices as long as there are numbers, each once -/
noncomputable def tkL : Nat → Int32 → Nat → Rs Int32
  | 0, set, a => .ok (set, a)
  | f + 1, set, a => if tK (tok T e a) = 2 then rb (tkN T e 1 30 a) (fun v b => if inS set v = true then .error (5, tS (tok T e a)) else tkL f (set ||| biS v) b) else .ok (set, a)
/-- a bakery as the reference's block has it, the names; odds told, known told, the store's slices told -/
noncomputable abbrev BS : Type := (Nat → Int32) × (Nat → Int64) × Int32 × Int32 × Int32
/-- the first of n that has a name -/
noncomputable def nmG (N : Nat → Int64) (w : Int64) : Nat → Nat → Int32
  | 0, _ => -1
  | f + 1, k => if N k = w then nI k else nmG N w f (k + 1)
noncomputable def mnN (C : Nat → Int32) : Nat := (C 0).toNatClampNeg
noncomputable def prO (B : BS) (a : Nat) : Rs BS := if B.2.2.1 = 0 then rb (tkN T e 0 16 (tB (tok T e a))) fun v b => rb (tkS T e b) fun _ b => .ok ((upd B.1 1 v, B.2.1, 1, B.2.2.2.1, B.2.2.2.2), b) else .error (5, tS (tok T e a))
noncomputable def prS (B : BS) (a : Nat) : Rs BS := rb (tkN T e 1 30 (tB (tok T e a))) fun d b => if inS B.2.2.2.2 d = true then .error (5, tS (tok T e (tB (tok T e a)))) else
  rb (if tI (tok T e b) = 3 then tkN T e 0 99 (tB (tok T e b)) else .ok (1, b)) fun n b => rb (tkS T e b) fun _ b => .ok ((upd B.1 (3 + d.toNatClampNeg) n, B.2.1, B.2.2.1, B.2.2.2.1, B.2.2.2.2 ||| biS d), b)
noncomputable def prM (B : BS) (a : Nat) : Rs BS := if B.1 0 = 6 then .error (6, tS (tok T e a)) else
  rb (tkM T e (tB (tok T e a))) fun w b => if nmG B.2.1 w (mnN B.1) 0 = -1 then
    rb (tkW T e 5 b) fun _ b => rb (tkN T e 1 99 b) fun p b => rb (tkW T e 6 b) fun _ b => rb (tkN T e 1 30 b) fun q b =>
    rb (if tI (tok T e b) = 7 then tkL T e 31 0 (tB (tok T e b)) else .ok (0, b)) fun h b => rb (tkS T e b) fun _ b =>
    .ok ((upd (upd (upd (upd B.1 (34 + mnN B.1) p) (40 + mnN B.1) q) (46 + mnN B.1) h) 0 (B.1 0 + 1), vp_updL B.2.1 (mnN B.1) w, B.2.2), b)
  else .error (3, tS (tok T e (tB (tok T e a))))
noncomputable def prK (B : BS) (a : Nat) : Rs BS := if B.2.2.2.1 = 0 then rb (tkL T e 31 0 (tB (tok T e a))) fun s b => rb (tkS T e b) fun _ b => .ok ((upd B.1 3 s, B.2.1, B.2.2.1, 1, B.2.2.2.2), b) else .error (5, tS (tok T e a))
noncomputable def prP (B : BS) (a : Nat) : Rs BS := if tI (tok T e a) = 1 then prO T e B a else if tI (tok T e a) = 2 then prS T e B a else if tI (tok T e a) = 4 then prM T e B a else if tI (tok T e a) = 8 then prK T e B a else .error (mis T e a)
noncomputable def prB : Nat → BS → Nat → Rs BS
  | 0, B, a => .ok (B, a)
  | f + 1, B, a => if tK (tok T e a) = 0 then .ok (B, a) else rb (prP T e B a) fun B b => prB f B b
end PRS
noncomputable def emC : Nat → Int32 := fun k => if k = 1 then 4 else if k = 3 then 1073741823 else 0
noncomputable def em0 : BS := (emC, fun _ => 0, 0, 0, 0)
/-! places rise -/
noncomputable def Up {α : Type} (e a : Nat) (r : Rs α) : Prop := match r with
  | .error _ => True
  | .ok p => a ≤ p.2 ∧ p.2 ≤ e
noncomputable def Up1 {α : Type} (e a : Nat) (r : Rs α) : Prop := match r with
  | .error _ => True
  | .ok p => a < p.2 ∧ p.2 ≤ e
section UP
variable {T : Nat → Int32} {e : Nat} {a : Nat} {α β : Type}
theorem Up1.w {r : Rs α} (h : Up1 e a r) : Up e a r := by
  cases r with
  | error x => trivial
  | ok p => exact ⟨Nat.le_of_lt h.1, h.2⟩
theorem Up1.le {r : Rs α} {b : Nat} (h : Up1 e b r) (hb : a ≤ b) : Up1 e a r := by
  cases r with
  | error x => trivial
  | ok p => exact ⟨Nat.lt_of_le_of_lt hb h.1, h.2⟩
theorem Up.rb {r : Rs α} {f : α → Nat → Rs β} (h : Up e a r) (hf : ∀ v b, a ≤ b → b ≤ e → Up e b (f v b)) : Up e a (rb r f) := by
  cases r with
  | error x => trivial
  | ok p =>
    have h2 := hf p.1 p.2 h.1 h.2
    show Up e a (f p.1 p.2)
    cases q : f p.1 p.2 with
    | error x => trivial
    | ok p2 => rw [q] at h2; exact ⟨Nat.le_trans h.1 h2.1, h2.2⟩
theorem Up1.rb {r : Rs α} {f : α → Nat → Rs β} (h : Up1 e a r) (hf : ∀ v b, a ≤ b → b ≤ e → Up e b (f v b)) : Up1 e a (rb r f) := by
  cases r with
  | error x => trivial
  | ok p =>
    have h2 := hf p.1 p.2 (Nat.le_of_lt h.1) h.2
    show Up1 e a (f p.1 p.2)
    cases q : f p.1 p.2 with
    | error x => trivial
    | ok p2 => rw [q] at h2; exact ⟨Nat.lt_of_lt_of_le h.1 h2.1, h2.2⟩
theorem tB_lt (ha : a ≤ e) (hk : ¬ tK (tok T e a) = 0) : a < tB (tok T e a) ∧ tB (tok T e a) ≤ e := by
  have h1 := tok_s (T := T) ha
  have h2 := tok_b (T := T) ha
  have := h2.2.2.1 hk
  omega
theorem tB_le (ha : a ≤ e) : a ≤ tB (tok T e a) ∧ tB (tok T e a) ≤ e := by
  have h1 := tok_s (T := T) ha
  have h2 := tok_b (T := T) ha
  omega
theorem tI_k {t : Tok} (h : ¬ tI t = -1) : tK t = 1 := by
  unfold tI at h
  by_cases q : tK t = 1
  · exact q
  · rw [if_neg q] at h; exact absurd rfl h
theorem up_tkN {lo hi : Int32} (ha : a ≤ e) : Up1 e a (tkN T e lo hi a) := by
  unfold tkN
  by_cases q : tK (tok T e a) = 2
  · rw [if_pos q]
    have h := tB_lt (T := T) ha (by omega)
    split
    · trivial
    · split
      · exact h
      · trivial
  · rw [if_neg q]; trivial
theorem up_tkW {i : Int32} (hi : ¬ i = -1) (ha : a ≤ e) : Up1 e a (tkW T e i a) := by
  unfold tkW
  by_cases q : tI (tok T e a) = i
  · rw [if_pos q]
    exact tB_lt (T := T) ha (by have := tI_k (t := tok T e a) (by rw [q]; exact hi); omega)
  · rw [if_neg q]; trivial
theorem up_tkS (ha : a ≤ e) : Up1 e a (tkS T e a) := by
  unfold tkS
  by_cases q : tK (tok T e a) = 3
  · rw [if_pos q]
    split
    · exact tB_lt (T := T) ha (by omega)
    · trivial
  · rw [if_neg q]; trivial
theorem up_tkM (ha : a ≤ e) : Up1 e a (tkM T e a) := by
  unfold tkM
  by_cases q : tI (tok T e a) = 0
  · rw [if_pos q]
    split
    · trivial
    · exact tB_lt (T := T) ha (by have := tI_k (t := tok T e a) (by rw [q]; decide); omega)
  · rw [if_neg q]; trivial
theorem up_tkL : ∀ {f : Nat} {set : Int32} {a : Nat}, a ≤ e → Up e a (tkL T e f set a) := by
  intro f
  induction f with
  | zero => intro set a ha; exact ⟨Nat.le_refl _, ha⟩
  | succ f ih =>
    intro set a ha
    unfold tkL
    split
    · refine Up.rb (up_tkN ha).w (fun v b h1 h2 => ?_)
      split
      · trivial
      · exact ih h2
    · exact ⟨Nat.le_refl _, ha⟩
theorem up_prP {B : BS} (ha : a ≤ e) : Up1 e a (prP T e B a) := by
  have hk : ¬ tI (tok T e a) = -1 → a ≤ tB (tok T e a) ∧ tB (tok T e a) ≤ e := fun h => tB_le ha
  unfold prP
  split
  · rename_i q
    have h := hk (by rw [q]; decide)
    unfold prO
    split
    · exact ((up_tkN h.2).le h.1).rb (fun v b _ hb => (up_tkS hb).w.rb (fun _ b _ hb => ⟨Nat.le_refl _, hb⟩))
    · trivial
  · split
    · rename_i q
      have h := hk (by rw [q]; decide)
      unfold prS
      refine ((up_tkN h.2).le h.1).rb (fun v b _ hb => ?_)
      split
      · trivial
      · refine Up.rb ?_ (fun n b _ hb => (up_tkS hb).w.rb (fun _ b _ hb => ⟨Nat.le_refl _, hb⟩))
        split
        · have h3 := tB_le (T := T) hb
          exact ((up_tkN h3.2).le h3.1).w
        · exact ⟨Nat.le_refl _, hb⟩
    · split
      · rename_i q
        have h := hk (by rw [q]; decide)
        unfold prM
        split
        · trivial
        · refine ((up_tkM h.2).le h.1).rb (fun w b _ hb => ?_)
          split
          · refine (up_tkW (by decide) hb).w.rb (fun _ b _ hb => (up_tkN hb).w.rb (fun p b _ hb => (up_tkW (by decide) hb).w.rb (fun _ b _ hb => (up_tkN hb).w.rb (fun q b _ hb => ?_))))
            refine Up.rb ?_ (fun n b _ hb => (up_tkS hb).w.rb (fun _ b _ hb => ⟨Nat.le_refl _, hb⟩))
            split
            · have h3 := tB_le (T := T) hb
              have h4 := up_tkL (T := T) (f := 31) (set := 0) h3.2
              cases q : tkL T e 31 0 (tB (tok T e b)) with
              | error x => trivial
              | ok p => rw [q] at h4; exact ⟨Nat.le_trans h3.1 h4.1, h4.2⟩
            · exact ⟨Nat.le_refl _, hb⟩
          · trivial
      · split
        · rename_i q
          have h := hk (by rw [q]; decide)
          unfold prK
          split
          · have hlt := tB_lt (T := T) ha (by have := tI_k (t := tok T e a) (by rw [q]; decide); omega)
            have h4 := up_tkL (T := T) (f := 31) (set := 0) h.2
            refine Up1.rb (a := a) ?_ (fun s b _ hb => (up_tkS hb).w.rb (fun _ b _ hb => ⟨Nat.le_refl _, hb⟩))
            cases q : tkL T e 31 0 (tB (tok T e a)) with
            | error x => trivial
            | ok p => rw [q] at h4; exact ⟨Nat.lt_of_lt_of_le hlt.1 h4.1, h4.2⟩
          · trivial
        · trivial
end UP
