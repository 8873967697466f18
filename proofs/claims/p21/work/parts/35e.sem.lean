/-! ===== a part, then its semicolon ===== -/
section SEM
variable (T : Nat → Int32) (e : Nat)
noncomputable def sem (r : Rs BS) : Rs BS := rb r fun B b => rb (tkS T e b) fun _ b => .ok (B, b)
noncomputable def qrO (B : BS) (a : Nat) : Rs BS := if B.2.2.1 = 0 then rb (tkN T e 0 16 (tB (tok T e a))) fun v b => .ok ((upd B.1 1 v, B.2.1, 1, B.2.2.2.1, B.2.2.2.2), b) else .error (5, tS (tok T e a))
noncomputable def qrS (B : BS) (a : Nat) : Rs BS := rb (tkN T e 1 30 (tB (tok T e a))) fun d b => if inS B.2.2.2.2 d = true then .error (5, tS (tok T e (tB (tok T e a)))) else
  rb (if tI (tok T e b) = 3 then tkN T e 0 99 (tB (tok T e b)) else .ok (1, b)) fun n b => .ok ((upd B.1 (3 + d.toNatClampNeg) n, B.2.1, B.2.2.1, B.2.2.2.1, B.2.2.2.2 ||| biS d), b)
noncomputable def qrM (B : BS) (a : Nat) : Rs BS := if B.1 0 = 6 then .error (6, tS (tok T e a)) else
  rb (tkM T e (tB (tok T e a))) fun w b => if nmG B.2.1 w (mnN B.1) 0 = -1 then
    rb (rb (tkW T e 5 b) fun _ b => tkN T e 1 99 b) fun p b => rb (rb (tkW T e 6 b) fun _ b => tkN T e 1 30 b) fun q b =>
    rb (if tI (tok T e b) = 7 then tkL T e 31 0 (tB (tok T e b)) else .ok (0, b)) fun h b =>
    .ok ((upd (upd (upd (upd B.1 (34 + mnN B.1) p) (40 + mnN B.1) q) (46 + mnN B.1) h) 0 (B.1 0 + 1), vp_updL B.2.1 (mnN B.1) w, B.2.2), b)
  else .error (3, tS (tok T e (tB (tok T e a))))
noncomputable def qrK (B : BS) (a : Nat) : Rs BS := if B.2.2.2.1 = 0 then rb (tkL T e 31 0 (tB (tok T e a))) fun s b => .ok ((upd B.1 3 s, B.2.1, B.2.2.1, 1, B.2.2.2.2), b) else .error (5, tS (tok T e a))
noncomputable def qrP (B : BS) (a : Nat) : Rs BS := if tI (tok T e a) = 1 then qrO T e B a else if tI (tok T e a) = 2 then qrS T e B a else if tI (tok T e a) = 4 then qrM T e B a else if tI (tok T e a) = 8 then qrK T e B a else .error (mis T e a)
end SEM
theorem rb_rb {α β γ : Type} {r : Rs α} {f : α → Nat → Rs β} {g : β → Nat → Rs γ} : rb (rb r f) g = rb r (fun v b => rb (f v b) g) := by
  cases r with
  | error x => rfl
  | ok p => rfl
theorem rb_c {α β : Type} {r : Rs α} {f g : α → Nat → Rs β} (h : ∀ v b, f v b = g v b) : rb r f = rb r g := by
  rw [show f = g from funext fun v => funext fun b => h v b]
theorem rb_if {α β : Type} {c : Prop} [Decidable c] {r s : Rs α} {f : α → Nat → Rs β} : rb (if c then r else s) f = if c then rb r f else rb s f := by
  split <;> rfl
theorem prP_q {T : Nat → Int32} {e : Nat} {B : BS} {a : Nat} : prP T e B a = sem T e (qrP T e B a) := by
  unfold prP qrP sem
  rw [rb_if, rb_if, rb_if, rb_if]
  split
  · unfold prO qrO
    rw [rb_if]
    split
    · rw [rb_rb]
      exact rb_c (fun v b => rfl)
    · rfl
  · split
    · unfold prS qrS
      rw [rb_rb]
      refine rb_c (fun v b => ?_)
      by_cases z : inS B.2.2.2.2 v = true
      · rw [if_pos z, if_pos z]; rfl
      · rw [if_neg z, if_neg z, rb_rb]
        exact rb_c (fun v b => rfl)
    · split
      · unfold prM qrM
        rw [rb_if]
        split
        · rfl
        · rw [rb_rb]
          refine rb_c (fun w b => ?_)
          by_cases z : nmG B.2.1 w (mnN B.1) 0 = -1
          · rw [if_pos z, if_pos z, rb_rb, rb_rb]
            refine rb_c (fun _ b => ?_)
            refine rb_c (fun p b => ?_)
            rw [rb_rb, rb_rb]
            refine rb_c (fun _ b => ?_)
            refine rb_c (fun q b => ?_)
            rw [rb_rb]
            exact rb_c (fun h b => rfl)
          · rw [if_neg z, if_neg z]; rfl
      · split
        · unfold prK qrK
          rw [rb_if]
          split
          · rw [rb_rb]
            exact rb_c (fun v b => rfl)
          · rfl
        · rfl
