section PT1x2
section SND2
variable {p : Program} {l : Launch} {e : Env} {rm : Room} {s : State} {m : MethodId} {args : Array Value} {below : List Frame} {meth : Method} {c : Code} {Qw : State → Prop}
variable {own : String} {cc : ByteArray} {nL ini : Nat} {Ts : List Cond} {D : va_G} {ca : Nat → ClassId} {h0 b n0 nend L : Nat} {A : Nat → Prop} {ph isl : Bool} {xs : Nat → Int32}
set_option maxHeartbeats 4000000 in
theorem newa_ok (C : Ctx p rm s m args meth c own cc nL ini Ts D ca h0 b n0 nend L A isl xs) {pc n t : Nat} {aty' : ArrayType} {lv : Lv} {r : List Value} {x : Int32} {I : Im} {J : Jm} {R : Rm} (hdg : decode cc pc = .ok (.newarray aty', 2)) (hw : Cond.arrayClass (newarray.typeOf aty') ∈ wsG) (hty : newarray.typeOf aty' = aty t) (ht : t < 3) (ho : isA (n + 1) (n + 1) t = true) (hne : n + 1 ≤ nend) (hph : ph = false) (hxe : x = Int32.ofNat (aL (n + 1)))
    (h : PW p l e rm s m args below meth c Qw nL D ca h0 b n0 A ph (pc + 2) (n + 1) lv (.ref (n + 1) :: r) (zI I (n + 1)) (zJ J (n + 1)) (zR R (n + 1))) : PW p l e rm s m args below meth c Qw nL D ca h0 b n0 A ph pc n lv (.int x :: r) I J R := by
  intro H locs ls hn _ hP hS hl
  obtain ⟨hx, hb, hml, hown, hts, hG, hK, hNN, hA, hs0, hini, hroom, -⟩ := C
  refine W_sz hs0 hn hP hS (fun hsz => ?_)
  have ho3 := (isA_spec ho).2.2
  have ho4 := ho3
  rw [Nat.add_sub_cancel] at ho4
  have hal : aL (n + 1) = (shl.getD n (999, 0)).2 := by unfold aL; rw [Nat.add_sub_cancel]
  have hsl : sl (n + 1) = sl n + aL (n + 1) := by rw [sl, ho4, if_neg (by omega), hal]
  have hm1 : sl (n + 1) ≤ sl nend := sl_le hne
  have hm2 : sl n0 ≤ sl n := sl_le hn
  have hle := aL_le (n + 1)
  have hN : x.toNatClampNeg = aL (n + 1) := by rw [hxe]; exact nI_clamp (by omega)
  have hn1 : ¬ x < 0 := by rw [hxe]; exact nI_pos (by omega)
  have hcb : componentBytes (newarray.typeOf aty') ≤ 8 := by cases aty' <;> decide
  refine va_newaK hx hb (hts _ (hG _ hw)) rfl hdg rfl hn1 hN (Nat.le_trans (Nat.mul_le_mul hle hcb) (by decide)) (by omega) (by omega) hsz fun H1 cA e1 z1 o1 hAr hNm => ?_
  have hcA : cA = ca t := by
    have hq : (ntys ca)[t]? = some (ca t, aty t) := by
      rcases (show t = 0 ∨ t = 1 ∨ t = 2 by omega) with rfl | rfl | rfl <;> rfl
    have h1 := (hK.2 t _ hq).2
    rw [hty] at hNm
    have h2 : s.vm.findClass ("[" ++ (aty t).toString) = some (ca t) := by
      rcases (show t = 0 ∨ t = 1 ∨ t = 2 by omega) with rfl | rfl | rfl <;> exact h1
    exact Option.some.inj (hNm.symm.trans h2)
  refine W.cs (cells' := n + 1 - n0) (slots' := sl (n + 1) - sl n0) (by omega) (by omega) ?_
  have hk : ∀ (k : Nat) (x : Nat × va_E), (wd ca h0 b n I J R)[k]? = some x → H1[x.1]? = H[x.1]? := fun k x hx => o1 x.1 (hsz ▸ (hP k x hx).lt)
  have hP1 : va_P D ncl (wd ca h0 b (n + 1) (zI I (n + 1)) (zJ J (n + 1)) (zR R (n + 1))) H1 := by
    rw [← wd_add (e := .inl (ca t, aL (n + 1), arE h0 b (zI I (n + 1)) (zJ J (n + 1)) (zR R (n + 1)) (n + 1) t)) (celE_a ho3) (fun i hi => celE_I (zI_ne hi) (zJ_ne hi) (zR_ne hi))]
    refine (hP.kept hk).app (fun k x hx => ?_)
    have hz : k < 1 := (List.getElem?_eq_some_iff.mp hx).1
    rw [show k = 0 by omega] at hx
    cases hx
    show H1[h0 + n]? = some (vp_cell _ _)
    rw [e1, hcA, hty]
    have y1 : zI I (n + 1) (n + 1) = fun _ => 0 := by simp [zI]
    have y2 : zJ J (n + 1) (n + 1) = fun _ => 0 := by simp [zJ]
    rcases (show t = 0 ∨ t = 1 ∨ t = 2 by omega) with rfl | rfl | rfl <;> simp [arE, y1, y2, vp_cell, aty, defaultValue]
  have hS1 : va_S A s.heap H1 locs := ⟨Nat.le_trans hS.1 (by omega), fun x h1 h2 => (o1 x (Nat.lt_of_lt_of_le h1 (hsz ▸ hS.1))).trans (hS.2.1 x h1 h2), hS.2.2⟩
  exact h H1 locs ls (by omega) (fun q => by rw [hph] at q; cases q) hP1 hS1 hl
set_option maxHeartbeats 4000000 in
theorem newq_ok (C : Ctx p rm s m args meth c own cc nL ini Ts D ca h0 b n0 nend L A isl xs) {pc i n t : Nat} {lv : Lv} {r : List Value} {x : Int32} {I : Im} {J : Jm} {R : Rm} (hdg : decode cc pc = .ok (.anewarray i, 3)) (hw : Cond.classLink own i (elC t) ∈ wsG) (ht : t < 3) (ho : isA (n + 1) (n + 1) (3 + t) = true) (hne : n + 1 ≤ nend) (hph : ph = false) (hxe : x = Int32.ofNat (aL (n + 1)))
    (h : PW p l e rm s m args below meth c Qw nL D ca h0 b n0 A ph (pc + 3) (n + 1) lv (.ref (n + 1) :: r) (zI I (n + 1)) (zJ J (n + 1)) (zR R (n + 1))) : PW p l e rm s m args below meth c Qw nL D ca h0 b n0 A ph pc n lv (.int x :: r) I J R := by
  intro H locs ls hn _ hP hS hl
  obtain ⟨hx, hb, hml, hown, hts, hG, hK, hNN, hA, hs0, hini, hroom, -⟩ := C
  refine W_sz hs0 hn hP hS (fun hsz => ?_)
  have ho3 := (isA_spec ho).2.2
  have ho4 := ho3
  rw [Nat.add_sub_cancel] at ho4
  have hal : aL (n + 1) = (shl.getD n (999, 0)).2 := by unfold aL; rw [Nat.add_sub_cancel]
  have hsl : sl (n + 1) = sl n + aL (n + 1) := by rw [sl, ho4, if_neg (by omega), hal]
  have hm1 : sl (n + 1) ≤ sl nend := sl_le hne
  have hm2 : sl n0 ≤ sl n := sl_le hn
  have hle := aL_le (n + 1)
  have hN : x.toNatClampNeg = aL (n + 1) := by rw [hxe]; exact nI_clamp (by omega)
  have hn1 : ¬ x < 0 := by rw [hxe]; exact nI_pos (by omega)
  refine W.anew hx hb hown (hts _ (hG _ hw)) (va_AO.use (hNN.1.2 t ht)) rfl hdg rfl hn1 (by rw [hN]; omega) (by omega) (by rw [hN]; omega) fun cA kA comp f1 f2 f3 f4 => ?_
  have hq : (ntys ca)[3 + t]? = some (ca (3 + t), aty (3 + t)) := by
    rcases (show t = 0 ∨ t = 1 ∨ t = 2 by omega) with rfl | rfl | rfl <;> rfl
  have hcA : cA = ca (3 + t) := by
    obtain ⟨kA2, comp2, g1, g2, g3, g4⟩ : ∃ (kA : Class) (comp : ClassId), s.vm.classes[ca (3 + t)]? = some kA ∧ kA.kind = .array comp (.object (elC t)) ∧ s.vm.findClass (elC t) = some comp ∧ s.vm.findClass ("[" ++ (FieldType.object (elC t)).toString) = some (ca (3 + t)) := by
      have h1 := (hK.2 (3 + t) _ hq).2
      rcases (show t = 0 ∨ t = 1 ∨ t = 2 by omega) with rfl | rfl | rfl <;> exact h1
    exact Option.some.inj (f1.symm.trans g4)
  rw [hN]
  refine W.cs (cells' := n + 1 - n0) (slots' := sl (n + 1) - sl n0) (by omega) (by omega) ?_
  generalize hH1 : H.push ({ cls := cA, slots := Array.replicate (aL (n + 1)) .null, vm := .none } : Cell) = H1
  have z1 : H1.size = H.size + 1 := by rw [← hH1, Array.size_push]
  have e1 : H1[h0 + n]? = some (arrV cA (aL (n + 1)) (fun _ => .null)) := by rw [← hH1, ← hsz, Array.getElem?_push_size, ← arrV_new]
  have o1 : ∀ q : Nat, q < h0 + n → H1[q]? = H[q]? := fun q hq => by rw [← hH1, Array.getElem?_push, if_neg (Nat.ne_of_lt (hsz ▸ hq))]
  have hk : ∀ (k : Nat) (x : Nat × va_E), (wd ca h0 b n I J R)[k]? = some x → H1[x.1]? = H[x.1]? := fun k x hx => o1 x.1 (hsz ▸ (hP k x hx).lt)
  have hP1 : va_P D ncl (wd ca h0 b (n + 1) (zI I (n + 1)) (zJ J (n + 1)) (zR R (n + 1))) H1 := by
    rw [← wd_add (e := .inl (ca (3 + t), aL (n + 1), arE h0 b (zI I (n + 1)) (zJ J (n + 1)) (zR R (n + 1)) (n + 1) (3 + t))) (celE_a ho3) (fun i hi => celE_I (zI_ne hi) (zJ_ne hi) (zR_ne hi))]
    refine (hP.kept hk).app (fun k x hx => ?_)
    have hz : k < 1 := (List.getElem?_eq_some_iff.mp hx).1
    rw [show k = 0 by omega] at hx
    cases hx
    show H1[h0 + n]? = some (vp_cell _ _)
    have y3 : zR R (n + 1) (n + 1) = fun _ => 0 := by simp [zR]
    rw [e1, hcA]
    rcases (show t = 0 ∨ t = 1 ∨ t = 2 by omega) with rfl | rfl | rfl <;> simp [arE, y3, vp_cell, va_rf]
  have hS1 : va_S A s.heap H1 locs := ⟨Nat.le_trans hS.1 (by omega), fun x h1 h2 => (o1 x (Nat.lt_of_lt_of_le h1 (hsz ▸ hS.1))).trans (hS.2.1 x h1 h2), hS.2.2⟩
  have hg : (F0 m (pc + 3) ls (Value.ref (h0 + n) :: r.map (cv h0 b)) : JFrame) = F0 m (pc + 3) ls ((Value.ref (n + 1) :: r).map (cv h0 b)) := rfl
  rw [hsz]
  exact h H1 locs ls (by omega) (fun q => by rw [hph] at q; cases q) hP1 hS1 hl
end SND2
end PT1x2
