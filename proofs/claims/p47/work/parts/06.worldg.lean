section PT1x1
section SND
variable {p : Program} {l : Launch} {e : Env} {rm : Room} {s : State} {m : MethodId} {args : Array Value} {below : List Frame} {meth : Method} {c : Code} {Qw : State → Prop}
variable {own : String} {cc : ByteArray} {nL ini : Nat} {Ts : List Cond} {D : va_G} {ca : Nat → ClassId} {h0 b n0 nend L : Nat} {A : Nat → Prop} {ph isl : Bool} {xs : Nat → Int32}
end SND
end PT1x1
section PT1x2
section SND2
variable {p : Program} {l : Launch} {e : Env} {rm : Room} {s : State} {m : MethodId} {args : Array Value} {below : List Frame} {meth : Method} {c : Code} {Qw : State → Prop}
variable {own : String} {cc : ByteArray} {nL ini : Nat} {Ts : List Cond} {D : va_G} {ca : Nat → ClassId} {h0 b n0 nend L : Nat} {A : Nat → Prop} {ph isl : Bool} {xs : Nat → Int32}
theorem wd_arr {n a t : Nat} {I : Im} {J : Jm} {R : Rm} (h : isA n a t = true) : (wd ca h0 b n I J R)[a - 1]? = some (ad h0 b a, .inl (ca t, aL a, arE h0 b I J R a t)) := by
  obtain ⟨o1, o2, o3⟩ := isA_spec h
  rw [wd_get o1 o2, celE_a o3]
theorem wd_obj {n o ci : Nat} {I : Im} {J : Jm} {R : Rm} (h : isO n o ci = true) (hc : ci < 13) : (wd ca h0 b n I J R)[o - 1]? = some (ad h0 b o, .inr (ci, flds h0 b I J R o ci)) := by
  obtain ⟨o1, o2, o3⟩ := isO_spec h
  rw [wd_get o1 o2, celE_o o3 (by omega)]
theorem wd_seta {n a t : Nat} {I I' : Im} {J J' : Jm} {R R' : Rm} {x : (Nat → Int32) ⊕ (Nat → Int64) ⊕ (Nat → UInt32) ⊕ (Nat → UInt64) ⊕ (Nat → Option Nat)} (h : isA n a t = true) (hx : arE h0 b I' J' R' a t = x) (h1 : ∀ i, i ≠ a → I' i = I i) (h2 : ∀ i, i ≠ a → J' i = J i) (h3 : ∀ i, i ≠ a → R' i = R i) :
    (wd ca h0 b n I J R).set (a - 1) (ad h0 b a, .inl (ca t, aL a, x)) = wd ca h0 b n I' J' R' := by
  obtain ⟨o1, o2, o3⟩ := isA_spec h
  exact wd_set o1 o2 (by rw [celE_a o3, hx]) (fun i hi => celE_I (h1 i hi) (h2 i hi) (h3 i hi))
theorem aL_le (a : Nat) : aL a ≤ 4096 := by
  have h : ∀ q ∈ shl, q.2 ≤ 4096 := by decide +kernel
  unfold aL
  rw [List.getD_eq_getElem?_getD]
  cases hq : shl[a - 1]? with
  | none => exact Nat.zero_le _
  | some q => exact h q (List.mem_of_getElem? hq)
theorem dflt_ok : ∀ ci, ci < 13 → ∀ k, k < clN ci → defaultValue (clY ci k) = (match fkd ci k with
  | 0 => .int 0
  | 1 => .int 0
  | 2 => .long 0
  | _ => .null) := by decide +kernel
set_option maxHeartbeats 4000000 in
theorem new_ok (C : Ctx p rm s m args meth c own cc nL ini Ts D ca h0 b n0 nend L A isl xs) {pc i n ci : Nat} {lv : Lv} {st : List Value} {I : Im} {J : Jm} {R : Rm} (hdg : decode cc pc = .ok (.new i, 3)) (hw : ∀ w ∈ [Cond.classLink own i (clC ci), .instantiable (clC ci) (clN ci), .initialized (clC ci)], w ∈ wsG) (hci : ci < 13) (ho : isO (n + 1) (n + 1) ci = true) (hne : n + 1 ≤ nend) (hph : ph = false)
    (h : PW p l e rm s m args below meth c Qw nL D ca h0 b n0 A ph (pc + 3) (n + 1) lv (.ref (n + 1) :: st) (zI I (n + 1)) (zJ J (n + 1)) (zR R (n + 1))) : PW p l e rm s m args below meth c Qw nL D ca h0 b n0 A ph pc n lv st I J R := by
  intro H locs ls hn _ hP hS hl
  obtain ⟨hx, hb, hml, hown, hts, hG, hK, hNN, hA, hs0, hini, hroom, -⟩ := C
  refine W_sz hs0 hn hP hS (fun hsz => ?_)
  have ho3 := (isO_spec ho).2.2
  rw [Nat.add_sub_cancel] at ho3
  have hsl : sl (n + 1) = sl n + clN ci := by rw [sl, ho3, if_pos (by omega)]
  have hm1 : sl (n + 1) ≤ sl nend := sl_le hne
  have hm2 : sl n0 ≤ sl n := sl_le hn
  refine W.newcK (n := clN ci) hx hb hown (hts (.classLink own i (clC ci)) (hG _ (hw _ (by simp)))) (hts (.instantiable (clC ci) (clN ci)) (hG _ (hw _ (by simp)))) (hts (.initialized (clC ci)) (hG _ (hw _ (by simp)))) rfl hdg (by omega) (by omega) (hK.1 ci _ (ncl_get ci hci)).2.1 hsz fun H1 kC hkC e1 z1 o1 => ?_
  refine W.cs (cells' := n + 1 - n0) (slots' := sl (n + 1) - sl n0) (by omega) (by omega) ?_
  have hk : ∀ (k : Nat) (x : Nat × va_E), (wd ca h0 b n I J R)[k]? = some x → H1[x.1]? = H[x.1]? := fun k x hx => o1 x.1 (hsz ▸ (hP k x hx).lt)
  have hP1 : va_P D ncl (wd ca h0 b (n + 1) (zI I (n + 1)) (zJ J (n + 1)) (zR R (n + 1))) H1 := by
    rw [← wd_add (e := .inr (ci, flds h0 b (zI I (n + 1)) (zJ J (n + 1)) (zR R (n + 1)) (n + 1) ci)) (celE_o (by rw [Nat.add_sub_cancel]; exact ho3) (by omega)) (fun i hi => celE_I (zI_ne hi) (zJ_ne hi) (zR_ne hi))]
    refine (hP.kept hk).app (fun k x hx => ?_)
    have hz : k < 1 := (List.getElem?_eq_some_iff.mp hx).1
    rw [show k = 0 by omega] at hx
    cases hx
    refine ⟨_, ncl_get ci hci, (u_born (clY ci) hts (fun w hw => hG w (ucl ci hci w hw)) (hK.1 ci _ (ncl_get ci hci)) hkC e1 (clY_ok ci hci)).to (fun k hk => ?_)⟩
    have hq : vp_V (flds h0 b (zI I (n + 1)) (zJ J (n + 1)) (zR R (n + 1)) (n + 1) ci) k = fvl h0 b (zI I (n + 1)) (zJ J (n + 1)) (zR R (n + 1)) (n + 1) (fkd ci k) (fof ci k) k := by
      unfold vp_V
      rw [List.getD_eq_getElem?_getD]
      simp [flds, hk]
    rw [hq, dflt_ok ci hci k hk]
    have z1 : zI I (n + 1) (n + 1) k = 0 := by simp [zI]
    have z2 : zJ J (n + 1) (n + 1) k = 0 := by simp [zJ]
    have z3 : zR R (n + 1) (n + 1) k = 0 := by simp [zR]
    generalize fkd ci k = kd
    rcases kd with _ | _ | _ | _ | kd <;> simp [fvl, z1, z2, z3]
  have hS1 : va_S A s.heap H1 locs := ⟨Nat.le_trans hS.1 (by omega), fun x h1 h2 => (o1 x (Nat.lt_of_lt_of_le h1 (hsz ▸ hS.1))).trans (hS.2.1 x h1 h2), hS.2.2⟩
  exact h H1 locs ls (by omega) (fun q => by rw [hph] at q; cases q) hP1 hS1 hl
end SND2
end PT1x2
