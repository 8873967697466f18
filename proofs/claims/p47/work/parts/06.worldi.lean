section PT1x2
section SND2
variable {p : Program} {l : Launch} {e : Env} {rm : Room} {s : State} {m : MethodId} {args : Array Value} {below : List Frame} {meth : Method} {c : Code} {Qw : State → Prop}
variable {own : String} {cc : ByteArray} {nL ini : Nat} {Ts : List Cond} {D : va_G} {ca : Nat → ClassId} {h0 b n0 nend L : Nat} {A : Nat → Prop} {ph isl : Bool} {xs : Nat → Int32}
end SND2
end PT1x2
section PT1x3
section SND3
variable {p : Program} {l : Launch} {e : Env} {rm : Room} {s : State} {m : MethodId} {args : Array Value} {below : List Frame} {meth : Method} {c : Code} {Qw : State → Prop}
variable {own : String} {cc : ByteArray} {nL ini : Nat} {Ts : List Cond} {D : va_G} {ca : Nat → ClassId} {h0 b n0 nend L : Nat} {A : Nat → Prop} {ph isl : Bool} {xs : Nat → Int32}
theorem Wok.blind {n : Nat} {I : Im} {J : Jm} {R : Rm} {av : List Value} : FrameBlind (va_Pc av (fun U => Wok D ca h0 b n I J R U)) := fun a U g mk q =>
  ⟨q.1, q.2.1, q.2.2.1, va_K.moved (u := U) (U := U.calling g mk a) (Vm.Alike.refl U.vm) q.2.2.2.1, NN.warm (s := U) (U := U.calling g mk a) (State.WarmedH.refl U) q.2.2.2.2.1, SKp.next (s := U) (U := U.calling g mk a) (State.WarmedH.refl U) (fun _ _ _ => rfl) q.2.2.2.2.2⟩
theorem wsM_good {q : Mt} {Ts : List Cond} (hG : ∀ w ∈ wsG, w ∈ Ts) (hq : qW q ∈ wsG) : GoodIn Ts (wsM q) := by
  intro w hw
  rcases List.mem_cons.mp hw with rfl | h
  · exact ⟨hG _ hq, good_of_word (wsG_good hq)⟩
  · exact ⟨hG _ h, good_of_word (wsG_good h)⟩
theorem good_list {Ts ws : List Cond} (hG : ∀ w ∈ wsG, w ∈ Ts) (h : ∀ w ∈ ws, w ∈ wsG) : GoodIn Ts ws := fun w hw => ⟨hG _ (h w hw), good_of_word (wsG_good (h w hw))⟩
theorem good_app {Ts a b : List Cond} (ha : GoodIn Ts a) (hb : GoodIn Ts b) : GoodIn Ts (a ++ b) := fun w h => (List.mem_append.mp h).elim (ha w) (hb w)
theorem okCall_spec {q : Mt} {na rk al ci ph1 kr : Nat} (h : okCall q na rk al ci ph1 kr = true) : rk = qRk q ∧ al = qAl q ∧ ph1 = qPh q ∧ kr = qKr q ∧ na = qNa q ∧ (q.2.1.cls ≠ "java/lang/invoke/MethodHandle" ∧ q.2.1.cls ≠ "java/lang/invoke/VarHandle" ∧ (parseMethodDescriptor q.2.1.desc).map (fun d => d.parameters.length) = some (na - qIns q)) ∧ qL q ≤ 16 := by
  simp only [okCall, Bool.and_eq_true, decide_eq_true_eq] at h
  exact ⟨Nat.eq_of_beq_eq_true h.1, Nat.eq_of_beq_eq_true h.2.1, Nat.eq_of_beq_eq_true h.2.2.1, Nat.eq_of_beq_eq_true h.2.2.2.1, Nat.eq_of_beq_eq_true h.2.2.2.2.1, h.2.2.2.2.2.1, Nat.le_of_ble_eq_true h.2.2.2.2.2.2⟩
/-- behind a call, whatever it answers -/
theorem aft_ok (C : Ctx p rm s m args meth c own cc nL ini Ts D ca h0 b n0 nend L A isl xs) {q : Mt} {pc n rk al kr : Nat} {lv : Lv} {st st0 : List Value} {I : Im} {J : Jm} {R : Rm} {H : Heap} {locs : List Loc} {ls : Array Slot} {a : Array Value}
    (hrk : rk ≤ 3) (hn : n0 ≤ n) (hph : ph = true → Fl R ∧ n = nAll) (hpk : ph = true → kr = 1 ∧ al = 0) (hP : va_P D ncl (wd ca h0 b n I J R) H) (hS : va_S A s.heap H locs) (hl : lv_has ls nL (lvm h0 b lv)) (hz : H.size = h0 + n)
    (hr : va_Run p l e rm s m args below meth c H locs (n - n0) (sl n - sl n0) al (sl (n + al) - sl n) (F0 m pc ls st0) (st.map (cv h0 b)) (mPost D ca h0 b (n + al) rk kr R (fun x y I' J' R' => bf rk x (PW p l e rm s m args below meth c Qw nL D ca h0 b n0 A ph (pc + 3) (n + al) lv (psh rk x y st) I' J' (bif Nat.beq kr 1 then R else R'))) (mFree ca h0 b n I J R) a) (mFree ca h0 b n I J R)) :
    W p l e rm s m args below meth c H locs (n - n0) (sl n - sl n0) Qw (F0 m pc ls st0) := by
  obtain ⟨hx, hb, hml, hown, hts, hG, hK, hNN, hA, hs0, -⟩ := C
  have fin : ∀ (u : St3) (st1 : List Value) (t : State) (H1 : Heap) (locs1 : List Loc), (kr = 1 → u.2.2 = R) → PW p l e rm s m args below meth c Qw nL D ca h0 b n0 A ph (pc + 3) (n + al) lv st1 u.1 u.2.1 (bif Nat.beq kr 1 then R else u.2.2) → t.heap = H1 → (t.heap.size = h0 + (n + al) ∧ va_P D ncl (wd ca h0 b (n + al) u.1 u.2.1 u.2.2) t.heap) → va_S A s.heap H1 locs1 →
      W p l e rm s m args below meth c H1 locs1 (n - n0 + al) (sl n - sl n0 + (sl (n + al) - sl n)) Qw (F0 m (pc + 3) ls (st1.map (cv h0 b))) := by
    intro u st1 t H1 locs1 hkr hpw ht hB hS1
    have h1 : sl n ≤ sl (n + al) := sl_mono
    have h2 : sl n0 ≤ sl n := sl_le hn
    refine W.cs (cells' := n + al - n0) (slots' := sl (n + al) - sl n0) (by omega) (by omega) ?_
    have hR : (bif Nat.beq kr 1 then R else u.2.2) = u.2.2 := by
      cases hk : Nat.beq kr 1 with
      | false => rfl
      | true => exact (hkr (Nat.eq_of_beq_eq_true hk)).symm
    refine hpw H1 locs1 ls (by omega) (fun q => ?_) (by rw [hR, ← ht]; exact hB.2) hS1 hl
    obtain ⟨k1, k2⟩ := hpk q
    rw [k1, k2]
    exact ⟨(hph q).1, (hph q).2⟩
  have hA1 : ∀ q, q < H.size → mFree ca h0 b n I J R q → A q := fun q _ hq => hA q (mFree_ge.mp hq)
  have hA2 : ∀ q, mFree ca h0 b n I J R q → A q := fun q hq => hA q (mFree_ge.mp hq)
  rcases rk with _ | _ | _ | rk
  · refine va_callv (a := a) hr hS hA1 hA2 (fun u t H1 locs1 ht hvm hp hB hz1 hk1 hS1 => ?_)
    exact fin u _ t H1 locs1 hp.1 hp.2 ht hB hS1
  · refine va_calli (a := a) hr hS hA1 hA2 (fun x u t H1 locs1 ht hvm hp hB hz1 hk1 hS1 => ?_)
    exact fin u _ t H1 locs1 hp.1 hp.2 ht hB hS1
  · refine va_calli (a := a) hr hS hA1 hA2 (fun x u t H1 locs1 ht hvm hp hB hz1 hk1 hS1 => ?_)
    exact fin u _ t H1 locs1 hp.2.1 (hp.2.2 hp.1) ht hB hS1
  · rcases rk with _ | rk
    · refine va_calll (a := a) hr hS hA1 hA2 (fun x u t H1 locs1 ht hvm hp hB hz1 hk1 hS1 => ?_)
      exact fin u _ t H1 locs1 hp.1 hp.2 ht hB hS1
    · omega
end SND3
end PT1x3
