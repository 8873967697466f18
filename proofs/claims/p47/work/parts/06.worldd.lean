section PT1x0
end PT1x0
section PT1x1
/-! ===== one step of the small machine is one of the machine ===== -/
section SND
variable {p : Program} {l : Launch} {e : Env} {rm : Room} {s : State} {m : MethodId} {args : Array Value} {below : List Frame} {meth : Method} {c : Code} {Qw : State → Prop}
variable {own : String} {cc : ByteArray} {nL ini : Nat} {Ts : List Cond} {D : va_G} {ca : Nat → ClassId} {h0 b n0 nend L : Nat} {A : Nat → Prop} {ph isl : Bool} {xs : Nat → Int32}
noncomputable def Ctx (p : Program) (rm : Room) (s : State) (m : MethodId) (args : Array Value) (meth : Method) (c : Code) (own : String) (cc : ByteArray) (nL ini : Nat) (Ts : List Cond) (D : va_G) (ca : Nat → ClassId) (h0 b n0 nend L : Nat) (A : Nat → Prop) (isl : Bool) (xs : Nat → Int32) : Prop :=
  p.tables.exec = Jvm.exec ∧ c.code = cc ∧ c.maxLocals = nL ∧ s.vm.findClass own = some m.cls ∧ (∀ w ∈ Ts, w.before args s = true) ∧ (∀ w ∈ wsG, w ∈ Ts) ∧ va_K D ncl (ntys ca) s ∧ (NN s ∧ SKp h0 s ∧ ∀ q, A q → h0 ≤ q) ∧ (∀ q, h0 ≤ q → A q) ∧ s.heap.size = h0 + n0 ∧ (ini = 1 → meth.name = "<init>") ∧ (nend - n0 ≤ rm.cells ∧ sl nend - sl n0 ≤ rm.slots) ∧ (1 ≤ rm.frames ∧ 64 ≤ rm.locals) ∧ (isl = true → va_X b L xs s s.heap ∧ b < s.heap.size ∧ ¬ A b)
noncomputable def PW (p : Program) (l : Launch) (e : Env) (rm : Room) (s : State) (m : MethodId) (args : Array Value) (below : List Frame) (meth : Method) (c : Code) (Qw : State → Prop) (nL : Nat) (D : va_G) (ca : Nat → ClassId) (h0 b n0 : Nat) (A : Nat → Prop) (ph : Bool) : Kt := fun pc n lv st I J R =>
  ∀ (H : Heap) (locs : List Loc) (ls : Array Slot), n0 ≤ n → (ph = true → Fl R ∧ n = nAll) → va_P D ncl (wd ca h0 b n I J R) H → va_S A s.heap H locs → lv_has ls nL (lvm h0 b lv) → W p l e rm s m args below meth c H locs (n - n0) (sl n - sl n0) Qw (F0 m pc ls (st.map (cv h0 b)))
theorem ncl_get : ∀ ci, ci < 13 → ncl[ci]? = some (clC ci, clT ci, clN ci)
  | 0, _ => rfl
  | 1, _ => rfl
  | 2, _ => rfl
  | 3, _ => rfl
  | 4, _ => rfl
  | 5, _ => rfl
  | 6, _ => rfl
  | 7, _ => rfl
  | 8, _ => rfl
  | 9, _ => rfl
  | 10, _ => rfl
  | 11, _ => rfl
  | 12, _ => rfl
theorem ucl : ∀ ci, ci < 13 → ∀ w ∈ u_ws (clC ci) (clT ci) (clN ci), w ∈ wsG
  | 0, _ => clw_0
  | 1, _ => clw_1
  | 2, _ => clw_2
  | 3, _ => clw_3
  | 4, _ => clw_4
  | 5, _ => clw_5
  | 6, _ => clw_6
  | 7, _ => clw_7
  | 8, _ => clw_8
  | 9, _ => clw_9
  | 10, _ => clw_10
  | 11, _ => clw_11
  | 12, _ => clw_12
theorem clY_ok : ∀ ci, ci < 13 → ∀ k, k < clN ci → parseFieldDescriptor (clT ci k).2.2.1 = some (clY ci k)
  | 0, _ => tyX0_ok
  | 1, _ => tyX1_ok
  | 2, _ => tyX2_ok
  | 3, _ => tyX3_ok
  | 4, _ => tyX4_ok
  | 5, _ => tyX5_ok
  | 6, _ => tyX6_ok
  | 7, _ => tyX7_ok
  | 8, _ => tyX8_ok
  | 9, _ => tyX9_ok
  | 10, _ => tyX10_ok
  | 11, _ => tyX11_ok
  | 12, _ => tyX12_ok
theorem clNm : ∀ ci, ci < 13 → ∀ a, a < clN ci → ∀ b, b < clN ci → a ≠ b → (clT ci a).2.1 ≠ (clT ci b).2.1
  | 0, _ => nmX0
  | 1, _ => nmX1
  | 2, _ => nmX2
  | 3, _ => nmX3
  | 4, _ => nmX4
  | 5, _ => nmX5
  | 6, _ => nmX6
  | 7, _ => nmX7
  | 8, _ => nmX8
  | 9, _ => nmX9
  | 10, _ => nmX10
  | 11, _ => nmX11
  | 12, _ => nmX12
set_option maxHeartbeats 4000000 in
theorem get_ok (C : Ctx p rm s m args meth c own cc nL ini Ts D ca h0 b n0 nend L A isl xs) {pc i n ci k kd of : Nat} {lv : Lv} {st : List Value} {I : Im} {J : Jm} {R : Rm} (hdg : decode cc pc = .ok (.getfield i, 3)) (hw : Cond.fieldLink own i (clT ci k).1 (clT ci k).2.1 (clT ci k).2.2.1 ∈ wsG) (hci : ci < 13) (hk : k < clN ci) (hkd : kd = fkd ci k) (hof : of = fof ci k)
    (h : fgt n ph ci k kd of st I J R (fun r => PW p l e rm s m args below meth c Qw nL D ca h0 b n0 A ph (pc + 3) n lv r I J R)) : PW p l e rm s m args below meth c Qw nL D ca h0 b n0 A ph pc n lv st I J R := by
  intro H locs ls hn hph hP hS hl
  obtain ⟨hx, hb, hml, hown, hts, hG, hK, hNN, hA, -⟩ := C
  unfold fgt sR at h
  split at h
  · rename_i o r
    cases ho : isO n o ci with
    | false => rw [ho] at h; exact h.elim
    | true =>
      rw [ho] at h
      obtain ⟨o1, o2, o3⟩ := isO_spec ho
      have he := wd_get (ca := ca) (h0 := h0) (b := b) (n := n) (I := I) (J := J) (R := R) o1 o2
      rw [celE_o o3 (by omega)] at he
      have hv : (flds h0 b I J R o ci)[k]? = some (fvl h0 b I J R o kd of k) := by simp [flds, hk, hkd, hof]
      have key : W p l e rm s m args below meth c H locs (n - n0) (sl n - sl n0) Qw (F0 m (pc + 3) ls (fvl h0 b I J R o kd of k :: r.map (cv h0 b))) → W p l e rm s m args below meth c H locs (n - n0) (sl n - sl n0) Qw (F0 m pc ls (Value.ref (ad h0 b o) :: r.map (cv h0 b))) := fun kk =>
        va_get hx hb hts (fun w hw => hG w (ucl ci hci w hw)) hown hK hP (o - 1) he (ncl_get ci hci) k hk (hts _ (hG _ hw)) (fun _ h => h) hv hdg kk
      refine key ?_
      dsimp only [cond_true] at h
      rcases kd with _ | _ | _ | _ | _ | kd
      · exact h H locs ls hn hph hP hS hl
      · exact h H locs ls hn hph hP hS hl
      · exact h H locs ls hn hph hP hS hl
      · have hf : fvl h0 b I J R o 3 of k = .ref (ad h0 b (R o k)) := if_neg h.1
        rw [hf]
        exact h.2 H locs ls hn hph hP hS hl
      · have hf : ¬ R o k = 0 → fvl h0 b I J R o 4 of k = .ref (ad h0 b (o + of)) := fun q => if_neg q
        cases ph with
        | false => rw [hf h.1]; exact h.2 H locs ls hn hph hP hS hl
        | true =>
          have hz := (hph rfl).1 (o - 1) k (by rw [o3]; exact hkd.symm)
          rw [Nat.sub_add_cancel o1] at hz
          rw [hf hz]; exact h H locs ls hn hph hP hS hl
      · exact h.elim
  · exact h.elim
end SND
end PT1x1
