/-! ===== one step of the small machine is one of the machine ===== -/
section SND
variable {p : Program} {l : Launch} {e : Env} {rm : Room} {s : State} {m : MethodId} {args : Array Value} {below : List Frame} {meth : Method} {c : Code} {Qw : State → Prop}
variable {own : String} {cc : ByteArray} {nL ini : Nat} {Ts : List Cond} {D : va_G} {ca : Nat → ClassId} {h0 b n0 nend L : Nat} {A : Nat → Prop} {ph isl : Bool} {xs : Nat → Int32}
noncomputable def Ctx (p : Program) (rm : Room) (s : State) (m : MethodId) (args : Array Value) (meth : Method) (c : Code) (own : String) (cc : ByteArray) (nL ini : Nat) (Ts : List Cond) (D : va_G) (ca : Nat → ClassId) (h0 b n0 nend L : Nat) (A : Nat → Prop) (isl : Bool) (xs : Nat → Int32) : Prop :=
  p.tables.exec = Jvm.exec ∧ c.code = cc ∧ c.maxLocals = nL ∧ s.vm.findClass own = some m.cls ∧ (∀ w ∈ Ts, w.before args s = true) ∧ (∀ w ∈ wsG, w ∈ Ts) ∧ va_K D ncl (ntys ca) s ∧ (NN s ∧ SKp h0 s ∧ ∀ q, A q → h0 ≤ q) ∧ (∀ q, h0 ≤ q → A q) ∧ s.heap.size = h0 + n0 ∧ (ini = 1 → meth.name = "<init>") ∧ (nend - n0 ≤ rm.cells ∧ sl nend - sl n0 ≤ rm.slots) ∧ (1 ≤ rm.frames ∧ 64 ≤ rm.locals) ∧ (isl = true → va_X b L xs s s.heap ∧ b < s.heap.size ∧ ¬ A b)
noncomputable def PW (p : Program) (l : Launch) (e : Env) (rm : Room) (s : State) (m : MethodId) (args : Array Value) (below : List Frame) (meth : Method) (c : Code) (Qw : State → Prop) (nL : Nat) (D : va_G) (ca : Nat → ClassId) (h0 b n0 : Nat) (A : Nat → Prop) (ph : Bool) : Kt := fun pc n lv st I J R =>
  ∀ (H : Heap) (locs : List Loc) (ls : Array Slot), n0 ≤ n → (ph = true → Fl R ∧ n = nAll) → va_P D ncl (wd ca h0 b n I J R) H → va_S A s.heap H locs → lv_has ls nL (lvm h0 b lv) → W p l e rm s m args below meth c H locs (n - n0) (sl n - sl n0) Qw (F0 m pc ls (st.map (cv h0 b)))
theorem ncl_get : ∀ ci, ci < 13 → ncl[ci]? = some (clC ci, clT ci, clN ci)
  | 0, _ => rfl
  | 1, _ => rfl
  | 2, _ => rfl
  | 3, _ => rfl
  | 4, _ => rfl
  | 5, _ => rfl
  | 6, _ => rfl
  | 7, _ => rfl
  | 8, _ => rfl
  | 9, _ => rfl
  | 10, _ => rfl
  | 11, _ => rfl
  | 12, _ => rfl
theorem ucl : ∀ ci, ci < 13 → ∀ w ∈ u_ws (clC ci) (clT ci) (clN ci), w ∈ wsG
  | 0, _ => clw_0
  | 1, _ => clw_1
  | 2, _ => clw_2
  | 3, _ => clw_3
  | 4, _ => clw_4
  | 5, _ => clw_5
  | 6, _ => clw_6
  | 7, _ => clw_7
  | 8, _ => clw_8
  | 9, _ => clw_9
  | 10, _ => clw_10
  | 11, _ => clw_11
  | 12, _ => clw_12
theorem clY_ok : ∀ ci, ci < 13 → ∀ k, k < clN ci → parseFieldDescriptor (clT ci k).2.2.1 = some (clY ci k)
  | 0, _ => tyX0_ok
  | 1, _ => tyX1_ok
  | 2, _ => tyX2_ok
  | 3, _ => tyX3_ok
  | 4, _ => tyX4_ok
  | 5, _ => tyX5_ok
  | 6, _ => tyX6_ok
  | 7, _ => tyX7_ok
  | 8, _ => tyX8_ok
  | 9, _ => tyX9_ok
  | 10, _ => tyX10_ok
  | 11, _ => tyX11_ok
  | 12, _ => tyX12_ok
theorem clNm : ∀ ci, ci < 13 → ∀ a, a < clN ci → ∀ b, b < clN ci → a ≠ b → (clT ci a).2.1 ≠ (clT ci b).2.1
  | 0, _ => nmX0
  | 1, _ => nmX1
  | 2, _ => nmX2
  | 3, _ => nmX3
  | 4, _ => nmX4
  | 5, _ => nmX5
  | 6, _ => nmX6
  | 7, _ => nmX7
  | 8, _ => nmX8
  | 9, _ => nmX9
  | 10, _ => nmX10
  | 11, _ => nmX11
  | 12, _ => nmX12
set_option maxHeartbeats 4000000 in
theorem get_ok (C : Ctx p rm s m args meth c own cc nL ini Ts D ca h0 b n0 nend L A isl xs) {pc i n ci k kd of : Nat} {lv : Lv} {st : List Value} {I : Im} {J : Jm} {R : Rm} (hdg : decode cc pc = .ok (.getfield i, 3)) (hw : Cond.fieldLink own i (clT ci k).1 (clT ci k).2.1 (clT ci k).2.2.1 ∈ wsG) (hci : ci < 13) (hk : k < clN ci) (hkd : kd = fkd ci k) (hof : of = fof ci k)
    (h : fgt n ph ci k kd of st I J R (fun r => PW p l e rm s m args below meth c Qw nL D ca h0 b n0 A ph (pc + 3) n lv r I J R)) : PW p l e rm s m args below meth c Qw nL D ca h0 b n0 A ph pc n lv st I J R := by
  intro H locs ls hn hph hP hS hl
  obtain ⟨hx, hb, hml, hown, hts, hG, hK, hNN, hA, -⟩ := C
  unfold fgt sR at h
  split at h
  · rename_i o r
    cases ho : isO n o ci with
    | false => rw [ho] at h; exact h.elim
    | true =>
      rw [ho] at h
      obtain ⟨o1, o2, o3⟩ := isO_spec ho
      have he := wd_get (ca := ca) (h0 := h0) (b := b) (n := n) (I := I) (J := J) (R := R) o1 o2
      rw [celE_o o3 (by omega)] at he
      have hv : (flds h0 b I J R o ci)[k]? = some (fvl h0 b I J R o kd of k) := by simp [flds, hk, hkd, hof]
      have key : W p l e rm s m args below meth c H locs (n - n0) (sl n - sl n0) Qw (F0 m (pc + 3) ls (fvl h0 b I J R o kd of k :: r.map (cv h0 b))) → W p l e rm s m args below meth c H locs (n - n0) (sl n - sl n0) Qw (F0 m pc ls (Value.ref (ad h0 b o) :: r.map (cv h0 b))) := fun kk =>
        va_get hx hb hts (fun w hw => hG w (ucl ci hci w hw)) hown hK hP (o - 1) he (ncl_get ci hci) k hk (hts _ (hG _ hw)) (fun _ h => h) hv hdg kk
      refine key ?_
      dsimp only [cond_true] at h
      rcases kd with _ | _ | _ | _ | _ | kd
      · exact h H locs ls hn hph hP hS hl
      · exact h H locs ls hn hph hP hS hl
      · exact h H locs ls hn hph hP hS hl
      · have hf : fvl h0 b I J R o 3 of k = .ref (ad h0 b (R o k)) := if_neg h.1
        rw [hf]
        exact h.2 H locs ls hn hph hP hS hl
      · have hf : ¬ R o k = 0 → fvl h0 b I J R o 4 of k = .ref (ad h0 b (o + of)) := fun q => if_neg q
        cases ph with
        | false => rw [hf h.1]; exact h.2 H locs ls hn hph hP hS hl
        | true =>
          have hz := (hph rfl).1 (o - 1) k (by rw [o3]; exact hkd.symm)
          rw [Nat.sub_add_cancel o1] at hz
          rw [hf hz]; exact h H locs ls hn hph hP hS hl
      · exact h.elim
  · exact h.elim
theorem fst_I {o ci k : Nat} {I : Im} {J : Jm} {R : Rm} {x : Int32} (hk : fkd ci k = 0 ∨ fkd ci k = 1) : (flds h0 b I J R o ci).set k (.int x) = flds h0 b (uI I o k x) J R o ci := by
  unfold flds
  rw [fset]
  apply List.map_congr_left
  intro j _
  by_cases hj : j = k
  · subst hj
    rw [if_pos rfl]
    rcases hk with h | h <;> rw [h] <;> simp [fvl, uI_eq, upd]
  · rw [if_neg hj]
    have : (uI I o k x) o j = I o j := by rw [uI_eq]; simp [upd, hj]
    unfold fvl
    rw [this]
theorem fst_J {o ci k : Nat} {I : Im} {J : Jm} {R : Rm} {x : Int64} (hk : fkd ci k = 2) : (flds h0 b I J R o ci).set k (.long x) = flds h0 b I (uJ J o k x) R o ci := by
  unfold flds
  rw [fset]
  apply List.map_congr_left
  intro j _
  by_cases hj : j = k
  · subst hj
    rw [if_pos rfl, hk]
    simp [fvl, uJ_eq, vp_updL]
  · rw [if_neg hj]
    have : (uJ J o k x) o j = J o j := by rw [uJ_eq]; simp [vp_updL, hj]
    unfold fvl
    rw [this]
theorem fst_R {o ci k v w : Nat} {I : Im} {J : Jm} {R : Rm} (hk : (fkd ci k = 3 ∧ w = v) ∨ (fkd ci k = 4 ∧ w = o + fof ci k)) (hv : ¬ v = 0) : (flds h0 b I J R o ci).set k (.ref (ad h0 b w)) = flds h0 b I J (uR R o k v) o ci := by
  unfold flds
  rw [fset]
  apply List.map_congr_left
  intro j _
  by_cases hj : j = k
  · subst hj
    rw [if_pos rfl]
    have : (uR R o j v) o j = v := by rw [uR_eq]; exact va_up_self _ _ _
    rcases hk with ⟨h, rfl⟩ | ⟨h, rfl⟩ <;> rw [h] <;> simp [fvl, this, hv]
  · rw [if_neg hj]
    have : (uR R o k v) o j = R o j := by rw [uR_eq]; exact va_up_ne _ _ hj
    unfold fvl
    rw [this]
theorem fl_len {o ci : Nat} {I : Im} {J : Jm} {R : Rm} : (flds h0 b I J R o ci).length = clN ci := by simp [flds]
theorem Fl_up {R : Rm} {o k v : Nat} (h : Fl R) (hv : ¬ v = 0) : Fl (uR R o k v) := by
  intro i j hi
  by_cases h1 : i + 1 = o
  · rw [← h1, uR_eq]
    by_cases h2 : j = k
    · subst h2; rw [va_up_self]; exact hv
    · rw [va_up_ne _ _ h2]; exact h i j hi
  · rw [uR_ne h1]; exact h i j hi
/-- a field is written, of any kind -/
theorem fput (C : Ctx p rm s m args meth c own cc nL ini Ts D ca h0 b n0 nend L A isl xs) {pc i n ci k : Nat} {lv : Lv} {I I' : Im} {J J' : Jm} {R R' : Rm} {o : Nat} {v : Value} {r : List Value} (hdg : decode cc pc = .ok (.putfield i, 3)) (hw : Cond.fieldLink own i (clT ci k).1 (clT ci k).2.1 (clT ci k).2.2.1 ∈ wsG) (hci : ci < 13) (hk : k < clN ci)
    (hfin : (clT ci k).2.2.2 = false ∨ ((clT ci k).2.2.2 = true ∧ (clT ci k).1 = own ∧ ini = 1)) (hn0 : narrow (clY ci k) v = v) (hfit : fits (clY ci k) v = true) (ho : isO n o ci = true)
    (hset : (flds h0 b I J R o ci).set k v = flds h0 b I' J' R' o ci) (h1 : ∀ a, a ≠ o → I' a = I a) (h2 : ∀ a, a ≠ o → J' a = J a) (h3 : ∀ a, a ≠ o → R' a = R a) (hF : ph = true → Fl R → Fl R')
    (h : PW p l e rm s m args below meth c Qw nL D ca h0 b n0 A ph (pc + 3) n lv r I' J' R') {H : Heap} {locs : List Loc} {ls : Array Slot} (hn : n0 ≤ n) (hph : ph = true → Fl R ∧ n = nAll) (hP : va_P D ncl (wd ca h0 b n I J R) H) (hS : va_S A s.heap H locs) (hl : lv_has ls nL (lvm h0 b lv)) :
    W p l e rm s m args below meth c H locs (n - n0) (sl n - sl n0) Qw (F0 m pc ls (v :: .ref (ad h0 b o) :: r.map (cv h0 b))) := by
  obtain ⟨hx, hb, hml, hown, hts, hG, hK, hNN, hA, hle, hini, -⟩ := C
  obtain ⟨o1, o2, o3⟩ := isO_spec ho
  have he := wd_get (ca := ca) (h0 := h0) (b := b) (n := n) (I := I) (J := J) (R := R) o1 o2
  rw [celE_o o3 (by omega)] at he
  have hD : va_D A (wd ca h0 b n I J R) := wd_D hA
  have hws : (wd ca h0 b n I J R).set (o - 1) (ad h0 b o, .inr (ci, (flds h0 b I J R o ci).set k v)) = wd ca h0 b n I' J' R' := wd_set o1 o2 (by rw [celE_o o3 (by omega), hset]) (fun i hi => celE_I (h1 i hi) (h2 i hi) (h3 i hi))
  have kk : ∀ (H1 : Heap) (locs1 : List Loc), va_P D ncl ((wd ca h0 b n I J R).set (o - 1) (ad h0 b o, .inr (ci, (flds h0 b I J R o ci).set k v))) H1 → va_D A ((wd ca h0 b n I J R).set (o - 1) (ad h0 b o, .inr (ci, (flds h0 b I J R o ci).set k v))) → va_S A s.heap H1 locs1 → W p l e rm s m args below meth c H1 locs1 (n - n0) (sl n - sl n0) Qw (F0 m (pc + 3) ls (r.map (cv h0 b))) := by
    intro H1 locs1 hP1 _ hS1
    rw [hws] at hP1
    exact h H1 locs1 ls hn (fun q => ⟨hF q (hph q).1, (hph q).2⟩) hP1 hS1 hl
  have hlen : k < (flds h0 b I J R o ci).length := by rw [fl_len]; exact hk
  rcases hfin with hfin | ⟨hfin, hdc, hi1⟩
  · exact va_put hx hb hts (fun w hw => hG w (ucl ci hci w hw)) (clY ci) (clY_ok ci hci) (clNm ci hci) hown hK hP hD hS (o - 1) he (ncl_get ci hci) k hk (hts _ (hG _ hw)) (fun _ h => h) hfin (clY_ok ci hci k hk) hn0 hfit hlen hdg kk
  · exact va_putF hx hb hts (fun w hw => hG w (ucl ci hci w hw)) (clY ci) (clY_ok ci hci) (clNm ci hci) hown hK hP hD hS (o - 1) he (ncl_get ci hci) k hk (hts _ (hG _ hw)) (fun _ h => h) hfin (hini hi1) hdc (clY_ok ci hci k hk) hn0 hfit hlen hdg kk

/-- the size of the heap, which the machine's own book bounds -/
theorem W_sz {I : Im} {J : Jm} {R : Rm} {n : Nat} {H : Heap} {locs : List Loc} {g : JFrame} (hs : s.heap.size = h0 + n0) (hn : n0 ≤ n) (hP : va_P D ncl (wd ca h0 b n I J R) H) (hS : va_S A s.heap H locs) (k : H.size = h0 + n → W p l e rm s m args below meth c H locs (n - n0) (sl n - sl n0) Qw g) : W p l e rm s m args below meth c H locs (n - n0) (sl n - sl n0) Qw g := by
  intro T hT X
  have h1 := X.heapSize
  rw [hT, hs] at h1
  have h2 : h0 + n ≤ H.size := by
    by_cases h : n = n0
    · rw [h, ← hs]; exact hS.1
    · have h3 := (hP (n - 1) _ (wd_get (a := n) (by omega) (Nat.le_refl n))).lt
      rw [show (ad h0 b n, celE ca h0 b I J R n).1 = h0 + (n - 1) from ad_pos (by omega)] at h3
      omega
  exact k (by omega) T hT X
theorem fpt0 {n : Nat} {ph : Bool} {ci k of : Nat} {st : List Value} {I : Im} {J : Jm} {R : Rm} {K : List Value → Im → Jm → Rm → Prop} (h : fpt n ph ci k 0 of st I J R K) : sRI st fun o x r => bif isO n o ci then K r (uI I o k x) J R else False := h
theorem fpt1 {n : Nat} {ph : Bool} {ci k of : Nat} {st : List Value} {I : Im} {J : Jm} {R : Rm} {K : List Value → Im → Jm → Rm → Prop} (h : fpt n ph ci k 1 of st I J R K) : sRI st fun o x r => bif isO n o ci then (x = 0 ∨ x = 1) ∧ K r (uI I o k x) J R else False := h
theorem fpt2 {n : Nat} {ph : Bool} {ci k of : Nat} {st : List Value} {I : Im} {J : Jm} {R : Rm} {K : List Value → Im → Jm → Rm → Prop} (h : fpt n ph ci k 2 of st I J R K) : sRL st fun o x r => bif isO n o ci then K r I (uJ J o k x) R else False := h
theorem fpt3 {n : Nat} {ph : Bool} {ci k of : Nat} {st : List Value} {I : Im} {J : Jm} {R : Rm} {K : List Value → Im → Jm → Rm → Prop} (h : fpt n ph ci k 3 of st I J R K) : sRR st fun o v r => bif isO n o ci then ¬ v = 0 ∧ K r I J (uR R o k v) else False := h
theorem fpt4 {n : Nat} {ph : Bool} {ci k of : Nat} {st : List Value} {I : Im} {J : Jm} {R : Rm} {K : List Value → Im → Jm → Rm → Prop} (h : fpt n ph ci k 4 of st I J R K) : sRR st fun o v r => bif isO n o ci then (bif ph then False else (bif Nat.beq v (o + of) then K r I J (uR R o k v) else False)) else False := h
theorem fpt5 {n : Nat} {ph : Bool} {ci k kd of : Nat} {st : List Value} {I : Im} {J : Jm} {R : Rm} {K : List Value → Im → Jm → Rm → Prop} (h : fpt n ph ci k (kd + 5) of st I J R K) : False := h
set_option maxHeartbeats 4000000 in
theorem put_ok (C : Ctx p rm s m args meth c own cc nL ini Ts D ca h0 b n0 nend L A isl xs) {pc i n ci k kd of : Nat} {lv : Lv} {st : List Value} {I : Im} {J : Jm} {R : Rm} (hdg : decode cc pc = .ok (.putfield i, 3)) (hw : Cond.fieldLink own i (clT ci k).1 (clT ci k).2.1 (clT ci k).2.2.1 ∈ wsG) (hci : ci < 13) (hk : k < clN ci) 
    (hty : (match kd with
      | 0 => decide (clY ci k = .int ∧ (clT ci k).2.2.2 = false)
      | 1 => decide (clY ci k = .boolean ∧ (clT ci k).2.2.2 = false)
      | 2 => decide (clY ci k = .long ∧ (clT ci k).2.2.2 = false)
      | 3 => isRefTy (clY ci k) && decide ((clT ci k).2.2.2 = false)
      | _ => isRefTy (clY ci k) && (decide ((clT ci k).2.2.2 = true ∧ (clT ci k).1 = own) && Nat.beq ini 1)) = true) (hkd : kd = fkd ci k) (hof : of = fof ci k)
    (h : fpt n ph ci k kd of st I J R (fun r I J R => PW p l e rm s m args below meth c Qw nL D ca h0 b n0 A ph (pc + 3) n lv r I J R)) : PW p l e rm s m args below meth c Qw nL D ca h0 b n0 A ph pc n lv st I J R := by
  intro H locs ls hn hph hP hS hl
  have rN : ∀ (ty : FieldType) (a : Nat), isRefTy ty = true → narrow ty (.ref a) = .ref a ∧ fits ty (.ref a) = true := by
    intro ty a hq
    cases ty <;> first | exact ⟨rfl, rfl⟩ | cases hq
  rcases kd with _ | _ | _ | _ | kd
  · have hty := of_decide_eq_true hty
    replace h := fpt0 h
    unfold sRI at h
    split at h
    · rename_i x o r
      cases ho : isO n o ci with
      | false => rw [ho] at h; exact h.elim
      | true =>
        rw [ho] at h
        exact fput C hdg hw hci hk (Or.inl hty.2) (by rw [hty.1]; rfl) (by rw [hty.1]; rfl) ho (fst_I (Or.inl hkd.symm)) (fun a ha => uI_ne ha) (fun _ _ => rfl) (fun _ _ => rfl) (fun _ q => q) h hn hph hP hS hl
    · exact h.elim
  · have hty := of_decide_eq_true hty
    replace h := fpt1 h
    unfold sRI at h
    split at h
    · rename_i x o r
      cases ho : isO n o ci with
      | false => rw [ho] at h; exact h.elim
      | true =>
        rw [ho] at h
        obtain ⟨hx01, h⟩ := h
        exact fput C hdg hw hci hk (Or.inl hty.2) (by rw [hty.1]; rcases hx01 with rfl | rfl <;> rfl) (by rw [hty.1]; rcases hx01 with rfl | rfl <;> rfl) ho (fst_I (Or.inr hkd.symm)) (fun a ha => uI_ne ha) (fun _ _ => rfl) (fun _ _ => rfl) (fun _ q => q) h hn hph hP hS hl
    · exact h.elim
  · have hty := of_decide_eq_true hty
    replace h := fpt2 h
    unfold sRL at h
    split at h
    · rename_i x o r
      cases ho : isO n o ci with
      | false => rw [ho] at h; exact h.elim
      | true =>
        rw [ho] at h
        exact fput C hdg hw hci hk (Or.inl hty.2) (by rw [hty.1]; rfl) (by rw [hty.1]; rfl) ho (fst_J hkd.symm) (fun _ _ => rfl) (fun a ha => uJ_ne ha) (fun _ _ => rfl) (fun _ q => q) h hn hph hP hS hl
    · exact h.elim
  · simp only [Bool.and_eq_true, decide_eq_true_eq] at hty
    replace h := fpt3 h
    unfold sRR at h
    split at h
    · rename_i v o r
      cases ho : isO n o ci with
      | false => rw [ho] at h; exact h.elim
      | true =>
        rw [ho] at h
        obtain ⟨hv0, h⟩ := h
        exact fput C hdg hw hci hk (Or.inl hty.2) (rN _ _ hty.1).1 (rN _ _ hty.1).2 ho (fst_R (Or.inl ⟨hkd.symm, rfl⟩) hv0) (fun _ _ => rfl) (fun _ _ => rfl) (fun a ha => uR_ne ha) (fun _ q => Fl_up q hv0) h hn hph hP hS hl
    · exact h.elim
  · rcases kd with _ | kd
    · have hty : (isRefTy (clY ci k) && (decide ((clT ci k).2.2.2 = true ∧ (clT ci k).1 = own) && Nat.beq ini 1)) = true := hty
      simp only [Bool.and_eq_true, decide_eq_true_eq] at hty
      replace h := fpt4 h
      unfold sRR at h
      split at h
      · rename_i v o r
        cases ho : isO n o ci with
        | false => rw [ho] at h; exact h.elim
        | true =>
          rw [ho] at h
          cases hph1 : ph with
          | true => rw [hph1] at h; exact h.elim
          | false =>
            rw [hph1] at h
            cases hvo : Nat.beq v (o + of) with
            | false => rw [hvo] at h; exact h.elim
            | true =>
              rw [hvo] at h
              have hv1 := Nat.eq_of_beq_eq_true hvo
              have ho1 := (isO_spec ho).1
              subst hph1
              exact fput C hdg hw hci hk (Or.inr ⟨hty.2.1.1, hty.2.1.2, Nat.eq_of_beq_eq_true hty.2.2⟩) (rN _ _ hty.1).1 (rN _ _ hty.1).2 ho (fst_R (Or.inr ⟨hkd.symm, by rw [hv1, hof]⟩) (by omega)) (fun _ _ => rfl) (fun _ _ => rfl) (fun a ha => uR_ne ha) (fun q => by cases q) h hn (fun q => by cases q) hP hS hl
      · exact h.elim
    · exact (fpt5 h).elim
end SND
