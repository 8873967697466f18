section SND4
variable {p : Program} {l : Launch} {e : Env} {rm : Room} {s : State} {m : MethodId} {args : Array Value} {below : List Frame} {meth : Method} {c : Code} {Qw : State → Prop}
variable {own : String} {cc : ByteArray} {nL ini : Nat} {Ts : List Cond} {D : va_G} {ca : Nat → ClassId} {h0 b n0 nend L : Nat} {A : Nat → Prop} {ph isl : Bool} {xs : Nat → Int32}
/-- what a return must give -/
noncomputable def RetOk (p : Program) (l : Launch) (e : Env) (rm : Room) (s : State) (m : MethodId) (args : Array Value) (below : List Frame) (meth : Method) (c : Code) (Qw : State → Prop) (cc : ByteArray) (D : va_G) (ca : Nat → ClassId) (h0 b n0 : Nat) (A : Nat → Prop) (rk : Nat) (Q : Nat → Qt) : Prop :=
  ∀ (pc n : Nat) (I : Im) (J : Jm) (R : Rm) (H : Heap) (locs : List Loc) (ls : Array Slot), n0 ≤ n → va_P D ncl (wd ca h0 b n I J R) H → va_S A s.heap H locs →
    (rk = 0 → decode cc pc = .ok (.return_, 1) → Q n 0 0 I J R → W p l e rm s m args below meth c H locs (n - n0) (sl n - sl n0) Qw (F0 m pc ls [])) ∧
    (rk = 1 ∨ rk = 2 → ∀ x : Int32, (rk = 2 → x = 0 ∨ x = 1) → decode cc pc = .ok (.ireturn, 1) → Q n x 0 I J R → W p l e rm s m args below meth c H locs (n - n0) (sl n - sl n0) Qw (F0 m pc ls [.int x])) ∧
    (rk = 3 → ∀ x : Int64, decode cc pc = .ok (.lreturn, 1) → Q n 0 x I J R → W p l e rm s m args below meth c H locs (n - n0) (sl n - sl n0) Qw (F0 m pc ls [.long x]))
theorem swT_in {T : Nat → Prop} {d : Prop} : ∀ (ks : List Int32) (ts : List Nat) (x : Int32) (j : Nat), swT ks ts x T d → ks[j]? = some x → (∀ i, i < j → ks[i]? ≠ some x) → ∀ t, ts[j]? = some t → T t
  | [], _, _, _, _, hk, _, _, _ => by simp at hk
  | k :: ks, [], _, _, _, _, _, _, ht => by simp at ht
  | k :: ks, u :: ts, x, 0, h, hk, _, t, ht => by
    simp at hk ht
    subst hk; subst ht
    exact h.1 rfl
  | k :: ks, u :: ts, x, j + 1, h, hk, hf, t, ht => by
    have hne : ¬ x = k := fun q => hf 0 (by omega) (by rw [q]; rfl)
    exact swT_in ks ts x j (h.2 hne) hk (fun i hi => hf (i + 1) (by omega)) t ht
theorem swT_out {T : Nat → Prop} {d : Prop} : ∀ (ks : List Int32) (ts : List Nat) (x : Int32), ks.length = ts.length → swT ks ts x T d → (∀ k ∈ ks, ¬ x = k) → d
  | [], _, _, _, h, _ => h
  | k :: ks, [], _, hl, _, _ => by simp at hl
  | k :: ks, u :: ts, x, hl, h, hn => swT_out ks ts x (by simpa using hl) (h.2 (hn k List.mem_cons_self)) (fun q hq => hn q (List.mem_cons_of_mem _ hq))
theorem lsw_ok {T : Nat → Prop} (pc : Nat) (df : Int) : ∀ (ps : List (Int × Int)) (ks : List Int32) (ts : List Nat) (dt : Nat) (x : Int32), (pc : Int) + df = (dt : Nat) → ps.map (fun q => q.1) = ks.map (fun k => k.toInt) → ps.map (fun q => (pc : Int) + q.2) = ts.map (fun (t : Nat) => (t : Int)) → swT ks ts x T (T dt) → ∃ tg : Nat, (pc : Int) + Op.lookupswitch.offset ps df x.toInt = (tg : Int) ∧ T tg
  | [], [], [], dt, x, h1, _, _, h => ⟨dt, h1, h⟩
  | [], k :: ks, _, _, _, _, h2, _, _ => by simp at h2
  | [], [], t :: ts, _, _, _, _, h3, _ => by simp at h3
  | q :: ps, [], _, _, _, _, h2, _, _ => by simp at h2
  | q :: ps, k :: ks, [], _, _, _, _, h3, _ => by simp at h3
  | (a, o) :: ps, k :: ks, t :: ts, dt, x, h1, h2, h3, h => by
    simp only [List.map_cons, List.cons.injEq] at h2 h3
    by_cases hx : x = k
    · refine ⟨t, ?_, h.1 hx⟩
      rw [Op.lookupswitch.offset_cons, if_pos (by rw [hx]; exact h2.1)]
      exact h3.1
    · rw [lv_osw hx h2.1.symm]
      exact lsw_ok pc df ps ks ts dt x h1 h2.2 h3.2 (h.2 hx)
set_option maxHeartbeats 8000000 in
theorem step_ok (C : Ctx p rm s m args meth c own cc nL ini Ts D ca h0 b n0 nend L A isl xs) {d : Nat} (IH : MetD l d) (hd : d + 1 ≤ rm.frames ∧ 64 * (d + 1) ≤ rm.locals) (hrk : ∀ mi, mi < nMth → qRk (mQ mi) ≤ 3) {rk : Nat} {Q : Nat → Qt} (hR : RetOk p l e rm s m args below meth c Qw cc D ca h0 b n0 A rk Q) {pc len n : Nat} {i : Jvm.ClassFile.Instr} {ax : List Nat} {ks : List Int32} {lz : Int64} {lv : Lv} {st : List Value} {I : Im} {J : Jm} {R : Rm}
    (hO : okE own cc nL ini (pc, i, len, ax, ks, lz) = true) (hW : ∀ w ∈ needE own (pc, i, len, ax, ks, lz), w ∈ wsG)
    (h : stI (AM d) ph isl L xs rk nend Q (PW p l e rm s m args below meth c Qw nL D ca h0 b n0 A ph) pc ax ks lz n lv st I J R i) : PW p l e rm s m args below meth c Qw nL D ca h0 b n0 A ph pc n lv st I J R := by
  have hO1 := hO
  unfold okE okR at hO1
  rw [Bool.and_eq_true, Bool.and_eq_true] at hO1
  obtain ⟨hdgB, hlnB, hm⟩ := hO1
  have hdg : decode cc pc = .ok (i, len) := of_decide_eq_true hdgB
  have hln : len = lnE i len := Nat.eq_of_beq_eq_true hlnB
  clear hdgB hlnB hO
  have C0 := C
  obtain ⟨hx, hb, hml, hown, hts, hG, hK, hNN, hA, hs0, hini, hroom, hfr, hisl⟩ := C
  have hwt : ∀ w ∈ needE own (pc, i, len, ax, ks, lz), w.before args s = true := fun w hw => hts w (hG w (hW w hw))
  cases i with
  | iconst z =>
    have hln : len = 1 := hln
    subst hln
    have hm := of_decide_eq_true hm
    intro H locs ls hn hph hP hS hl
    exact lv_iconst hx hb hdg hm (h H locs ls hn hph hP hS hl)
  | bipush z =>
    have hln : len = 2 := hln
    subst hln
    have hm := of_decide_eq_true hm
    intro H locs ls hn hph hP hS hl
    exact lv_bipush hx hb hdg hm (h H locs ls hn hph hP hS hl)
  | sipush z =>
    have hln : len = 3 := hln
    subst hln
    have hm := of_decide_eq_true hm
    intro H locs ls hn hph hP hS hl
    exact lv_sipush hx hb hdg hm (h H locs ls hn hph hP hS hl)
  | ldc j =>
    have hln : len = 2 := hln
    subst hln
    intro H locs ls hn hph hP hS hl
    exact lv_ldc hx hb hown (hwt _ (by simp [needE])) hdg (h H locs ls hn hph hP hS hl)
  | ldc_w j =>
    have hln : len = 3 := hln
    subst hln
    intro H locs ls hn hph hP hS hl
    exact lv_ldcw hx hb hown (hwt _ (by simp [needE])) hdg (h H locs ls hn hph hP hS hl)
  | ldc2_w j =>
    have hln : len = 3 := hln
    subst hln
    intro H locs ls hn hph hP hS hl
    exact lv_ldc2 hx hb hown (hwt _ (by simp [needE])) hdg (h H locs ls hn hph hP hS hl)
  | lconst k =>
    have hln : len = 1 := hln
    subst hln
    have hm := of_decide_eq_true hm
    intro H locs ls hn hph hP hS hl
    exact lv_lconst hx hb hdg hm (h H locs ls hn hph hP hS hl)
  | iload_n k =>
    have hln : len = 1 := hln
    subst hln
    intro H locs ls hn hph hP hS hl
    unfold stI lI at h
    dsimp only at h
    split at h
    · rename_i x hg
      exact lv_iload_n hx hb hdg rfl (lv_gt hl hg (by intro q; cases q)) (h H locs ls hn hph hP hS hl)
    · exact h.elim
  | lload_n k =>
    have hln : len = 1 := hln
    subst hln
    intro H locs ls hn hph hP hS hl
    unfold stI lL at h
    dsimp only at h
    split at h
    · rename_i x hg
      exact lv_lload_n hx hb hdg rfl (lv_gt hl hg (by intro q; cases q)) (h H locs ls hn hph hP hS hl)
    · exact h.elim
  | aload_n k =>
    have hln : len = 1 := hln
    subst hln
    intro H locs ls hn hph hP hS hl
    unfold stI lR at h
    dsimp only at h
    split at h
    · rename_i x hg
      exact lv_aload_n hx hb hdg rfl (lv_gt hl hg (by intro q; cases q)) (h H locs ls hn hph hP hS hl)
    · exact h.elim
  | iload k =>
    have hln : len = 2 := hln
    subst hln
    intro H locs ls hn hph hP hS hl
    unfold stI lI at h
    dsimp only at h
    split at h
    · rename_i x hg
      exact lv_iload hx hb hdg (lv_gt hl hg (by intro q; cases q)) (h H locs ls hn hph hP hS hl)
    · exact h.elim
  | lload k =>
    have hln : len = 2 := hln
    subst hln
    intro H locs ls hn hph hP hS hl
    unfold stI lL at h
    dsimp only at h
    split at h
    · rename_i x hg
      exact lv_lload hx hb hdg (lv_gt hl hg (by intro q; cases q)) (h H locs ls hn hph hP hS hl)
    · exact h.elim
  | aload k =>
    have hln : len = 2 := hln
    subst hln
    intro H locs ls hn hph hP hS hl
    unfold stI lR at h
    dsimp only at h
    split at h
    · rename_i x hg
      exact lv_aload hx hb hdg (lv_gt hl hg (by intro q; cases q)) (h H locs ls hn hph hP hS hl)
    · exact h.elim
  | istore_n k =>
    have hln : len = 1 := hln
    subst hln
    have hm := Nat.le_of_ble_eq_true hm
    intro H locs ls hn hph hP hS hl
    unfold stI sI at h
    dsimp only at h
    split at h
    · rename_i x r
      exact lv_istore_n hx hb hdg rfl hl hm (lvm_pt (v := .int x)) (fun ls hl => h H locs ls hn hph hP hS hl)
    · exact h.elim
  | astore_n k =>
    have hln : len = 1 := hln
    subst hln
    have hm := Nat.le_of_ble_eq_true hm
    intro H locs ls hn hph hP hS hl
    unfold stI sR at h
    dsimp only at h
    split at h
    · rename_i x r
      exact lv_astore_n hx hb hdg rfl hl hm (lvm_pt (v := .ref x)) (fun ls hl => h H locs ls hn hph hP hS hl)
    · exact h.elim
  | lstore_n k =>
    have hln : len = 1 := hln
    subst hln
    have hm := Nat.le_of_ble_eq_true hm
    intro H locs ls hn hph hP hS hl
    unfold stI sL at h
    dsimp only at h
    split at h
    · rename_i x r
      exact lv_lstore_n hx hb hdg rfl hl hm (lvm_pt2 (v := .long x)) (fun ls hl => h H locs ls hn hph hP hS hl)
    · exact h.elim
  | istore k =>
    have hln : len = 2 := hln
    subst hln
    have hm := Nat.le_of_ble_eq_true hm
    intro H locs ls hn hph hP hS hl
    unfold stI sI at h
    dsimp only at h
    split at h
    · rename_i x r
      exact lv_istore hx hb hdg hl hm (lvm_pt (v := .int x)) (fun ls hl => h H locs ls hn hph hP hS hl)
    · exact h.elim
  | astore k =>
    have hln : len = 2 := hln
    subst hln
    have hm := Nat.le_of_ble_eq_true hm
    intro H locs ls hn hph hP hS hl
    unfold stI sR at h
    dsimp only at h
    split at h
    · rename_i x r
      exact lv_astore hx hb hdg hl hm (lvm_pt (v := .ref x)) (fun ls hl => h H locs ls hn hph hP hS hl)
    · exact h.elim
  | lstore k =>
    have hln : len = 2 := hln
    subst hln
    have hm := Nat.le_of_ble_eq_true hm
    intro H locs ls hn hph hP hS hl
    unfold stI sL at h
    dsimp only at h
    split at h
    · rename_i x r
      exact lv_lstore hx hb hdg hl hm (lvm_pt2 (v := .long x)) (fun ls hl => h H locs ls hn hph hP hS hl)
    · exact h.elim
  | iinc k z =>
    have hln : len = 3 := hln
    subst hln
    have hm : (decide (Int32.ofInt z = kz ks) && Nat.blt k nL) = true := hm
    rw [Bool.and_eq_true] at hm
    have hm1 := of_decide_eq_true hm.1
    have hm2 := Nat.le_of_ble_eq_true hm.2
    intro H locs ls hn hph hP hS hl
    unfold stI lI at h
    dsimp only at h
    split at h
    · rename_i x hg
      have hin : (k, Value.int x) ∈ lvm h0 b lv := List.mem_map.mpr ⟨(k, .int x), lgt_mem hg (by intro q; cases q), rfl⟩
      obtain ⟨kk, hkk⟩ := List.getElem?_of_mem hin
      exact lv_iinc hx hb hdg hl hkk (by rw [hm1]) hm2 (lvm_pt (v := .int (x + kz ks))) (fun ls hl => h H locs ls hn hph hP hS hl)
    · exact h.elim
  | iadd =>
    have hln : len = 1 := hln
    subst hln
    intro H locs ls hn hph hP hS hl
    unfold stI sII at h
    dsimp only at h
    split at h
    · rename_i y x r
      exact lv_iadd hx hb hdg (h H locs ls hn hph hP hS hl)
    · exact h.elim
  | isub =>
    have hln : len = 1 := hln
    subst hln
    intro H locs ls hn hph hP hS hl
    unfold stI sII at h
    dsimp only at h
    split at h
    · rename_i y x r
      exact lv_isub hx hb hdg (h H locs ls hn hph hP hS hl)
    · exact h.elim
  | imul =>
    have hln : len = 1 := hln
    subst hln
    intro H locs ls hn hph hP hS hl
    unfold stI sII at h
    dsimp only at h
    split at h
    · rename_i y x r
      exact lv_imul hx hb hdg (h H locs ls hn hph hP hS hl)
    · exact h.elim
  | iand =>
    have hln : len = 1 := hln
    subst hln
    intro H locs ls hn hph hP hS hl
    unfold stI sII at h
    dsimp only at h
    split at h
    · rename_i y x r
      exact lv_iand hx hb hdg (h H locs ls hn hph hP hS hl)
    · exact h.elim
  | ior =>
    have hln : len = 1 := hln
    subst hln
    intro H locs ls hn hph hP hS hl
    unfold stI sII at h
    dsimp only at h
    split at h
    · rename_i y x r
      exact lv_ior hx hb hdg (h H locs ls hn hph hP hS hl)
    · exact h.elim
  | ixor =>
    have hln : len = 1 := hln
    subst hln
    intro H locs ls hn hph hP hS hl
    unfold stI sII at h
    dsimp only at h
    split at h
    · rename_i y x r
      exact lv_ixor hx hb hdg (h H locs ls hn hph hP hS hl)
    · exact h.elim
  | ishl =>
    have hln : len = 1 := hln
    subst hln
    intro H locs ls hn hph hP hS hl
    unfold stI sII at h
    dsimp only at h
    split at h
    · rename_i y x r
      exact lv_ishl hx hb hdg (h H locs ls hn hph hP hS hl)
    · exact h.elim
  | ishr =>
    have hln : len = 1 := hln
    subst hln
    intro H locs ls hn hph hP hS hl
    unfold stI sII at h
    dsimp only at h
    split at h
    · rename_i y x r
      exact lv_ishr hx hb hdg (h H locs ls hn hph hP hS hl)
    · exact h.elim
  | iushr =>
    have hln : len = 1 := hln
    subst hln
    intro H locs ls hn hph hP hS hl
    unfold stI sII at h
    dsimp only at h
    split at h
    · rename_i y x r
      exact lv_iushr hx hb hdg rfl (h H locs ls hn hph hP hS hl)
    · exact h.elim
  | idiv =>
    have hln : len = 1 := hln
    subst hln
    intro H locs ls hn hph hP hS hl
    unfold stI sII at h
    dsimp only at h
    split at h
    · rename_i y x r
      exact lv_idiv hx hb hdg h.1 (h.2 H locs ls hn hph hP hS hl)
    · exact h.elim
  | irem =>
    have hln : len = 1 := hln
    subst hln
    intro H locs ls hn hph hP hS hl
    unfold stI sII at h
    dsimp only at h
    split at h
    · rename_i y x r
      exact lv_irem hx hb hdg h.1 (h.2 H locs ls hn hph hP hS hl)
    · exact h.elim
  | ladd =>
    have hln : len = 1 := hln
    subst hln
    intro H locs ls hn hph hP hS hl
    unfold stI sLL at h
    dsimp only at h
    split at h
    · rename_i y x r
      exact lv_ladd hx hb hdg (h H locs ls hn hph hP hS hl)
    · exact h.elim
  | lsub =>
    have hln : len = 1 := hln
    subst hln
    intro H locs ls hn hph hP hS hl
    unfold stI sLL at h
    dsimp only at h
    split at h
    · rename_i y x r
      exact lv_lsub hx hb hdg (h H locs ls hn hph hP hS hl)
    · exact h.elim
  | lmul =>
    have hln : len = 1 := hln
    subst hln
    intro H locs ls hn hph hP hS hl
    unfold stI sLL at h
    dsimp only at h
    split at h
    · rename_i y x r
      exact lv_lmul hx hb hdg (h H locs ls hn hph hP hS hl)
    · exact h.elim
  | land =>
    have hln : len = 1 := hln
    subst hln
    intro H locs ls hn hph hP hS hl
    unfold stI sLL at h
    dsimp only at h
    split at h
    · rename_i y x r
      exact lv_land hx hb hdg (h H locs ls hn hph hP hS hl)
    · exact h.elim
  | lor =>
    have hln : len = 1 := hln
    subst hln
    intro H locs ls hn hph hP hS hl
    unfold stI sLL at h
    dsimp only at h
    split at h
    · rename_i y x r
      exact lv_lor hx hb hdg (h H locs ls hn hph hP hS hl)
    · exact h.elim
  | ldiv =>
    have hln : len = 1 := hln
    subst hln
    intro H locs ls hn hph hP hS hl
    unfold stI sLL at h
    dsimp only at h
    split at h
    · rename_i y x r
      exact lv_ldiv hx hb hdg h.1 (h.2 H locs ls hn hph hP hS hl)
    · exact h.elim
  | lrem =>
    have hln : len = 1 := hln
    subst hln
    intro H locs ls hn hph hP hS hl
    unfold stI sLL at h
    dsimp only at h
    split at h
    · rename_i y x r
      exact lv_lrem hx hb hdg h.1 (h.2 H locs ls hn hph hP hS hl)
    · exact h.elim
  | lneg =>
    have hln : len = 1 := hln
    subst hln
    intro H locs ls hn hph hP hS hl
    unfold stI sL at h
    dsimp only at h
    split at h
    · rename_i x r
      exact lv_lneg hx hb hdg (h H locs ls hn hph hP hS hl)
    · exact h.elim
  | lshl =>
    have hln : len = 1 := hln
    subst hln
    intro H locs ls hn hph hP hS hl
    unfold stI sLI at h
    dsimp only at h
    split at h
    · rename_i y x r
      exact lv_lshl hx hb hdg rfl (h H locs ls hn hph hP hS hl)
    · exact h.elim
  | i2l =>
    have hln : len = 1 := hln
    subst hln
    intro H locs ls hn hph hP hS hl
    unfold stI sI at h
    dsimp only at h
    split at h
    · rename_i x r
      exact lv_i2l hx hb hdg rfl (h H locs ls hn hph hP hS hl)
    · exact h.elim
  | l2i =>
    have hln : len = 1 := hln
    subst hln
    intro H locs ls hn hph hP hS hl
    unfold stI sL at h
    dsimp only at h
    split at h
    · rename_i x r
      exact lv_l2i hx hb hdg rfl (h H locs ls hn hph hP hS hl)
    · exact h.elim
  | i2b =>
    have hln : len = 1 := hln
    subst hln
    intro H locs ls hn hph hP hS hl
    unfold stI sI at h
    dsimp only at h
    split at h
    · rename_i x r
      exact lv_i2b hx hb hdg rfl (h H locs ls hn hph hP hS hl)
    · exact h.elim
  | i2s =>
    have hln : len = 1 := hln
    subst hln
    intro H locs ls hn hph hP hS hl
    unfold stI sI at h
    dsimp only at h
    split at h
    · rename_i x r
      exact lv_i2s hx hb hdg rfl (h H locs ls hn hph hP hS hl)
    · exact h.elim
  | lcmp =>
    have hln : len = 1 := hln
    subst hln
    intro H locs ls hn hph hP hS hl
    unfold stI sLL at h
    dsimp only at h
    split at h
    · rename_i y x r
      exact W.lcmp hx hb hdg (h H locs ls hn hph hP hS hl)
    · exact h.elim
  | dup =>
    have hln : len = 1 := hln
    subst hln
    intro H locs ls hn hph hP hS hl
    unfold stI at h
    dsimp only at h
    split at h
    · rename_i x r
      exact lv_dup hx hb hdg rfl (h H locs ls hn hph hP hS hl)
    · rename_i x r
      exact lv_dup hx hb hdg rfl (h H locs ls hn hph hP hS hl)
    · exact h.elim
  | dup2 =>
    have hln : len = 1 := hln
    subst hln
    intro H locs ls hn hph hP hS hl
    unfold stI at h
    dsimp only at h
    split at h
    · rename_i x y r
      exact lv_dup2_11 hx hb hdg rfl rfl (h H locs ls hn hph hP hS hl)
    · exact h.elim
  | pop =>
    have hln : len = 1 := hln
    subst hln
    intro H locs ls hn hph hP hS hl
    unfold stI at h
    dsimp only at h
    split at h
    · rename_i x r
      exact lv_pop hx hb hdg rfl (h H locs ls hn hph hP hS hl)
    · rename_i x r
      exact lv_pop hx hb hdg rfl (h H locs ls hn hph hP hS hl)
    · exact h.elim
  | pop2 =>
    have hln : len = 1 := hln
    subst hln
    intro H locs ls hn hph hP hS hl
    unfold stI sL at h
    dsimp only at h
    split at h
    · rename_i x r
      exact lv_pop2_2 hx hb hdg rfl (h H locs ls hn hph hP hS hl)
    · exact h.elim
  | goto off =>
    have hln : len = 3 := hln
    subst hln
    have hm := of_decide_eq_true hm
    intro H locs ls hn hph hP hS hl
    exact lv_goto hx hb hdg hm (h H locs ls hn hph hP hS hl)
  | ifCond cd off =>
    have hln : len = 3 := hln
    subst hln
    have hm := of_decide_eq_true hm
    intro H locs ls hn hph hP hS hl
    unfold stI sI at h
    dsimp only at h
    split at h
    · rename_i x r
      cases cd with
      | eq => exact lv_if_eq hx hb hdg hm (fun q => h.1 q H locs ls hn hph hP hS hl) (fun q => h.2 q H locs ls hn hph hP hS hl)
      | ne => exact lv_if_ne hx hb hdg hm (fun q => h.1 q H locs ls hn hph hP hS hl) (fun q => h.2 q H locs ls hn hph hP hS hl)
      | lt => exact lv_if_lt hx hb hdg hm (fun q => h.1 q H locs ls hn hph hP hS hl) (fun q => h.2 q H locs ls hn hph hP hS hl)
      | ge => exact lv_if_ge hx hb hdg hm (fun q => h.1 q H locs ls hn hph hP hS hl) (fun q => h.2 q H locs ls hn hph hP hS hl)
      | gt => exact lv_if_gt hx hb hdg hm (fun q => h.1 q H locs ls hn hph hP hS hl) (fun q => h.2 q H locs ls hn hph hP hS hl)
      | le => exact lv_if_le hx hb hdg hm (fun q => h.1 q H locs ls hn hph hP hS hl) (fun q => h.2 q H locs ls hn hph hP hS hl)
    · exact h.elim
  | if_icmp cd off =>
    have hln : len = 3 := hln
    subst hln
    have hm := of_decide_eq_true hm
    intro H locs ls hn hph hP hS hl
    unfold stI sII at h
    dsimp only at h
    split at h
    · rename_i y x r
      cases cd with
      | eq => exact lv_icmp_eq hx hb hdg hm (fun q => h.1 q H locs ls hn hph hP hS hl) (fun q => h.2 q H locs ls hn hph hP hS hl)
      | ne => exact lv_icmp_ne hx hb hdg hm (fun q => h.1 q H locs ls hn hph hP hS hl) (fun q => h.2 q H locs ls hn hph hP hS hl)
      | lt => exact lv_icmp_lt hx hb hdg hm (fun q => h.1 q H locs ls hn hph hP hS hl) (fun q => h.2 q H locs ls hn hph hP hS hl)
      | ge => exact lv_icmp_ge hx hb hdg hm (fun q => h.1 q H locs ls hn hph hP hS hl) (fun q => h.2 q H locs ls hn hph hP hS hl)
      | gt => exact lv_icmp_gt hx hb hdg hm (fun q => h.1 q H locs ls hn hph hP hS hl) (fun q => h.2 q H locs ls hn hph hP hS hl)
      | le => exact lv_icmp_le hx hb hdg hm (fun q => h.1 q H locs ls hn hph hP hS hl) (fun q => h.2 q H locs ls hn hph hP hS hl)
    · exact h.elim
  | tableswitch df lo hi offs =>
    have hm : (decide ((pc : Int) + df = (ax.getD 0 0 : Nat)) && (decide (-1000 ≤ lo ∧ hi ≤ 1000 ∧ lo ≤ hi + 1 ∧ ks = (List.range (hi + 1 - lo).toNat).map (fun (j : Nat) => Int32.ofInt (lo + (j : Int)))) && decide (offs.toList.map (fun o => (pc : Int) + o) = ax.tail.map (fun (t : Nat) => (t : Int)) ∧ offs.toList.length = (hi + 1 - lo).toNat))) = true := hm
    rw [Bool.and_eq_true, Bool.and_eq_true] at hm
    have m1 := of_decide_eq_true hm.1
    obtain ⟨m2, m3, m4, m5⟩ := of_decide_eq_true hm.2.1
    obtain ⟨m6, m7⟩ := of_decide_eq_true hm.2.2
    intro H locs ls hn hph hP hS hl
    unfold stI sI at h
    dsimp only at h
    split at h
    · rename_i x r
      have hkl : ks.length = (hi + 1 - lo).toNat := by rw [m5]; simp
      have htl : ax.tail.length = (hi + 1 - lo).toNat := by
        have := congrArg List.length m6
        simp at this
        rw [← m7]; simp; omega
      have hof : ∀ z : Int, -1000 ≤ z → z ≤ 2000 → (Int32.ofInt z).toInt = z := fun z h1 h2 => by
        rw [Int32.toInt_ofInt]
        have hs : Int32.size = 4294967296 := rfl
        rw [hs]
        exact Int.bmod_eq_of_le (by omega) (by omega)
      by_cases hx1 : x.toInt < lo
      · refine lv_tableOut hx hb hdg (Or.inl hx1) m1 (swT_out ks ax.tail x (by omega) h (fun k hk => ?_) H locs ls hn hph hP hS hl)
        intro q
        rw [m5] at hk
        obtain ⟨j, hj, rfl⟩ := List.mem_map.mp hk
        have := List.mem_range.mp hj
        rw [q, hof _ (by omega) (by omega)] at hx1
        omega
      · by_cases hx2 : hi < x.toInt
        · refine lv_tableOut hx hb hdg (Or.inr hx2) m1 (swT_out ks ax.tail x (by omega) h (fun k hk => ?_) H locs ls hn hph hP hS hl)
          intro q
          rw [m5] at hk
          obtain ⟨j, hj, rfl⟩ := List.mem_map.mp hk
          have := List.mem_range.mp hj
          rw [q, hof _ (by omega) (by omega)] at hx2
          omega
        · have hjl : (x.toInt - lo).toNat < (hi + 1 - lo).toNat := by omega
          have hto : offs.toList[(x.toInt - lo).toNat]? = some (offs.toList[(x.toInt - lo).toNat]'(by rw [m7]; exact hjl)) := List.getElem?_eq_getElem _
          have htt : ax.tail[(x.toInt - lo).toNat]? = some (ax.tail[(x.toInt - lo).toNat]'(by rw [htl]; exact hjl)) := List.getElem?_eq_getElem _
          generalize hT : ax.tail[(x.toInt - lo).toNat]'(by rw [htl]; exact hjl) = tg at htt
          generalize hO2 : offs.toList[(x.toInt - lo).toNat]'(by rw [m7]; exact hjl) = of2 at hto
          have heq : (pc : Int) + of2 = (tg : Int) := by
            have h1 : (offs.toList.map (fun o => (pc : Int) + o))[(x.toInt - lo).toNat]? = some ((pc : Int) + of2) := by rw [List.getElem?_map, hto]; rfl
            have h2 : (ax.tail.map (fun (t : Nat) => (t : Int)))[(x.toInt - lo).toNat]? = some (tg : Int) := by rw [List.getElem?_map, htt]; rfl
            rw [m6, h2] at h1
            exact (Option.some.inj h1).symm
          have hks : ∀ j, j < (hi + 1 - lo).toNat → ks[j]? = some (Int32.ofInt (lo + (j : Int))) := fun j hj => by rw [m5, List.getElem?_map, List.getElem?_range hj]; rfl
          refine lv_tableIn hx hb hdg hx1 hx2 (by rw [← Array.getElem?_toList]; exact hto) heq (swT_in ks ax.tail x _ h ?_ ?_ tg htt H locs ls hn hph hP hS hl)
          · rw [hks _ hjl]
            congr 1
            apply Int32.toInt_inj.mp
            rw [hof _ (by omega) (by omega)]
            omega
          · intro j hj q
            rw [hks j (by omega)] at q
            have := congrArg Int32.toInt (Option.some.inj q)
            rw [hof _ (by omega) (by omega)] at this
            omega
    · exact h.elim
  | lookupswitch df ps =>
    have hm : (decide ((pc : Int) + df = (ax.getD 0 0 : Nat)) && (decide (ps.toList.map (fun q => q.1) = ks.map (fun k => k.toInt)) && (decide (ps.toList.map (fun q => (pc : Int) + q.2) = ax.tail.map (fun (t : Nat) => (t : Int))) && (ps.toList.zip (ps.toList.drop 1)).all (fun (a, next) => a.1 < next.1)))) = true := hm
    rw [Bool.and_eq_true, Bool.and_eq_true, Bool.and_eq_true] at hm
    have m1 := of_decide_eq_true hm.1
    have m2 := of_decide_eq_true hm.2.1
    have m3 := of_decide_eq_true hm.2.2.1
    have m4 := hm.2.2.2
    intro H locs ls hn hph hP hS hl
    unfold stI sI at h
    dsimp only at h
    split at h
    · rename_i x r
      obtain ⟨tg, h1, h2⟩ := lsw_ok (T := fun t => PW p l e rm s m args below meth c Qw nL D ca h0 b n0 A ph t n lv r I J R) pc df ps.toList ks ax.tail (ax.getD 0 0) x m1 m2 m3 h
      exact lv_lookup hx hb hdg m4 rfl h1 (h2 H locs ls hn hph hP hS hl)
    · exact h.elim
  | getfield j =>
    have hln : len = 3 := hln
    subst hln
    unfold stI at h
    dsimp only at h
    split at h
    · rename_i ci k kd of
      have hm : (Nat.blt ci 13 && (Nat.blt k (clN ci) && (Nat.beq kd (fkd ci k) && Nat.beq of (fof ci k)))) = true := hm
      simp only [Bool.and_eq_true] at hm
      exact get_ok C0 hdg (hW _ (by simp [needE])) (Nat.le_of_ble_eq_true hm.1) (Nat.le_of_ble_eq_true hm.2.1) (Nat.eq_of_beq_eq_true hm.2.2.1) (Nat.eq_of_beq_eq_true hm.2.2.2) h
    · exact h.elim
  | putfield j =>
    have hln : len = 3 := hln
    subst hln
    unfold stI at h
    dsimp only at h
    split at h
    · rename_i ci k kd of
      replace hm := hm
      dsimp only at hm
      rw [Bool.and_eq_true, Bool.and_eq_true, Bool.and_eq_true, Bool.and_eq_true] at hm
      exact put_ok C0 hdg (hW _ (by simp [needE])) (Nat.le_of_ble_eq_true hm.1) (Nat.le_of_ble_eq_true hm.2.1) hm.2.2.2.2 (Nat.eq_of_beq_eq_true hm.2.2.1) (Nat.eq_of_beq_eq_true hm.2.2.2.1) h
    · exact h.elim
  | iaload =>
    have hln : len = 1 := hln
    subst hln
    intro H locs ls hn hph hP hS hl
    unfold stI sRI at h
    dsimp only at h
    split at h
    · rename_i i a r
      cases ha : isA n a 0 with
      | true =>
        rw [ha] at h
        exact va_iald hx hb hK hP (a - 1) 0 (wd_arr ha) rfl h.1 hdg (h.2 H locs ls hn hph hP hS hl)
      | false =>
        rw [ha] at h
        cases hi : (isl && Nat.beq a 0) with
        | false => rw [hi] at h; exact h.elim
        | true =>
          rw [hi] at h
          rw [Bool.and_eq_true] at hi
          have ha0 := Nat.eq_of_beq_eq_true hi.2
          subst ha0
          obtain ⟨q1, q2, q3⟩ := hisl hi.1
          exact va_sld hx hb q1 q2 q3 hS h.1 hdg (h.2 H locs ls hn hph hP hS hl)
    · exact h.elim
  | baload =>
    have hln : len = 1 := hln
    subst hln
    intro H locs ls hn hph hP hS hl
    unfold stI sRI at h
    dsimp only at h
    split at h
    · rename_i i a r
      cases ha : isA n a 2 with
      | true =>
        rw [ha] at h
        exact va_bald hx hb hK hP (a - 1) 2 (wd_arr ha) rfl h.1 hdg (h.2 H locs ls hn hph hP hS hl)
      | false =>
        rw [ha] at h
        exact h.elim
    · exact h.elim
  | laload =>
    have hln : len = 1 := hln
    subst hln
    intro H locs ls hn hph hP hS hl
    unfold stI sRI at h
    dsimp only at h
    split at h
    · rename_i i a r
      cases ha : isA n a 1 with
      | true =>
        rw [ha] at h
        exact va_lald hx hb hK hP (a - 1) 1 (wd_arr ha) rfl h.1 hdg (h.2 H locs ls hn hph hP hS hl)
      | false =>
        rw [ha] at h
        exact h.elim
    · exact h.elim
  | aaload =>
    have hln : len = 1 := hln
    subst hln
    intro H locs ls hn hph hP hS hl
    unfold stI sRI at h
    dsimp only at h
    split at h
    · rename_i t
      have ht := Nat.le_of_ble_eq_true hm
      split at h
      · rename_i i a r
        cases ha : isA n a (3 + t) with
        | false => rw [ha] at h; exact h.elim
        | true =>
          rw [ha] at h
          obtain ⟨h1, h2, h3⟩ := h
          have hw := wd_arr (ca := ca) (h0 := h0) (b := b) (I := I) (J := J) (R := R) ha
          have key : W p l e rm s m args below meth c H locs (n - n0) (sl n - sl n0) Qw (F0 m (pc + 1) ls (va_rf (if R a i.toNatClampNeg = 0 then none else some (ad h0 b (R a i.toNatClampNeg))) :: r.map (cv h0 b))) → W p l e rm s m args below meth c H locs (n - n0) (sl n - sl n0) Qw (F0 m pc ls (.int i :: .ref (ad h0 b a) :: r.map (cv h0 b))) := by
            rcases (show t = 0 ∨ t = 1 ∨ t = 2 by omega) with rfl | rfl | rfl
            · exact fun kk => va_aldq hx hb hK hP (a - 1) 3 hw rfl h1 hdg kk
            · exact fun kk => va_aldq hx hb hK hP (a - 1) 4 hw rfl h1 hdg kk
            · exact fun kk => va_aldq hx hb hK hP (a - 1) 5 hw rfl h1 hdg kk
          refine key ?_
          rw [if_neg h2]
          exact h3 H locs ls hn hph hP hS hl
      · exact h.elim
    · exact h.elim
  | iastore =>
    have hln : len = 1 := hln
    subst hln
    intro H locs ls hn hph hP hS hl
    unfold stI sRII at h
    dsimp only at h
    split at h
    · rename_i x i a r
      cases ha : isA n a 0 with
      | false => rw [ha] at h; exact h.elim
      | true =>
        rw [ha] at h
        refine va_iast hx hb hK hP (wd_D hA) hS (a - 1) 0 (wd_arr ha) rfl h.1 hdg (fun H1 locs1 hP1 _ hS1 => ?_)
        rw [wd_seta ha (I' := uI I a i.toNatClampNeg x) (J' := J) (R' := R) (by simp [arE, uI_eq]) (fun q hq => uI_ne hq) (fun _ _ => rfl) (fun _ _ => rfl)] at hP1
        exact h.2 H1 locs1 ls hn hph hP1 hS1 hl
    · exact h.elim
  | bastore =>
    have hln : len = 1 := hln
    subst hln
    intro H locs ls hn hph hP hS hl
    unfold stI sRII at h
    dsimp only at h
    split at h
    · rename_i x i a r
      cases ha : isA n a 2 with
      | false => rw [ha] at h; exact h.elim
      | true =>
        rw [ha] at h
        refine va_bast hx hb hK hP (wd_D hA) hS (a - 1) 2 (wd_arr ha) rfl h.1 hdg (fun H1 locs1 hP1 _ hS1 => ?_)
        rw [wd_seta ha (I' := uI I a i.toNatClampNeg x.toInt8.toInt32) (J' := J) (R' := R) (by simp [arE, uI_eq, vp_nar_byte]) (fun q hq => uI_ne hq) (fun _ _ => rfl) (fun _ _ => rfl)] at hP1
        exact h.2 H1 locs1 ls hn hph hP1 hS1 hl
    · exact h.elim
  | lastore =>
    have hln : len = 1 := hln
    subst hln
    intro H locs ls hn hph hP hS hl
    unfold stI sRIL at h
    dsimp only at h
    split at h
    · rename_i x i a r
      cases ha : isA n a 1 with
      | false => rw [ha] at h; exact h.elim
      | true =>
        rw [ha] at h
        refine va_last hx hb hK hP (wd_D hA) hS (a - 1) 1 (wd_arr ha) rfl h.1 hdg (fun H1 locs1 hP1 _ hS1 => ?_)
        rw [wd_seta ha (I' := I) (J' := uJ J a i.toNatClampNeg x) (R' := R) (by simp [arE, uJ_eq]) (fun _ _ => rfl) (fun q hq => uJ_ne hq) (fun _ _ => rfl)] at hP1
        exact h.2 H1 locs1 ls hn hph hP1 hS1 hl
    · exact h.elim
  | aastore =>
    have hln : len = 1 := hln
    subst hln
    intro H locs ls hn hph hP hS hl
    unfold stI sRIR at h
    dsimp only at h
    split at h
    · rename_i t ci
      have hm : (Nat.blt t 3 && (Nat.blt ci 13 && decide (elC t = clC ci))) = true := hm
      simp only [Bool.and_eq_true, decide_eq_true_eq] at hm
      have ht := Nat.le_of_ble_eq_true hm.1
      have hci := Nat.le_of_ble_eq_true hm.2.1
      split at h
      · rename_i v i a r
        cases ha : (isA n a (3 + t) && isO n v ci) with
        | false => rw [ha] at h; exact h.elim
        | true =>
          rw [ha] at h
          rw [Bool.and_eq_true] at ha
          obtain ⟨h1, h2⟩ := h
          have hw := wd_arr (ca := ca) (h0 := h0) (b := b) (I := I) (J := J) (R := R) ha.1
          have hv := wd_obj (ca := ca) (h0 := h0) (b := b) (I := I) (J := J) (R := R) ha.2 hci
          have hv0 : ¬ v = 0 := Nat.ne_of_gt (isO_spec ha.2).1
          have key : ∀ (H1 : Heap) (locs1 : List Loc), va_P D ncl ((wd ca h0 b n I J R).set (a - 1) (ad h0 b a, .inl (ca (3 + t), aL a, .inr (.inr (.inr (.inr (va_up (fun j => if R a j = 0 then none else some (ad h0 b (R a j))) i.toNatClampNeg (some (ad h0 b v))))))))) H1 → va_S A s.heap H1 locs1 → W p l e rm s m args below meth c H1 locs1 (n - n0) (sl n - sl n0) Qw (F0 m (pc + 1) ls (r.map (cv h0 b))) := by
            intro H1 locs1 hP1 hS1
            rw [wd_seta ha.1 (I' := I) (J' := J) (R' := uR R a i.toNatClampNeg v) ?_ (fun _ _ => rfl) (fun _ _ => rfl) (fun q hq => uR_ne hq)] at hP1
            · exact h2 H1 locs1 ls hn (fun q => ⟨Fl_up (hph q).1 hv0, (hph q).2⟩) hP1 hS1 hl
            · have hfn : (fun j => if uR R a i.toNatClampNeg v a j = 0 then none else some (ad h0 b (uR R a i.toNatClampNeg v a j))) = va_up (fun j => if R a j = 0 then none else some (ad h0 b (R a j))) i.toNatClampNeg (some (ad h0 b v)) := by
                funext j
                rw [uR_eq]
                by_cases hj : j = i.toNatClampNeg
                · subst hj; rw [va_up_self, va_up_self, if_neg hv0]
                · rw [va_up_ne _ _ hj, va_up_ne _ _ hj]
              rcases (show t = 0 ∨ t = 1 ∨ t = 2 by omega) with rfl | rfl | rfl <;> (show Sum.inr (Sum.inr (Sum.inr (Sum.inr _))) = _; rw [← hfn])
          rcases (show t = 0 ∨ t = 1 ∨ t = 2 by omega) with rfl | rfl | rfl
          · exact va_astq hx hb hK hP (wd_D hA) hS (a - 1) 3 (v - 1) ci hw (by rw [show (ntys ca)[3]? = some (ca 3, .object (elC 0)) from rfl, hm.2.2]) hv (ncl_get ci hci) h1 hdg (fun H1 locs1 a1 _ a3 => key H1 locs1 a1 a3)
          · exact va_astq hx hb hK hP (wd_D hA) hS (a - 1) 4 (v - 1) ci hw (by rw [show (ntys ca)[4]? = some (ca 4, .object (elC 1)) from rfl, hm.2.2]) hv (ncl_get ci hci) h1 hdg (fun H1 locs1 a1 _ a3 => key H1 locs1 a1 a3)
          · exact va_astq hx hb hK hP (wd_D hA) hS (a - 1) 5 (v - 1) ci hw (by rw [show (ntys ca)[5]? = some (ca 5, .object (elC 2)) from rfl, hm.2.2]) hv (ncl_get ci hci) h1 hdg (fun H1 locs1 a1 _ a3 => key H1 locs1 a1 a3)
      · exact h.elim
    · exact h.elim
  | arraylength =>
    have hln : len = 1 := hln
    subst hln
    intro H locs ls hn hph hP hS hl
    unfold stI sR at h
    dsimp only at h
    split at h
    · rename_i a r
      cases ha : isA n a 0 with
      | true =>
        rw [ha] at h
        exact va_alen hx hb hK hP (a - 1) 0 (wd_arr ha) (ty := .int) rfl rfl hdg (h H locs ls hn hph hP hS hl)
      | false =>
        rw [ha] at h
        cases ha1 : isA n a 1 with
        | true =>
          rw [ha1] at h
          exact va_alen hx hb hK hP (a - 1) 1 (wd_arr ha1) (ty := .long) rfl rfl hdg (h H locs ls hn hph hP hS hl)
        | false =>
          rw [ha1] at h
          cases hi : (isl && Nat.beq a 0) with
          | false => rw [hi] at h; exact h.elim
          | true =>
            rw [hi] at h
            rw [Bool.and_eq_true] at hi
            have ha0 := Nat.eq_of_beq_eq_true hi.2
            subst ha0
            obtain ⟨q1, q2, q3⟩ := hisl hi.1
            exact va_slen hx hb q1 q2 q3 hS hdg (h H locs ls hn hph hP hS hl)
    · exact h.elim
  | new j =>
    have hln : len = 3 := hln
    subst hln
    unfold stI at h
    dsimp only at h
    split at h
    · rename_i ci
      cases ho : (isO (n + 1) (n + 1) ci && (Nat.ble (n + 1) nend && !ph)) with
      | false => rw [ho] at h; exact h.elim
      | true =>
        rw [ho] at h
        simp only [Bool.and_eq_true] at ho
        exact new_ok C0 hdg (fun w hw => hW w (by simpa [needE] using hw)) (Nat.le_of_ble_eq_true hm) ho.1 (Nat.le_of_ble_eq_true ho.2.1) (by simpa using ho.2.2) h
    · exact h.elim
  | newarray az =>
    have hln : len = 2 := hln
    subst hln
    unfold stI sI at h
    dsimp only at h
    split at h
    · rename_i t
      have hm : (decide (newarray.typeOf az = aty t) && Nat.blt t 3) = true := hm
      rw [Bool.and_eq_true] at hm
      split at h
      · rename_i x r
        cases ho : (isA (n + 1) (n + 1) t && (Nat.ble (n + 1) nend && !ph)) with
        | false => rw [ho] at h; exact h.elim
        | true =>
          rw [ho] at h
          simp only [Bool.and_eq_true] at ho
          exact newa_ok C0 hdg (hW _ (by simp [needE])) (of_decide_eq_true hm.1) (Nat.le_of_ble_eq_true hm.2) ho.1 (Nat.le_of_ble_eq_true ho.2.1) (by simpa using ho.2.2) h.1 h.2
      · exact h.elim
    · exact h.elim
  | anewarray j =>
    have hln : len = 3 := hln
    subst hln
    unfold stI sI at h
    dsimp only at h
    split at h
    · rename_i t
      split at h
      · rename_i x r
        cases ho : (isA (n + 1) (n + 1) (3 + t) && (Nat.ble (n + 1) nend && !ph)) with
        | false => rw [ho] at h; exact h.elim
        | true =>
          rw [ho] at h
          simp only [Bool.and_eq_true] at ho
          exact newq_ok C0 hdg (hW _ (by simp [needE])) (Nat.le_of_ble_eq_true hm) ho.1 (Nat.le_of_ble_eq_true ho.2.1) (by simpa using ho.2.2) h.1 h.2
      · exact h.elim
    · exact h.elim
  | invokevirtual j =>
    have hln : len = 3 := hln
    subst hln
    unfold stI at h
    dsimp only at h
    split at h
    · rename_i kind mi na rk2 al ci ph1 kr
      dsimp only at hm
      simp only [Bool.and_eq_true, decide_eq_true_eq] at hm
      cases hk : Nat.beq kind 0 with
      | false => rw [hk] at h; exact h.elim
      | true =>
        rw [hk] at h
        have hmi := Nat.le_of_ble_eq_true hm.2.1
        exact call_ok C0 IH hd hdg (fun w hw => hW w (by simpa [needE] using hw)) hm.1 hmi (hrk mi hmi) (Or.inl ⟨⟨j, rfl⟩, Nat.eq_of_beq_eq_true hk, hm.2.2.1, Nat.eq_of_beq_eq_true hm.2.2.2.1, Nat.le_of_ble_eq_true hm.2.2.2.2⟩) h
    · exact h.elim
  | invokestatic j =>
    have hln : len = 3 := hln
    subst hln
    unfold stI at h
    dsimp only at h
    split at h
    · rename_i kind mi na rk2 al ci ph1 kr
      dsimp only at hm
      simp only [Bool.and_eq_true] at hm
      cases hk : (Nat.beq kind 1 || Nat.beq kind 11) with
      | false => rw [hk] at h; exact h.elim
      | true =>
        rw [hk] at h
        have hmi := Nat.le_of_ble_eq_true hm.2.1
        have hk2 : kind = 1 ∨ kind = 11 := by
          rw [Bool.or_eq_true] at hk
          exact hk.imp Nat.eq_of_beq_eq_true Nat.eq_of_beq_eq_true
        refine call_ok C0 IH hd hdg (fun w hw => hW w (by simpa [needE] using hw)) hm.1 hmi (hrk mi hmi) (Or.inr (Or.inl ⟨⟨j, rfl, fun q => ?_⟩, hk2, Nat.eq_of_beq_eq_true hm.2.2.1⟩)) h
        have h4 := hm.2.2.2
        subst q
        obtain ⟨⟨q1, q2, q3⟩, hq, hq2⟩ := List.any_eq_true.mp h4
        obtain ⟨r1, r2, r3⟩ := of_decide_eq_true hq2
        cases r2
        dsimp only at r1 r3
        rw [← r1, ← r3]
        exact hq
    · rename_i kind z
      split at h
      · intro H locs ls hn hph hP hS hl
        unfold sCpy at h
        split at h
        · rename_i m1 dp a1 sp a0 r
          cases ho : (Nat.ble (cSum r) 8 && (isA n a0 0 && isA n a1 0)) with
          | false => rw [ho] at h; exact h.elim
          | true =>
            rw [ho] at h
            simp only [Bool.and_eq_true] at ho
            obtain ⟨⟨g1, g2, g3, g4, g5⟩, h⟩ := h
            have hcs : ((r.map (cv h0 b)).map fun v => v.category).sum + (nativeFrameWords "java/lang/System" "arraycopy" 5 + 11) ≤ rm.locals := by
              rw [cSum_cv]
              have h1 := Nat.le_of_ble_eq_true ho.1
              have h2 : nativeFrameWords "java/lang/System" "arraycopy" 5 ≤ 40 := by decide
              omega
            refine va_copyi hx hb (by rw [hml]; exact hl.1.symm) hown (hwt _ (by simp [needE])) (hwt _ (by simp [needE])) (hwt _ (by simp [needE])) (hwt _ (by simp [needE])) hK hP (wd_D hA) hS (a0 - 1) (a1 - 1) 0 0 (wd_arr ho.2.1) (wd_arr ho.2.2) (ty := .int) rfl rfl rfl g1 g2 g3 g4 g5 (fun _ _ => rfl) hfr.1 hcs hdg (fun H1 locs1 hP1 _ hS1 => ?_)
            rw [wd_seta ho.2.2 (I' := cI I a0 a1 sp.toNatClampNeg dp.toNatClampNeg m1.toNatClampNeg) (J' := J) (R' := R) (by simp [arE, cI]) (fun q hq => if_neg hq) (fun _ _ => rfl) (fun _ _ => rfl)] at hP1
            exact h H1 locs1 ls hn hph hP1 hS1 hl
        · exact h.elim
      · intro H locs ls hn hph hP hS hl
        unfold sCpy at h
        split at h
        · rename_i m1 dp a1 sp a0 r
          cases ho : (Nat.ble (cSum r) 8 && (isA n a0 1 && isA n a1 1)) with
          | false => rw [ho] at h; exact h.elim
          | true =>
            rw [ho] at h
            simp only [Bool.and_eq_true] at ho
            obtain ⟨⟨g1, g2, g3, g4, g5⟩, h⟩ := h
            have hcs : ((r.map (cv h0 b)).map fun v => v.category).sum + (nativeFrameWords "java/lang/System" "arraycopy" 5 + 11) ≤ rm.locals := by
              rw [cSum_cv]
              have h1 := Nat.le_of_ble_eq_true ho.1
              have h2 : nativeFrameWords "java/lang/System" "arraycopy" 5 ≤ 40 := by decide
              omega
            refine va_copyl hx hb (by rw [hml]; exact hl.1.symm) hown (hwt _ (by simp [needE])) (hwt _ (by simp [needE])) (hwt _ (by simp [needE])) (hwt _ (by simp [needE])) hK hP (wd_D hA) hS (a0 - 1) (a1 - 1) 1 1 (wd_arr ho.2.1) (wd_arr ho.2.2) (ty := .long) rfl rfl rfl g1 g2 g3 g4 g5 (fun _ _ => rfl) hfr.1 hcs hdg (fun H1 locs1 hP1 _ hS1 => ?_)
            rw [wd_seta ho.2.2 (I' := I) (J' := cJ J a0 a1 sp.toNatClampNeg dp.toNatClampNeg m1.toNatClampNeg) (R' := R) (by simp [arE, cJ]) (fun _ _ => rfl) (fun q hq => if_neg hq) (fun _ _ => rfl)] at hP1
            exact h H1 locs1 ls hn hph hP1 hS1 hl
        · exact h.elim
      · intro H locs ls hn hph hP hS hl
        unfold sII at h
        split at h
        · rename_i y x r
          cases ho : (Nat.ble (cSum r) 8 && Nat.ble n nend) with
          | false => rw [ho] at h; exact h.elim
          | true =>
            rw [ho] at h
            rw [Bool.and_eq_true] at ho
            have hcs : ((r.map (cv h0 b)).map fun v => v.category).sum + 13 ≤ rm.locals := by
              rw [cSum_cv]
              have h1 := Nat.le_of_ble_eq_true ho.1
              omega
            have g1 : sl n - sl n0 ≤ rm.slots ∧ n - n0 ≤ rm.cells := by
              have h1 := Nat.le_of_ble_eq_true ho.2
              have h2 := sl_le h1
              omega
            exact va_mmax hx hb (by rw [hml]; exact hl.1.symm) hown (hwt _ (by simp [needE])) (hwt _ (by simp [needE])) (hwt _ (by simp [needE])) (hts _ (hG _ cw_max)) hfr.1 hcs g1.2 g1.1 hdg (h H locs ls hn hph hP hS hl)
        · exact h.elim
      · intro H locs ls hn hph hP hS hl
        unfold sII at h
        split at h
        · rename_i y x r
          cases ho : (Nat.ble (cSum r) 8 && Nat.ble n nend) with
          | false => rw [ho] at h; exact h.elim
          | true =>
            rw [ho] at h
            rw [Bool.and_eq_true] at ho
            have hcs : ((r.map (cv h0 b)).map fun v => v.category).sum + 13 ≤ rm.locals := by
              rw [cSum_cv]
              have h1 := Nat.le_of_ble_eq_true ho.1
              omega
            have g1 : sl n - sl n0 ≤ rm.slots ∧ n - n0 ≤ rm.cells := by
              have h1 := Nat.le_of_ble_eq_true ho.2
              have h2 := sl_le h1
              omega
            exact va_mmin hx hb (by rw [hml]; exact hl.1.symm) hown (hwt _ (by simp [needE])) (hwt _ (by simp [needE])) (hwt _ (by simp [needE])) (hts _ (hG _ cw_min)) hfr.1 hcs g1.2 g1.1 hdg (h H locs ls hn hph hP hS hl)
        · exact h.elim
      · intro H locs ls hn hph hP hS hl
        unfold sL at h
        split at h
        · rename_i x r
          cases ho : (Nat.ble (cSum r) 8 && Nat.ble n nend) with
          | false => rw [ho] at h; exact h.elim
          | true =>
            rw [ho] at h
            rw [Bool.and_eq_true] at ho
            have hcs : ((r.map (cv h0 b)).map fun v => v.category).sum + 13 ≤ rm.locals := by
              rw [cSum_cv]
              have h1 := Nat.le_of_ble_eq_true ho.1
              omega
            have g1 : sl n - sl n0 ≤ rm.slots ∧ n - n0 ≤ rm.cells := by
              have h1 := Nat.le_of_ble_eq_true ho.2
              have h2 := sl_le h1
              omega
            exact va_mabs_long hx hb (by rw [hml]; exact hl.1.symm) hown (hwt _ (by simp [needE])) (hwt _ (by simp [needE])) (hwt _ (by simp [needE])) (hts _ (hG _ cw_abs)) hfr.1 hcs g1.2 g1.1 hdg (h H locs ls hn hph hP hS hl)
        · exact h.elim
      · exact h.elim
    · exact h.elim
  | invokespecial j =>
    have hln : len = 3 := hln
    subst hln
    unfold stI at h
    dsimp only at h
    split at h
    · rename_i kind mi na rk2 al ci ph1 kr
      dsimp only at hm
      simp only [Bool.and_eq_true, decide_eq_true_eq] at hm
      cases hk : ((Nat.beq kind 2 || Nat.beq kind 12) && Nat.beq rk2 0) with
      | false => rw [hk] at h; exact h.elim
      | true =>
        rw [hk] at h
        have hmi := Nat.le_of_ble_eq_true hm.2.1
        have hk2 : kind = 2 ∨ kind = 12 := by
          rw [Bool.and_eq_true, Bool.or_eq_true] at hk
          exact hk.1.imp Nat.eq_of_beq_eq_true Nat.eq_of_beq_eq_true
        refine call_ok C0 IH hd hdg (fun w hw => hW w (by simpa [needE] using hw)) hm.1 hmi (hrk mi hmi) (Or.inr (Or.inr ⟨⟨j, rfl, fun q => ?_⟩, hk2, Nat.eq_of_beq_eq_true hm.2.2.1, hm.2.2.2.1.1, hm.2.2.2.1.2⟩)) h
        have h4 := hm.2.2.2.2
        subst q
        obtain ⟨⟨q1, q2, q3⟩, hq, hq2⟩ := List.any_eq_true.mp h4
        obtain ⟨r1, r2, r3⟩ := of_decide_eq_true hq2
        cases r2
        dsimp only at r1 r3
        rw [← r1, ← r3]
        exact hq
    · unfold sR at h
      intro H locs ls hn hph hP hS hl
      split at h
      · rename_i a r
        cases ho : Nat.ble (cSum r) 8 with
        | false => rw [ho] at h; exact h.elim
        | true =>
          rw [ho] at h
          have hcs : 2 * (F0 m pc ls (Value.ref (ad h0 b a) :: r.map (cv h0 b))).monitorRoom + ((r.map (cv h0 b)).map fun v => v.category).sum + 12 ≤ rm.locals := by
            rw [cSum_cv]
            have h1 := Nat.le_of_ble_eq_true ho
            show 2 * 0 + _ + 12 ≤ _
            omega
          exact W.objInit hx hb hown (hwt _ (by simp [needE])) (hwt _ (by simp [needE])) (hts _ (hG _ cw_obj)) rfl (by rw [hml]; exact hl.1) rfl hdg hfr.1 hcs (W.eq (g2 := F0 m (pc + 3) ls (r.map (cv h0 b))) rfl (h H locs ls hn hph hP hS hl))
      · exact h.elim
    · exact h.elim
  | return_ =>
    have hln : len = 1 := hln
    subst hln
    intro H locs ls hn hph hP hS hl
    unfold stI at h
    dsimp only at h
    cases hk : Nat.beq rk 0 with
    | false => rw [hk] at h; exact h.elim
    | true =>
      rw [hk] at h
      dsimp only [cond_true] at h
      split at h
      · exact (hR pc n I J R H locs ls hn hP hS).1 (Nat.eq_of_beq_eq_true hk) hdg h
      · exact h.elim
  | ireturn =>
    have hln : len = 1 := hln
    subst hln
    intro H locs ls hn hph hP hS hl
    unfold stI at h
    dsimp only at h
    cases hk : Nat.beq rk 1 with
    | true =>
      rw [hk] at h
      dsimp only [cond_true] at h
      have hk1 := Nat.eq_of_beq_eq_true hk
      split at h
      · rename_i x
        exact (hR pc n I J R H locs ls hn hP hS).2.1 (Or.inl hk1) x (fun q => by omega) hdg h
      · exact h.elim
    | false =>
      rw [hk] at h
      dsimp only [cond_false] at h
      cases hk2 : Nat.beq rk 2 with
      | false => rw [hk2] at h; exact h.elim
      | true =>
        rw [hk2] at h
        dsimp only [cond_true] at h
        split at h
        · rename_i x
          exact (hR pc n I J R H locs ls hn hP hS).2.1 (Or.inr (Nat.eq_of_beq_eq_true hk2)) x (fun _ => h.1) hdg h.2
        · exact h.elim
  | lreturn =>
    have hln : len = 1 := hln
    subst hln
    intro H locs ls hn hph hP hS hl
    unfold stI at h
    dsimp only at h
    cases hk : Nat.beq rk 3 with
    | false => rw [hk] at h; exact h.elim
    | true =>
      rw [hk] at h
      dsimp only [cond_true] at h
      split at h
      · rename_i x
        exact (hR pc n I J R H locs ls hn hP hS).2.2 (Nat.eq_of_beq_eq_true hk) x hdg h
      · exact h.elim
  | _ => exact h.elim
end SND4
