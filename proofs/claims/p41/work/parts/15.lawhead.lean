section PT2x0
/-! THE CLAIM OUT OF ONE WALK OF THE LAW'S BODY. Your part is whole_start (and what it stands on); all else here is the same for every law, but numbers. -/
noncomputable def R_law : String := "BreadScribesLaw"
noncomputable def lw_P (b : Addr) (xs : List Int32) (args : Array Value) (s : State) : Prop := args = #[.ref b] ∧ s.IntsAt b xs ∧ xs.length ≤ 3584 ∧ (Jvm.Cond.and given_1 narrow_1).before args s = true
noncomputable def lw_Q (_ : Array Value) (s : State) (o : Outcome) (t : State) : Prop := o = .returned (some (.int 1)) ∧ Framed s o t [] 600000 7302250
noncomputable def lw_Z (below : List Frame) (a : Array Value) (s : State) : State → Prop := fun t => ∃ o, t.status = .running ∧ Ended t below o ∧ lw_Q a s o t
/-- the law's own end, with 1 on the stack, nothing written that was there before, its room as the claim has it -/
theorem lw_ret {p : Program} {l : Launch} {e : Env} {s : State} {m : MethodId} {below : List Frame} {meth : Method} {c : Code} {b : Nat} (hx : p.tables.exec = Jvm.exec) (hb : c.code = code) (hr : meth.sig.returnType = ret) (hlocks : meth.locks = false) {pc : Nat} {H : Heap} {ls : Array Slot} (hdg : decode code pc = .ok (.ireturn, 1)) : W p l e room_1 s m #[Value.ref b] below meth c H [] 600000 7302250 (lw_Z below #[Value.ref b] s) (F0 m pc ls [.int 1]) := by
  intro T hT X
  obtain ⟨fs, hret, hrun, hended, hW, hframe⟩ := X.leave (v := some (.int 1)) (hlocks := hlocks) (fun h => by rw [hr] at h; cases h)
  have hmeth' : T.vm.method? m = some meth := X.method'
  refine ⟨T.setFrames fs, ?_, .returned (some (.int 1)), hrun, hended, rfl, ⟨_, rfl⟩, hW, hframe⟩
  jvm_step X.here [X.here.top, hx, hb, hdg, hmeth', hr, ret, narrow_b1]
  (try refine ⟨rfl, ?_⟩); (try refine ⟨rfl, ?_⟩)
  first | (intro acts; rw [hret _ acts rfl rfl rfl]) | rw [hret _ _ rfl rfl rfl]
  exact Steps.refl _
/-- what holds at the law's entry: the machine, the code, the tables' words (any of lw_tbl by 'hts w (by decide +kernel)'), the script of L ints xs at the cell b, what the Statement gives of the start (any of its parts by flat_of_before) -/
noncomputable def lw_At (p : Program) (s : State) (m : MethodId) (meth : Method) (c : Code) (b L : Nat) (xs : Nat → Int32) : Prop :=
  p.tables.exec = Jvm.exec ∧ c.code = code ∧ meth.sig.returnType = ret ∧ c.maxLocals = 4 ∧ s.vm.findClass R_law = some m.cls ∧ (∀ w ∈ lw_tbl, w.before #[Value.ref b] s = true) ∧ va_X b L xs s s.heap ∧ b < s.heap.size ∧ meth.locks = false ∧ (Jvm.Cond.and given_1 narrow_1).before #[Value.ref b] s = true
end PT2x0
section PT2x1
/-! ===== the law's start: all that is left is a walk of the small machine ===== -/
theorem arr_prim {args : Array Value} {s : State} {ty : FieldType} (h : (Cond.arrayClass ty).before args s = true) (hr : ∀ C, ty ≠ .object C) : ∃ cA : ClassId, ArrOfT s cA ty ∧ va_RA s cA ty := by
  obtain ⟨cA, kA, comp, h1, h2, h3⟩ := Cond.arrayClass_spec h
  refine ⟨cA, fun N z => ⟨fun k h => (by cases h), kA, h2, comp, h3⟩, ?_⟩
  cases ty with
  | object C => exact absurd rfl (hr C)
  | _ => exact h1
theorem arr_obj {args : Array Value} {s : State} {C : String} (h : (Cond.arrayOver (.object C)).before args s = true) : ∃ cA : ClassId, ArrOfT s cA (.object C) ∧ va_RA s cA (.object C) := by
  obtain ⟨comp, cA, kA, h1, h2, h3, h4, h5⟩ := Cond.arrayOver_spec h
  exact ⟨cA, fun N z => ⟨fun k h => (by cases h), kA, h3, comp, h4⟩, kA, comp, h3, h4, h1, h5⟩
theorem ncl_at {k : Nat} {q : vw_C} (h : ncl[k]? = some q) : k < 13 ∧ q = (clC k, clT k, clN k) := by
  have hk : k < 13 := (List.getElem?_eq_some_iff.mp h).1
  rw [ncl_get k hk] at h
  exact ⟨hk, (Option.some.inj h).symm⟩
end PT2x1
section PT2x2
/-! ===== what keeps the cells and the references ===== -/
noncomputable def keepsE (i : Jvm.ClassFile.Instr) (ax : List Nat) : Bool := match i with
  | .new _ => false
  | .newarray _ => false
  | .anewarray _ => false
  | .aastore => false
  | .putfield _ => match ax with
    | [_, _, kd, _] => Nat.blt kd 3
    | _ => true
  | .invokevirtual _ => match ax with
    | [_, _, _, _, al, _, _, kr] => Nat.beq al 0 && Nat.beq kr 1
    | _ => true
  | .invokestatic _ => match ax with
    | [_, _, _, _, al, _, _, kr] => Nat.beq al 0 && Nat.beq kr 1
    | _ => true
  | .invokespecial _ => match ax with
    | [_, _, _, _, al, _, _, kr] => Nat.beq al 0 && Nat.beq kr 1
    | _ => true
  | _ => true
theorem cal_k {M : Mc} (hM : Mono M) {ph : Bool} {nend n : Nat} {R : Rm} {K K' : Kt} (hK : ∀ pc lv st I J, K pc n lv st I J R → K' pc n lv st I J R) {pc : Nat} {lv : Lv} {st : List Value} {I : Im} {J : Jm} {kind mi na rk al ci ph1 kr : Nat} (hk : (Nat.beq al 0 && Nat.beq kr 1) = true) (h : cal M ph nend K pc n lv st I J R kind mi na rk al ci ph1 kr) : cal M ph nend K' pc n lv st I J R kind mi na rk al ci ph1 kr := by
  rw [Bool.and_eq_true] at hk
  have h1 := Nat.eq_of_beq_eq_true hk.1
  have h2 := Nat.eq_of_beq_eq_true hk.2
  subst h1
  subst h2
  exact cond_m (cond_m (and_m (hM _ _ _ _ _ _ _ _ (fun x y I J R' => bf_m (hK _ _ _ _ _)))) (hM _ _ _ _ _ _ _ _ (fun x y I J R' => bf_m (hK _ _ _ _ _)))) id h
theorem fpt_k {n : Nat} {ph : Bool} {ci k kd of : Nat} {st : List Value} {I : Im} {J : Jm} {R : Rm} {K K' : List Value → Im → Jm → Rm → Prop} (hk : Nat.blt kd 3 = true) (hK : ∀ r I J, K r I J R → K' r I J R) (h : fpt n ph ci k kd of st I J R K) : fpt n ph ci k kd of st I J R K' := by
  rcases kd with _ | _ | _ | kd
  · exact sRI_m (fun o x r => cond_m (hK _ _ _) id) h
  · exact sRI_m (fun o x r => cond_m (and_m (hK _ _ _)) id) h
  · exact sRL_m (fun o x r => cond_m (hK _ _ _) id) h
  · exact absurd (Nat.le_of_ble_eq_true hk) (by omega)
set_option maxHeartbeats 4000000 in
theorem stI_k {M : Mc} (hM : Mono M) {ph isl : Bool} {L : Nat} {xs : Nat → Int32} {rk nend n : Nat} {R : Rm} {Q Q' : Nat → Qt} (hQ : ∀ x y I J, Q n x y I J R → Q' n x y I J R) {K K' : Kt} (hK : ∀ pc lv st I J, K pc n lv st I J R → K' pc n lv st I J R) {pc : Nat} {ax : List Nat} {ks : List Int32} {lz : Int64} {lv : Lv} {st : List Value} {I : Im} {J : Jm} (i : Jvm.ClassFile.Instr) (hk : keepsE i ax = true) (h : stI M ph isl L xs rk nend Q K pc ax ks lz n lv st I J R i) : stI M ph isl L xs rk nend Q' K' pc ax ks lz n lv st I J R i := by
  have k0 : ∀ {pc lv st I J}, K pc n lv st I J R → K' pc n lv st I J R := fun h => hK _ _ _ _ _ h
  cases i with
  | iconst _ =>
    exact k0 h
  | bipush _ =>
    exact k0 h
  | sipush _ =>
    exact k0 h
  | ldc _ =>
    exact k0 h
  | ldc_w _ =>
    exact k0 h
  | ldc2_w _ =>
    exact k0 h
  | lconst _ =>
    exact k0 h
  | goto _ =>
    exact k0 h
  | iload_n _ =>
    exact lI_m (fun x => k0) h
  | iload _ =>
    exact lI_m (fun x => k0) h
  | lload_n _ =>
    exact lL_m (fun x => k0) h
  | lload _ =>
    exact lL_m (fun x => k0) h
  | aload_n _ =>
    exact lR_m (fun x => k0) h
  | aload _ =>
    exact lR_m (fun x => k0) h
  | istore_n _ =>
    exact sI_m (fun x r => k0) h
  | istore _ =>
    exact sI_m (fun x r => k0) h
  | lstore_n _ =>
    exact sL_m (fun x r => k0) h
  | lstore _ =>
    exact sL_m (fun x r => k0) h
  | astore_n _ =>
    exact sR_m (fun x r => k0) h
  | astore _ =>
    exact sR_m (fun x r => k0) h
  | iinc _ _ =>
    exact lI_m (fun x => k0) h
  | iadd =>
    exact sII_m (fun x y r => k0) h
  | isub =>
    exact sII_m (fun x y r => k0) h
  | imul =>
    exact sII_m (fun x y r => k0) h
  | iand =>
    exact sII_m (fun x y r => k0) h
  | ior =>
    exact sII_m (fun x y r => k0) h
  | ixor =>
    exact sII_m (fun x y r => k0) h
  | ishl =>
    exact sII_m (fun x y r => k0) h
  | ishr =>
    exact sII_m (fun x y r => k0) h
  | iushr =>
    exact sII_m (fun x y r => k0) h
  | idiv =>
    exact sII_m (fun x y r => and_m k0) h
  | irem =>
    exact sII_m (fun x y r => and_m k0) h
  | ladd =>
    exact sLL_m (fun x y r => k0) h
  | lsub =>
    exact sLL_m (fun x y r => k0) h
  | lmul =>
    exact sLL_m (fun x y r => k0) h
  | land =>
    exact sLL_m (fun x y r => k0) h
  | lor =>
    exact sLL_m (fun x y r => k0) h
  | lcmp =>
    exact sLL_m (fun x y r => k0) h
  | ldiv =>
    exact sLL_m (fun x y r => and_m k0) h
  | lrem =>
    exact sLL_m (fun x y r => and_m k0) h
  | lneg =>
    exact sL_m (fun x r => k0) h
  | l2i =>
    exact sL_m (fun x r => k0) h
  | pop2 =>
    exact sL_m (fun x r => k0) h
  | lshl =>
    exact sLI_m (fun x y r => k0) h
  | i2l =>
    exact sI_m (fun x r => k0) h
  | i2b =>
    exact sI_m (fun x r => k0) h
  | i2s =>
    exact sI_m (fun x r => k0) h
  | dup =>
    unfold stI at h ⊢
    dsimp only at h ⊢
    split at h
    · exact k0 h
    · exact k0 h
    · exact h.elim
  | pop =>
    unfold stI at h ⊢
    dsimp only at h ⊢
    split at h
    · exact k0 h
    · exact k0 h
    · exact h.elim
  | dup2 =>
    unfold stI at h ⊢
    dsimp only at h ⊢
    split at h
    · exact k0 h
    · exact h.elim
  | ifCond _ _ =>
    exact sI_m (fun x r => icz_m k0 k0) h
  | if_icmp _ _ =>
    exact sII_m (fun x y r => icc_m k0 k0) h
  | tableswitch _ _ _ _ =>
    exact sI_m (fun x r => swT_m (fun t => k0) k0 _ _ _) h
  | lookupswitch _ _ =>
    exact sI_m (fun x r => swT_m (fun t => k0) k0 _ _ _) h
  | getfield _ =>
    unfold stI at h ⊢
    dsimp only at h ⊢
    split at h
    · exact fgt_m (fun r => k0) h
    · exact h.elim
  | putfield _ =>
    unfold stI at h ⊢
    dsimp only at h ⊢
    split at h
    · exact fpt_k hk (fun r I J => k0) h
    · exact h.elim
  | iaload =>
    exact sRI_m (fun a x r => cond_m (and_m k0) (cond_m (and_m k0) id)) h
  | baload =>
    exact sRI_m (fun a x r => cond_m (and_m k0) id) h
  | laload =>
    exact sRI_m (fun a x r => cond_m (and_m k0) id) h
  | aaload =>
    unfold stI at h ⊢
    dsimp only at h ⊢
    split at h
    · exact sRI_m (fun a x r => cond_m (and_m (and_m k0)) id) h
    · exact h.elim
  | iastore =>
    exact sRII_m (fun a i x r => cond_m (and_m k0) id) h
  | bastore =>
    exact sRII_m (fun a i x r => cond_m (and_m k0) id) h
  | lastore =>
    exact sRIL_m (fun a i x r => cond_m (and_m k0) id) h
  | aastore =>
    cases hk
  | arraylength =>
    exact sR_m (fun a r => cond_m k0 (cond_m k0 (cond_m k0 id))) h
  | new _ =>
    cases hk
  | newarray _ =>
    cases hk
  | anewarray _ =>
    cases hk
  | invokevirtual _ =>
    unfold stI at h ⊢
    dsimp only at h ⊢
    split at h
    · exact cond_m (cal_k hM hK hk) id h
    · exact h.elim
  | invokespecial _ =>
    unfold stI at h ⊢
    dsimp only at h ⊢
    split at h
    · exact cond_m (cal_k hM hK hk) id h
    · exact sR_m (fun a r => cond_m k0 id) h
    · exact h.elim
  | invokestatic _ =>
    unfold stI at h ⊢
    dsimp only at h ⊢
    split at h
    · exact cond_m (cal_k hM hK hk) id h
    · try dsimp only at h ⊢
      split at h
      · exact sCpy_m (fun a sp a1 dp n r => cond_m (and_m k0) id) h
      · exact sCpy_m (fun a sp a1 dp n r => cond_m (and_m k0) id) h
      · exact sII_m (fun x y r => cond_m k0 id) h
      · exact sII_m (fun x y r => cond_m k0 id) h
      · exact sL_m (fun x r => cond_m k0 id) h
      · exact h.elim
    · exact h.elim
  | return_ =>
    refine cond_m (fun h => ?_) id h
    try dsimp only at h ⊢
    split at h
    · exact hQ _ _ _ _ h
    · exact h.elim
  | lreturn =>
    refine cond_m (fun h => ?_) id h
    try dsimp only at h ⊢
    split at h
    · exact hQ _ _ _ _ h
    · exact h.elim
  | ireturn =>
    refine cond_m (fun h => ?_) (cond_m (fun h => ?_) id) h
    · try dsimp only at h ⊢
      split at h
      · exact hQ _ _ _ _ h
      · exact h.elim
    · try dsimp only at h ⊢
      split at h
      · exact ⟨h.1, hQ _ _ _ _ h.2⟩
      · exact h.elim
  | _ => exact h.elim
theorem AW_k {M : Mc} (hM : Mono M) {ph isl : Bool} {L : Nat} {xs : Nat → Int32} {rk nend : Nat} {code : List En} (hk : ∀ e ∈ code, keepsE e.2.1 e.2.2.2.1 = true) {Q : Nat → Qt} {pc n : Nat} {lv : Lv} {st : List Value} {I : Im} {J : Jm} {R : Rm} (h : AW M ph isl L xs rk nend code Q pc n lv st I J R) : AW M ph isl L xs rk nend code (fun n' x y I' J' R' => n' = n ∧ R' = R ∧ Q n' x y I' J' R') pc n lv st I J R := by
  intro P hP
  refine h (fun pc n' lv st I J R' => n' = n → R' = R → P pc n' lv st I J R') ⟨fun e he n' lv st I J R' hs h1 h2 => ?_, fun pc n' ks lv st I J R' q h1 h2 => hP.2 _ _ _ _ _ _ _ _ (q h1 h2)⟩ rfl rfl
  subst h1
  subst h2
  exact hP.1 e he _ lv st I J _ (stI_k hM (fun x y I J q => ⟨rfl, rfl, q⟩) (fun pc lv st I J q => q rfl rfl) e.2.1 (hk e he) hs)
/-- a late method that keeps the references: its call is a walk of its code -/
theorem am_of {d mi rk : Nat} {as : List Value} {I : Im} {J : Jm} {R : Rm} {Q : Qt} {k : List En} (h1 : Nat.beq mi mReader = false) (hc : (mQ mi).1 = k) (hrk : qRk (mQ mi) = rk) (hal : qAl (mQ mi) = 0) (hph : qPh (mQ mi) = 1) (hlen : (lg_sl as).length ≤ qL (mQ mi)) (hk : k.all (fun e => keepsE e.2.1 e.2.2.2.1) = true) (h : ∀ P : Kt, Cl (AM d) true false 0 (fun _ => 0) rk 112 k (fun _ => Q) P → P 0 112 (lv_args 0 as) [] I J R) : AM (d + 1) mi 112 as I J R Q := by
  unfold AM
  rw [h1]
  refine ⟨hlen, ?_⟩
  rw [hc, hrk, hal, hph]
  refine AW_m (AM_m d) ?_ (AW_k (AM_m d) (List.all_eq_true.mp hk) (Q := fun _ => Q) (fun P hP => h P hP))
  intro n x y I' J' R' q
  exact ⟨q.1, fun _ => q.2.1, q.2.2⟩
end PT2x2
