section PT4x1
theorem AW_inv {M : Mc} (hM : Mono M) (hC : Conj M) {ph isl : Bool} {L : Nat} {xs : Nat → Int32} {rk nend : Nat} {code : List En} (ho : onc code = true) {Q : Nat → Qt} {pc n : Nat} {c : Lv} {st : List Value} {I : Im} {J : Jm} {R : Rm} (h : AW M ph isl L xs rk nend code Q pc n c st I J R) : ∀ q ∈ code, q.1 = pc → stI M ph isl L xs rk nend Q (fun pc n lv st I J R => AW M ph isl L xs rk nend code Q pc n lv st I J R) q.1 q.2.2.2.1 q.2.2.2.2.1 q.2.2.2.2.2 n c st I J R q.2.1 := by
  have key := h (fun pc n b st I J R => AW M ph isl L xs rk nend code Q pc n b st I J R ∧ ∀ c, Sub b c → ∀ q ∈ code, q.1 = pc → stI M ph isl L xs rk nend Q (fun pc n lv st I J R => AW M ph isl L xs rk nend code Q pc n lv st I J R) q.1 q.2.2.2.1 q.2.2.2.2.1 q.2.2.2.2.2 n c st I J R q.2.1) ⟨fun e he n b st I J R hs => ?_, fun pc n ks lv st I J R q => ⟨AW_x hM hC q.1 (Or.inr ⟨ks, rfl⟩), fun c hc => q.2 c (hc.k ks)⟩⟩
  · exact key.2 c Sub.rf
  · have hs2 := stI_m hM (Q' := Q) (fun _ _ _ _ _ _ q => q) (K' := fun pc n lv st I J R => AW M ph isl L xs rk nend code Q pc n lv st I J R) (fun _ _ _ _ _ _ _ q => q.1) _ hs
    refine ⟨AW_st hM he hs2, fun c hbc q hq e2 => ?_⟩
    have := onc_s ho q hq e he e2
    rw [this]
    exact stI_2 (K := fun pc n lv st I J R => AW M ph isl L xs rk nend code Q pc n lv st I J R) (K1 := fun pc n lv st I J R => AW M ph isl L xs rk nend code Q pc n lv st I J R) (Q1 := Q) hC (fun _ _ _ _ _ _ q _ => q) (fun pc n a b c st I J R hac _ k1 _ => AW_x hM hC k1 hac) hbc hbc _ hs2 hs2
theorem AW_2 {M : Mc} (hM : Mono M) (hC : Conj M) {ph isl : Bool} {L : Nat} {xs : Nat → Int32} {rk nend : Nat} {code : List En} (ho : onc code = true) {Q Q1 Q2 : Nat → Qt} (hQ : ∀ n x y I J R, Q n x y I J R → Q1 n x y I J R → Q2 n x y I J R) {pc n : Nat} {lv : Lv} {st : List Value} {I : Im} {J : Jm} {R : Rm} (h : AW M ph isl L xs rk nend code Q pc n lv st I J R) (g : AW M ph isl L xs rk nend code Q1 pc n lv st I J R) : AW M ph isl L xs rk nend code Q2 pc n lv st I J R := by
  have key := h (fun pc n a st I J R => ∀ c, Sub a c → AW M ph isl L xs rk nend code Q1 pc n c st I J R → AW M ph isl L xs rk nend code Q2 pc n c st I J R) ⟨fun e he n a st I J R hs c hac hg => ?_, fun pc n ks lv st I J R q c hc hg => q c (hc.k ks) hg⟩
  · exact key lv Sub.rf g
  · exact AW_st hM he (stI_2 (K1 := fun pc n lv st I J R => AW M ph isl L xs rk nend code Q1 pc n lv st I J R) hC hQ (fun pc n a b c st I J R hac hbc k1 k2 => k1 c hac (AW_x hM hC k2 hbc)) hac Sub.rf _ hs (AW_inv hM hC ho hg e he rfl))
/-- the places rise -/
noncomputable def inc9 : List En → Bool
  | [] => true
  | e :: r => (match r with
    | [] => true
    | q :: _ => Nat.blt e.1 q.1) && inc9 r
theorem inc9_lt : ∀ (r : List En) (e : En), inc9 (e :: r) = true → ∀ q ∈ r, e.1 < q.1 := by
  intro r
  induction r with
  | nil => intro e _ q hq; cases hq
  | cons x r ih =>
    intro e h q hq
    have h' : (Nat.blt e.1 x.1 && inc9 (x :: r)) = true := h
    rw [Bool.and_eq_true] at h'
    have h1 : e.1 < x.1 := Nat.le_of_ble_eq_true h'.1
    rcases List.mem_cons.mp hq with q1 | q1
    · rw [q1]; exact h1
    · exact Nat.lt_trans h1 (ih x h'.2 q q1)
theorem inc9_o : ∀ code, inc9 code = true → onc code = true := by
  intro code
  induction code with
  | nil => intro _; rfl
  | cons e r ih =>
    intro h
    have h2 : inc9 r = true := by
      cases r with
      | nil => rfl
      | cons x r =>
        have h' : (Nat.blt e.1 x.1 && inc9 (x :: r)) = true := h
        rw [Bool.and_eq_true] at h'
        exact h'.2
    show (r.all (fun q => Nat.blt e.1 q.1) && onc r) = true
    rw [ih h2, Bool.and_true]
    exact List.all_eq_true.mpr (fun q hq => Nat.ble_eq_true_of_le (inc9_lt r e h q hq))
set_option maxRecDepth 100000 in
theorem inc_all : ∀ mi, mi < 322 → inc9 (mQ mi).1 = true := by decide +kernel
theorem onc_all : ∀ mi, mi < 322 → onc (mQ mi).1 = true := fun mi h => inc9_o _ (inc_all mi h)
theorem onc_mQ (mi : Nat) : onc (mQ mi).1 = true := by
  rcases Nat.lt_or_ge mi 322 with h | h
  · exact onc_all mi h
  · have hl : mtab.length = 322 := by decide +kernel
    unfold mQ
    rw [List.getD_eq_getElem?_getD, List.getElem?_eq_none (by omega)]
    rfl
theorem AM_2 : ∀ d, Conj (AM d)
  | 0 => fun _ _ _ _ _ _ _ _ _ _ h _ => h.elim
  | d + 1 => fun mi n as I J R Q Q1 Q2 hQ h g => by
    unfold AM at h g ⊢
    refine cond_2 (cond_2 (fun h g => ?_) f_2) (and_2 (AW_2 (AM_m d) (AM_2 d) (onc_mQ mi) (fun n x y I J R q q2 => ⟨q.1, q.2.1, hQ _ _ _ _ _ q.2.2 q2.2.2⟩))) h g
    obtain ⟨o, h1, h2, h3, h4⟩ := h
    obtain ⟨o2, g1, g2, g3, g4⟩ := g
    rw [h1] at g1
    cases g1
    exact ⟨o, h1, h2, h3, fun I' J' R' a1 a2 a3 a4 => hQ _ _ _ _ _ (h4 I' J' R' a1 a2 a3 a4) (g4 I' J' R' a1 a2 a3 a4)⟩
end PT4x1
section PT4x2
/-! ===== rows of bytes and of longs stay where no instruction writes such ===== -/
noncomputable def knd (a : Nat) : Nat := (shl.getD (a - 1) (999, 0)).1
/-- rows of bytes, rows of longs are as they were -/
noncomputable def ST (I0 : Im) (J0 : Jm) (I : Im) (J : Jm) : Prop := (∀ a, knd a = 102 → I a = I0 a) ∧ ∀ a, knd a = 101 → J a = J0 a
theorem ST.rf {I : Im} {J : Jm} : ST I J I J := ⟨fun _ _ => rfl, fun _ _ => rfl⟩
theorem ST.tr {I I1 I2 : Im} {J J1 J2 : Jm} (h : ST I J I1 J1) (h2 : ST I1 J1 I2 J2) : ST I J I2 J2 := ⟨fun a q => (h2.1 a q).trans (h.1 a q), fun a q => (h2.2 a q).trans (h.2 a q)⟩
theorem ST.u {I0 I : Im} {J0 J : Jm} {o k : Nat} {v : Int32} (h : ST I0 J0 I J) (ho : ¬ knd o = 102) : ST I0 J0 (uI I o k v) J := ⟨fun a q => (uI_ne (fun z => ho (by rw [← z]; exact q))).trans (h.1 a q), h.2⟩
theorem ST.c {I0 I : Im} {J0 J : Jm} {a0 a1 p q m : Nat} (h : ST I0 J0 I J) (ho : ¬ knd a1 = 102) : ST I0 J0 (cI I a0 a1 p q m) J := ⟨fun a q => (if_neg (fun z => ho (by rw [← z]; exact q))).trans (h.1 a q), h.2⟩
theorem ST.j {I0 I : Im} {J0 J : Jm} {o k : Nat} {v : Int64} (h : ST I0 J0 I J) (ho : ¬ knd o = 101) : ST I0 J0 I (uJ J o k v) := ⟨h.1, fun a q => (uJ_ne (fun z => ho (by rw [← z]; exact q))).trans (h.2 a q)⟩
theorem isO_k {n o ci : Nat} (h : isO n o ci = true) : knd o = ci := (isO_spec h).2.2
theorem isA_k {n a t : Nat} (h : isA n a t = true) : knd a = 100 + t := (isA_spec h).2.2
noncomputable def nobE (pl : List Nat) (i : Jvm.ClassFile.Instr) (ax : List Nat) : Bool := match i with
  | .new _ => false
  | .newarray _ => false
  | .anewarray _ => false
  | .bastore => false
  | .lastore => false
  | .putfield _ => match ax with
    | [ci, _, _, _] => Nat.blt ci 100
    | _ => true
  | .invokevirtual _ => match ax with
    | [_, mi, _, _, _, _, _, _] => pl.elem mi
    | _ => true
  | .invokestatic _ => match ax with
    | [_, mi, _, _, _, _, _, _] => pl.elem mi
    | [kind, _] => !(Nat.beq kind 5)
    | _ => true
  | .invokespecial _ => match ax with
    | [_, mi, _, _, _, _, _, _] => pl.elem mi
    | _ => true
  | _ => true
noncomputable def Mkt (pl : List Nat) (M : Mc) : Prop := ∀ (mi n : Nat) (as : List Value) (I : Im) (J : Jm) (R : Rm) (Q : Qt), pl.elem mi = true → M mi n as I J R Q → M mi n as I J R (fun x y I' J' R' => ST I J I' J' ∧ Q x y I' J' R')
theorem cal_t {M : Mc} (hM : Mono M) {pl : List Nat} (hMp : Mkt pl M) {ph : Bool} {nend n : Nat} {I0 I : Im} {J0 J : Jm} {R : Rm} (hS : ST I0 J0 I J) {K K' : Kt} (hK : ∀ pc n lv st I J R, ST I0 J0 I J → K pc n lv st I J R → K' pc n lv st I J R) {pc : Nat} {lv : Lv} {st : List Value} {kind mi na rk al ci ph1 kr : Nat} (hk : pl.elem mi = true) (h : cal M ph nend K pc n lv st I J R kind mi na rk al ci ph1 kr) : cal M ph nend K' pc n lv st I J R kind mi na rk al ci ph1 kr := by
  have key : M mi n (st.take na).reverse I J R (fun x y I' J' R' => bf rk x (K (pc + 3) (n + al) lv (psh rk x y (st.drop na)) I' J' (bif Nat.beq kr 1 then R else R'))) → M mi n (st.take na).reverse I J R (fun x y I' J' R' => bf rk x (K' (pc + 3) (n + al) lv (psh rk x y (st.drop na)) I' J' (bif Nat.beq kr 1 then R else R'))) := fun q => hM _ _ _ _ _ _ _ _ (fun x y I' J' R' w => bf_m (hK _ _ _ _ _ _ _ (hS.tr w.1)) w.2) (hMp mi n _ I J R _ hk q)
  exact cond_m (cond_m (and_m key) key) id h
theorem fpt_t {n : Nat} {ph : Bool} {ci k kd of : Nat} {st : List Value} {I0 I : Im} {J0 J : Jm} {R : Rm} (hc : Nat.blt ci 100 = true) (hS : ST I0 J0 I J) {K K' : List Value → Im → Jm → Rm → Prop} (hK : ∀ r I J R, ST I0 J0 I J → K r I J R → K' r I J R) (h : fpt n ph ci k kd of st I J R K) : fpt n ph ci k kd of st I J R K' := by
  have hc2 : ci < 100 := Nat.le_of_ble_eq_true hc
  rcases kd with _ | _ | _ | _ | _ | kd
  · exact sRI_m (fun o x r => cond_g (fun b => hK _ _ _ _ (hS.u (by rw [isO_k b]; omega)))) h
  · exact sRI_m (fun o x r => cond_g (fun b => and_m (hK _ _ _ _ (hS.u (by rw [isO_k b]; omega))))) h
  · exact sRL_m (fun o x r => cond_g (fun b => hK _ _ _ _ (hS.j (by rw [isO_k b]; omega)))) h
  · exact sRR_m (fun o x r => cond_m (and_m (hK _ _ _ _ hS)) id) h
  · exact sRR_m (fun o x r => cond_m (cond_m id (cond_m (hK _ _ _ _ hS) id)) id) h
  · exact h
set_option maxHeartbeats 4000000 in
theorem stI_t {M : Mc} (hM : Mono M) {pl : List Nat} (hMp : Mkt pl M) {ph isl : Bool} {L : Nat} {xs : Nat → Int32} {rk nend n : Nat} {I0 I : Im} {J0 J : Jm} {R : Rm} (hS : ST I0 J0 I J) {Q Q' : Nat → Qt} (hQ : ∀ n x y R, Q n x y I J R → Q' n x y I J R) {K K' : Kt} (hK : ∀ pc n lv st I J R, ST I0 J0 I J → K pc n lv st I J R → K' pc n lv st I J R) {pc : Nat} {ax : List Nat} {ks : List Int32} {lz : Int64} {lv : Lv} {st : List Value} (i : Jvm.ClassFile.Instr) (hk : nobE pl i ax = true) (h : stI M ph isl L xs rk nend Q K pc ax ks lz n lv st I J R i) : stI M ph isl L xs rk nend Q' K' pc ax ks lz n lv st I J R i := by
  have k0 : ∀ {pc n lv st R}, K pc n lv st I J R → K' pc n lv st I J R := fun h => hK _ _ _ _ _ _ _ hS h
  cases i with
  | iconst _ =>
    exact k0 h
  | bipush _ =>
    exact k0 h
  | sipush _ =>
    exact k0 h
  | ldc _ =>
    exact k0 h
  | ldc_w _ =>
    exact k0 h
  | ldc2_w _ =>
    exact k0 h
  | lconst _ =>
    exact k0 h
  | goto _ =>
    exact k0 h
  | iload_n _ =>
    exact lI_m (fun x => k0) h
  | iload _ =>
    exact lI_m (fun x => k0) h
  | lload_n _ =>
    exact lL_m (fun x => k0) h
  | lload _ =>
    exact lL_m (fun x => k0) h
  | aload_n _ =>
    exact lR_m (fun x => k0) h
  | aload _ =>
    exact lR_m (fun x => k0) h
  | istore_n _ =>
    exact sI_m (fun x r => k0) h
  | istore _ =>
    exact sI_m (fun x r => k0) h
  | lstore_n _ =>
    exact sL_m (fun x r => k0) h
  | lstore _ =>
    exact sL_m (fun x r => k0) h
  | astore_n _ =>
    exact sR_m (fun x r => k0) h
  | astore _ =>
    exact sR_m (fun x r => k0) h
  | iinc _ _ =>
    exact lI_m (fun x => k0) h
  | iadd =>
    exact sII_m (fun x y r => k0) h
  | isub =>
    exact sII_m (fun x y r => k0) h
  | imul =>
    exact sII_m (fun x y r => k0) h
  | iand =>
    exact sII_m (fun x y r => k0) h
  | ior =>
    exact sII_m (fun x y r => k0) h
  | ixor =>
    exact sII_m (fun x y r => k0) h
  | ishl =>
    exact sII_m (fun x y r => k0) h
  | ishr =>
    exact sII_m (fun x y r => k0) h
  | iushr =>
    exact sII_m (fun x y r => k0) h
  | idiv =>
    exact sII_m (fun x y r => and_m k0) h
  | irem =>
    exact sII_m (fun x y r => and_m k0) h
  | ladd =>
    exact sLL_m (fun x y r => k0) h
  | lsub =>
    exact sLL_m (fun x y r => k0) h
  | lmul =>
    exact sLL_m (fun x y r => k0) h
  | land =>
    exact sLL_m (fun x y r => k0) h
  | lor =>
    exact sLL_m (fun x y r => k0) h
  | lcmp =>
    exact sLL_m (fun x y r => k0) h
  | ldiv =>
    exact sLL_m (fun x y r => and_m k0) h
  | lrem =>
    exact sLL_m (fun x y r => and_m k0) h
  | lneg =>
    exact sL_m (fun x r => k0) h
  | l2i =>
    exact sL_m (fun x r => k0) h
  | pop2 =>
    exact sL_m (fun x r => k0) h
  | lshl =>
    exact sLI_m (fun x y r => k0) h
  | i2l =>
    exact sI_m (fun x r => k0) h
  | i2b =>
    exact sI_m (fun x r => k0) h
  | i2s =>
    exact sI_m (fun x r => k0) h
  | dup =>
    unfold stI at h ⊢
    dsimp only at h ⊢
    split at h
    · exact k0 h
    · exact k0 h
    · exact h.elim
  | pop =>
    unfold stI at h ⊢
    dsimp only at h ⊢
    split at h
    · exact k0 h
    · exact k0 h
    · exact h.elim
  | dup2 =>
    unfold stI at h ⊢
    dsimp only at h ⊢
    split at h
    · exact k0 h
    · exact h.elim
  | ifCond _ _ =>
    exact sI_m (fun x r => icz_m k0 k0) h
  | if_icmp _ _ =>
    exact sII_m (fun x y r => icc_m k0 k0) h
  | tableswitch _ _ _ _ =>
    exact sI_m (fun x r => swT_m (fun t => k0) k0 _ _ _) h
  | lookupswitch _ _ =>
    exact sI_m (fun x r => swT_m (fun t => k0) k0 _ _ _) h
  | getfield _ =>
    unfold stI at h ⊢
    dsimp only at h ⊢
    split at h
    · exact fgt_m (fun r => k0) h
    · exact h.elim
  | putfield _ =>
    unfold stI at h ⊢
    dsimp only at h ⊢
    split at h
    · exact fpt_t hk hS (fun r I J R q => hK _ _ _ _ _ _ _ q) h
    · exact h.elim
  | iaload =>
    exact sRI_m (fun a x r => cond_m (and_m k0) (cond_m (and_m k0) id)) h
  | baload =>
    exact sRI_m (fun a x r => cond_m (and_m k0) id) h
  | laload =>
    exact sRI_m (fun a x r => cond_m (and_m k0) id) h
  | aaload =>
    unfold stI at h ⊢
    dsimp only at h ⊢
    split at h
    · exact sRI_m (fun a x r => cond_m (and_m (and_m k0)) id) h
    · exact h.elim
  | iastore =>
    exact sRII_m (fun a i x r => cond_g (fun b => and_m (hK _ _ _ _ _ _ _ (hS.u (by rw [isA_k b]; omega))))) h
  | bastore =>
    cases hk
  | lastore =>
    cases hk
  | aastore =>
    unfold stI at h ⊢
    dsimp only at h ⊢
    split at h
    · exact sRIR_m (fun a i x r => cond_m (and_m k0) id) h
    · exact h.elim
  | arraylength =>
    exact sR_m (fun a r => cond_m k0 (cond_m k0 (cond_m k0 id))) h
  | new _ =>
    cases hk
  | newarray _ =>
    cases hk
  | anewarray _ =>
    cases hk
  | invokevirtual _ =>
    unfold stI at h ⊢
    dsimp only at h ⊢
    split at h
    · exact cond_m (cal_t hM hMp hS hK hk) id h
    · exact h.elim
  | invokespecial _ =>
    unfold stI at h ⊢
    dsimp only at h ⊢
    split at h
    · exact cond_m (cal_t hM hMp hS hK hk) id h
    · exact sR_m (fun a r => cond_m k0 id) h
    · exact h.elim
  | invokestatic _ =>
    unfold stI at h ⊢
    dsimp only at h ⊢
    split at h
    · exact cond_m (cal_t hM hMp hS hK hk) id h
    · try dsimp only at h ⊢
      split at h
      · exact sCpy_m (fun a sp a1 dp n r => cond_g (fun b => and_m (hK _ _ _ _ _ _ _ (hS.c (by rw [Bool.and_eq_true, Bool.and_eq_true] at b; rw [isA_k b.2.2]; omega))))) h
      · exact Bool.noConfusion (show false = true from hk)
      · exact sII_m (fun x y r => cond_m k0 id) h
      · exact sII_m (fun x y r => cond_m k0 id) h
      · exact sL_m (fun x r => cond_m k0 id) h
      · exact h.elim
    · exact h.elim
  | return_ =>
    refine cond_m (fun h => ?_) id h
    try dsimp only at h ⊢
    split at h
    · exact hQ _ _ _ _ h
    · exact h.elim
  | lreturn =>
    refine cond_m (fun h => ?_) id h
    try dsimp only at h ⊢
    split at h
    · exact hQ _ _ _ _ h
    · exact h.elim
  | ireturn =>
    refine cond_m (fun h => ?_) (cond_m (fun h => ?_) id) h
    · try dsimp only at h ⊢
      split at h
      · exact hQ _ _ _ _ h
      · exact h.elim
    · try dsimp only at h ⊢
      split at h
      · exact ⟨h.1, hQ _ _ _ _ h.2⟩
      · exact h.elim
  | _ => exact h.elim
theorem AW_t {M : Mc} (hM : Mono M) {pl : List Nat} (hMp : Mkt pl M) {ph isl : Bool} {L : Nat} {xs : Nat → Int32} {rk nend : Nat} {code : List En} (hk : ∀ e ∈ code, nobE pl e.2.1 e.2.2.2.1 = true) {Q : Nat → Qt} {pc n : Nat} {lv : Lv} {st : List Value} {I : Im} {J : Jm} {R : Rm} (h : AW M ph isl L xs rk nend code Q pc n lv st I J R) : AW M ph isl L xs rk nend code (fun n' x y I' J' R' => ST I J I' J' ∧ Q n' x y I' J' R') pc n lv st I J R := by
  intro P hP
  refine h (fun pc n' lv st I' J' R' => ST I J I' J' → P pc n' lv st I' J' R') ⟨fun e he n' lv st I' J' R' hs h1 => ?_, fun pc n' ks lv st I' J' R' q h1 => hP.2 _ _ ks _ _ _ _ _ (q h1)⟩ ST.rf
  exact hP.1 e he _ lv st _ _ _ (stI_t hM hMp h1 (fun n x y R q => ⟨h1, q⟩) (fun pc n lv st I J R z q => q z) e.2.1 (hk e he) hs)
noncomputable def NbT (pl : List Nat) : Prop := ∀ mi, pl.elem mi = true → Nat.beq mi mReader = false ∧ (mQ mi).1.all (fun e => nobE pl e.2.1 e.2.2.2.1) = true
theorem NbT.of {pl : List Nat} (h : pl.all (fun mi => !Nat.beq mi mReader && (mQ mi).1.all (fun e => nobE pl e.2.1 e.2.2.2.1)) = true) : NbT pl := by
  intro mi hm
  have h1 := List.all_eq_true.mp h mi (List.elem_iff.mp hm)
  simp only [Bool.and_eq_true, Bool.not_eq_true'] at h1
  exact h1
theorem AM_t {pl : List Nat} (hp : NbT pl) : ∀ d, Mkt pl (AM d) := by
  intro d
  induction d with
  | zero => intro mi n as I J R Q hd h; exact h.elim
  | succ d ih =>
    intro mi n as I J R Q hd h
    obtain ⟨c1, c2⟩ := hp mi hd
    unfold AM at h ⊢
    rw [c1] at h ⊢
    exact ⟨h.1, AW_m (AM_m d) (fun n x y I' J' R' q => ⟨q.2.1, q.2.2.1, q.1, q.2.2.2⟩) (AW_t (AM_m d) ih (List.all_eq_true.mp c2) h.2)⟩
end PT4x2
section PT4x3
/-! ===== rows of ints stay where no instruction writes such ===== -/
noncomputable def SI (I0 : Im) (I : Im) : Prop := ∀ a, knd a = 100 → I a = I0 a
theorem SI.rf {I : Im} : SI I I := fun _ _ => rfl
theorem SI.tr {I I1 I2 : Im} (h : SI I I1) (h2 : SI I1 I2) : SI I I2 := fun a q => (h2 a q).trans (h a q)
theorem SI.u {I0 I : Im} {o k : Nat} {v : Int32} (h : SI I0 I) (ho : ¬ knd o = 100) : SI I0 (uI I o k v) := fun a q => (uI_ne (fun z => ho (by rw [← z]; exact q))).trans (h a q)
noncomputable def noiE (pl : List Nat) (i : Jvm.ClassFile.Instr) (ax : List Nat) : Bool := match i with
  | .new _ => false
  | .newarray _ => false
  | .anewarray _ => false
  | .iastore => false
  | .putfield _ => match ax with
    | [ci, _, _, _] => Nat.blt ci 100
    | _ => true
  | .invokevirtual _ => match ax with
    | [_, mi, _, _, _, _, _, _] => pl.elem mi
    | _ => true
  | .invokestatic _ => match ax with
    | [_, mi, _, _, _, _, _, _] => pl.elem mi
    | [kind, _] => !(Nat.beq kind 4)
    | _ => true
  | .invokespecial _ => match ax with
    | [_, mi, _, _, _, _, _, _] => pl.elem mi
    | _ => true
  | _ => true
noncomputable def Mki (pl : List Nat) (M : Mc) : Prop := ∀ (mi n : Nat) (as : List Value) (I : Im) (J : Jm) (R : Rm) (Q : Qt), pl.elem mi = true → M mi n as I J R Q → M mi n as I J R (fun x y I' J' R' => SI I I' ∧ Q x y I' J' R')
theorem cal_i {M : Mc} (hM : Mono M) {pl : List Nat} (hMp : Mki pl M) {ph : Bool} {nend n : Nat} {I0 I : Im} {J : Jm} {R : Rm} (hS : SI I0 I) {K K' : Kt} (hK : ∀ pc n lv st I J R, SI I0 I → K pc n lv st I J R → K' pc n lv st I J R) {pc : Nat} {lv : Lv} {st : List Value} {kind mi na rk al ci ph1 kr : Nat} (hk : pl.elem mi = true) (h : cal M ph nend K pc n lv st I J R kind mi na rk al ci ph1 kr) : cal M ph nend K' pc n lv st I J R kind mi na rk al ci ph1 kr := by
  have key : M mi n (st.take na).reverse I J R (fun x y I' J' R' => bf rk x (K (pc + 3) (n + al) lv (psh rk x y (st.drop na)) I' J' (bif Nat.beq kr 1 then R else R'))) → M mi n (st.take na).reverse I J R (fun x y I' J' R' => bf rk x (K' (pc + 3) (n + al) lv (psh rk x y (st.drop na)) I' J' (bif Nat.beq kr 1 then R else R'))) := fun q => hM _ _ _ _ _ _ _ _ (fun x y I' J' R' w => bf_m (hK _ _ _ _ _ _ _ (hS.tr w.1)) w.2) (hMp mi n _ I J R _ hk q)
  exact cond_m (cond_m (and_m key) key) id h
end PT4x3
