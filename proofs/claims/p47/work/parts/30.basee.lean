section PT3x2
theorem sp_J7_fill_53178 {d : Nat} {Q : Qt} {v0 : Nat} {v1 : Int32} {I : Im} {J : Jm} {R : Rm} (hB0 : Bd I) (hR0 : RI R) (ha : isA 112 v0 0 = true) (hna : bna v0 = none) (hQ : ∀ (x : Int32) (y : Int64) (I2 : Im) (J2 : Jm), Bd I2 → (∀ i, i ≠ v0 → I2 i = I i) → Q x y I2 J2 R) : AM (d + 1) 321 112 [.ref v0, .int v1] I J R Q := by
  refine am_J7_fill_53178 (fun P hc => ?_)
  have hle := aL_le v0
  have L : ∀ n : Nat, ∀ (v3 : Int32) (I1 : Im), Bd I1 → (∀ i, i ≠ v0 → I1 i = I i) → 0 ≤ v3.toInt ∧ v3.toInt ≤ aL v0 → (aL v0 : Int) - v3.toInt < (n : Int) → P 5 112 [(0, .ref v0), (1, .int v1), (2, .int v3), (3, .int (Int32.ofNat (aL v0)))] [] I1 J R := by
    intro n
    induction n with
    | zero => exact fun v3 I1 hB hI hi hm => absurd hm (by omega)
    | succ n ih =>
      intro v3 I1 hB hI hi hm
      refine sg_J7_fill_53178_5 hc _ _ _ _ _ _ _ ?_
      refine ⟨fun c1 => ?_, fun c1 => ?_⟩
      · exact hQ _ _ _ _ hB hI
      · have d1 := ci_nle (ofNat_ti hle) rfl c1
        refine bif_t ha ?_
        refine ⟨vp_of rfl hi.1 d1, ?_⟩
        have e1 : (v3 + 1 : Int32).toInt = v3.toInt + 1 := ti_add rfl rfl (by omega)
        exact ih _ _ (Bd.a0 hB ha hna) (fun i hi2 => by rw [uI_ne hi2]; exact hI i hi2) (by omega) (by omega)
  refine sg_J7_fill_53178_0 hc _ _ _ _ _ ?_
  refine bif_tF ha ?_
  exact L 5000 _ _ hB0 (fun _ _ => rfl) (by have h0 : (0 : Int32).toInt = 0 := rfl; omega) (by have h0 : (0 : Int32).toInt = 0 := rfl; omega)
end PT3x2
section PT3x3
/-! ===== methods that write nothing ===== -/
noncomputable def pureE (pl : List Nat) (i : Jvm.ClassFile.Instr) (ax : List Nat) : Bool := match i with
  | .new _ => false
  | .newarray _ => false
  | .anewarray _ => false
  | .putfield _ => false
  | .iastore => false
  | .bastore => false
  | .lastore => false
  | .aastore => false
  | .invokevirtual _ => match ax with
    | [_, mi, _, _, _, _, _, _] => pl.elem mi
    | _ => true
  | .invokestatic _ => match ax with
    | [_, mi, _, _, _, _, _, _] => pl.elem mi
    | [kind, _] => Nat.ble 6 kind
    | _ => true
  | .invokespecial _ => match ax with
    | [_, mi, _, _, _, _, _, _] => pl.elem mi
    | _ => true
  | _ => true
noncomputable def Mkp (pl : List Nat) (M : Mc) : Prop := ∀ (mi n : Nat) (as : List Value) (I : Im) (J : Jm) (R : Rm) (Q : Qt), pl.elem mi = true → M mi n as I J R Q → M mi n as I J R (fun x y I' J' R' => I' = I ∧ J' = J ∧ R' = R ∧ Q x y I' J' R')
theorem cal_p {M : Mc} (hM : Mono M) {pl : List Nat} (hMp : Mkp pl M) {ph : Bool} {nend n : Nat} {I : Im} {J : Jm} {R : Rm} {K K' : Kt} (hK : ∀ pc n lv st, K pc n lv st I J R → K' pc n lv st I J R) {pc : Nat} {lv : Lv} {st : List Value} {kind mi na rk al ci ph1 kr : Nat} (hk : pl.elem mi = true) (h : cal M ph nend K pc n lv st I J R kind mi na rk al ci ph1 kr) : cal M ph nend K' pc n lv st I J R kind mi na rk al ci ph1 kr := by
  have key : M mi n (st.take na).reverse I J R (fun x y I' J' R' => bf rk x (K (pc + 3) (n + al) lv (psh rk x y (st.drop na)) I' J' (bif Nat.beq kr 1 then R else R'))) → M mi n (st.take na).reverse I J R (fun x y I' J' R' => bf rk x (K' (pc + 3) (n + al) lv (psh rk x y (st.drop na)) I' J' (bif Nat.beq kr 1 then R else R'))) := fun q => hM _ _ _ _ _ _ _ _ (fun x y I' J' R' w => by
    obtain ⟨rfl, rfl, rfl, w⟩ := w
    have e : (bif Nat.beq kr 1 then R' else R') = R' := by cases Nat.beq kr 1 <;> rfl
    rw [e] at w ⊢
    exact bf_m (hK _ _ _ _) w) (hMp mi n _ I J R _ hk q)
  exact cond_m (cond_m (and_m key) key) id h
set_option maxHeartbeats 4000000 in
theorem stI_p {M : Mc} (hM : Mono M) {pl : List Nat} (hMp : Mkp pl M) {ph isl : Bool} {L : Nat} {xs : Nat → Int32} {rk nend n : Nat} {I : Im} {J : Jm} {R : Rm} {Q Q' : Nat → Qt} (hQ : ∀ n x y, Q n x y I J R → Q' n x y I J R) {K K' : Kt} (hK : ∀ pc n lv st, K pc n lv st I J R → K' pc n lv st I J R) {pc : Nat} {ax : List Nat} {ks : List Int32} {lz : Int64} {lv : Lv} {st : List Value} (i : Jvm.ClassFile.Instr) (hk : pureE pl i ax = true) (h : stI M ph isl L xs rk nend Q K pc ax ks lz n lv st I J R i) : stI M ph isl L xs rk nend Q' K' pc ax ks lz n lv st I J R i := by
  have k0 : ∀ {pc n lv st}, K pc n lv st I J R → K' pc n lv st I J R := fun h => hK _ _ _ _ h
  cases i with
  | iconst _ =>
    exact k0 h
  | bipush _ =>
    exact k0 h
  | sipush _ =>
    exact k0 h
  | ldc _ =>
    exact k0 h
  | ldc_w _ =>
    exact k0 h
  | ldc2_w _ =>
    exact k0 h
  | lconst _ =>
    exact k0 h
  | goto _ =>
    exact k0 h
  | iload_n _ =>
    exact lI_m (fun x => k0) h
  | iload _ =>
    exact lI_m (fun x => k0) h
  | lload_n _ =>
    exact lL_m (fun x => k0) h
  | lload _ =>
    exact lL_m (fun x => k0) h
  | aload_n _ =>
    exact lR_m (fun x => k0) h
  | aload _ =>
    exact lR_m (fun x => k0) h
  | istore_n _ =>
    exact sI_m (fun x r => k0) h
  | istore _ =>
    exact sI_m (fun x r => k0) h
  | lstore_n _ =>
    exact sL_m (fun x r => k0) h
  | lstore _ =>
    exact sL_m (fun x r => k0) h
  | astore_n _ =>
    exact sR_m (fun x r => k0) h
  | astore _ =>
    exact sR_m (fun x r => k0) h
  | iinc _ _ =>
    exact lI_m (fun x => k0) h
  | iadd =>
    exact sII_m (fun x y r => k0) h
  | isub =>
    exact sII_m (fun x y r => k0) h
  | imul =>
    exact sII_m (fun x y r => k0) h
  | iand =>
    exact sII_m (fun x y r => k0) h
  | ior =>
    exact sII_m (fun x y r => k0) h
  | ixor =>
    exact sII_m (fun x y r => k0) h
  | ishl =>
    exact sII_m (fun x y r => k0) h
  | ishr =>
    exact sII_m (fun x y r => k0) h
  | iushr =>
    exact sII_m (fun x y r => k0) h
  | idiv =>
    exact sII_m (fun x y r => and_m k0) h
  | irem =>
    exact sII_m (fun x y r => and_m k0) h
  | ladd =>
    exact sLL_m (fun x y r => k0) h
  | lsub =>
    exact sLL_m (fun x y r => k0) h
  | lmul =>
    exact sLL_m (fun x y r => k0) h
  | land =>
    exact sLL_m (fun x y r => k0) h
  | lor =>
    exact sLL_m (fun x y r => k0) h
  | lcmp =>
    exact sLL_m (fun x y r => k0) h
  | ldiv =>
    exact sLL_m (fun x y r => and_m k0) h
  | lrem =>
    exact sLL_m (fun x y r => and_m k0) h
  | lneg =>
    exact sL_m (fun x r => k0) h
  | l2i =>
    exact sL_m (fun x r => k0) h
  | pop2 =>
    exact sL_m (fun x r => k0) h
  | lshl =>
    exact sLI_m (fun x y r => k0) h
  | i2l =>
    exact sI_m (fun x r => k0) h
  | i2b =>
    exact sI_m (fun x r => k0) h
  | i2s =>
    exact sI_m (fun x r => k0) h
  | dup =>
    unfold stI at h ⊢
    dsimp only at h ⊢
    split at h
    · exact k0 h
    · exact k0 h
    · exact h.elim
  | pop =>
    unfold stI at h ⊢
    dsimp only at h ⊢
    split at h
    · exact k0 h
    · exact k0 h
    · exact h.elim
  | dup2 =>
    unfold stI at h ⊢
    dsimp only at h ⊢
    split at h
    · exact k0 h
    · exact h.elim
  | ifCond _ _ =>
    exact sI_m (fun x r => icz_m k0 k0) h
  | if_icmp _ _ =>
    exact sII_m (fun x y r => icc_m k0 k0) h
  | tableswitch _ _ _ _ =>
    exact sI_m (fun x r => swT_m (fun t => k0) k0 _ _ _) h
  | lookupswitch _ _ =>
    exact sI_m (fun x r => swT_m (fun t => k0) k0 _ _ _) h
  | getfield _ =>
    unfold stI at h ⊢
    dsimp only at h ⊢
    split at h
    · exact fgt_m (fun r => k0) h
    · exact h.elim
  | putfield _ =>
    cases hk
  | iaload =>
    exact sRI_m (fun a x r => cond_m (and_m k0) (cond_m (and_m k0) id)) h
  | baload =>
    exact sRI_m (fun a x r => cond_m (and_m k0) id) h
  | laload =>
    exact sRI_m (fun a x r => cond_m (and_m k0) id) h
  | aaload =>
    unfold stI at h ⊢
    dsimp only at h ⊢
    split at h
    · exact sRI_m (fun a x r => cond_m (and_m (and_m k0)) id) h
    · exact h.elim
  | iastore =>
    cases hk
  | bastore =>
    cases hk
  | lastore =>
    cases hk
  | aastore =>
    cases hk
  | arraylength =>
    exact sR_m (fun a r => cond_m k0 (cond_m k0 (cond_m k0 id))) h
  | new _ =>
    cases hk
  | newarray _ =>
    cases hk
  | anewarray _ =>
    cases hk
  | invokevirtual _ =>
    unfold stI at h ⊢
    dsimp only at h ⊢
    split at h
    · exact cond_m (cal_p hM hMp hK hk) id h
    · exact h.elim
  | invokespecial _ =>
    unfold stI at h ⊢
    dsimp only at h ⊢
    split at h
    · exact cond_m (cal_p hM hMp hK hk) id h
    · exact sR_m (fun a r => cond_m k0 id) h
    · exact h.elim
  | invokestatic _ =>
    unfold stI at h ⊢
    dsimp only at h ⊢
    split at h
    · exact cond_m (cal_p hM hMp hK hk) id h
    · try dsimp only at h ⊢
      split at h
      · exact Bool.noConfusion (show false = true from hk)
      · exact Bool.noConfusion (show false = true from hk)
      · exact sII_m (fun x y r => cond_m k0 id) h
      · exact sII_m (fun x y r => cond_m k0 id) h
      · exact sL_m (fun x r => cond_m k0 id) h
      · exact h.elim
    · exact h.elim
  | return_ =>
    refine cond_m (fun h => ?_) id h
    try dsimp only at h ⊢
    split at h
    · exact hQ _ _ _ h
    · exact h.elim
  | lreturn =>
    refine cond_m (fun h => ?_) id h
    try dsimp only at h ⊢
    split at h
    · exact hQ _ _ _ h
    · exact h.elim
  | ireturn =>
    refine cond_m (fun h => ?_) (cond_m (fun h => ?_) id) h
    · try dsimp only at h ⊢
      split at h
      · exact hQ _ _ _ h
      · exact h.elim
    · try dsimp only at h ⊢
      split at h
      · exact ⟨h.1, hQ _ _ _ h.2⟩
      · exact h.elim
  | _ => exact h.elim
end PT3x3
