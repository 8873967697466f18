section PT3x4
/-- what the picture stands under -/
noncomputable def StG (bad : Nat → Bool) (okp : Nat → Nat → Bool) (F : Im → Jm → Rm → Prop) : Prop :=
  (∀ I J R o ci k x, (shl.getD (o - 1) (999, 0)).1 = ci → ci < 100 → okp ci k = true → F I J R → F (uI I o k x) J R) ∧
  (∀ I J R o ci k x, (shl.getD (o - 1) (999, 0)).1 = ci → ci < 100 → okp ci k = true → F I J R → F I (uJ J o k x) R) ∧
  (∀ I J R a t j x, (shl.getD (a - 1) (999, 0)).1 = 100 + t → bad a = false → F I J R → F (uI I a j x) J R) ∧
  (∀ I J R a t j x, (shl.getD (a - 1) (999, 0)).1 = 100 + t → bad a = false → F I J R → F I (uJ J a j x) R) ∧
  (∀ I J R a0 a1 t p q m, (shl.getD (a1 - 1) (999, 0)).1 = 100 + t → bad a1 = false → F I J R → F (cI I a0 a1 p q m) J R) ∧
  (∀ I J R a0 a1 t p q m, (shl.getD (a1 - 1) (999, 0)).1 = 100 + t → bad a1 = false → F I J R → F I (cJ J a0 a1 p q m) R) ∧
  (∀ I J R o ci k v, (shl.getD (o - 1) (999, 0)).1 = ci → ci < 100 → F I J R → F I J (uR R o k v))
noncomputable def clG (dirty : List Nat) (okg okp : Nat → Nat → Bool) (i : Jvm.ClassFile.Instr) (ax : List Nat) : Bool := match i with
  | .new _ => false
  | .newarray _ => false
  | .anewarray _ => false
  | .aastore => false
  | .getfield _ => match ax with
    | [ci, k, kd, of] => Nat.beq kd (fkd ci k) && (Nat.beq of (fof ci k) && (!Nat.beq kd 4 || okg ci k))
    | _ => true
  | .putfield _ => match ax with
    | [ci, k, kd, _] => Nat.beq kd (fkd ci k) && (Nat.ble kd 3 && (Nat.blt ci 100 && (Nat.beq kd 3 || okp ci k)))
    | _ => true
  | .invokevirtual _ => match ax with
    | [_, mi, _, _, _, _, _, kr] => !dirty.elem mi && Nat.beq kr (qKr (mQ mi))
    | _ => true
  | .invokestatic _ => match ax with
    | [_, mi, _, _, _, _, _, kr] => !dirty.elem mi && Nat.beq kr (qKr (mQ mi))
    | _ => true
  | .invokespecial _ => match ax with
    | [_, mi, _, _, _, _, _, kr] => !dirty.elem mi && Nat.beq kr (qKr (mQ mi))
    | _ => true
  | _ => true
section KVH
variable {bad : Nat → Bool} {okg okp : Nat → Nat → Bool} {dirty : List Nat} {F : Im → Jm → Rm → Prop}
theorem fgt_g (hgf : ∀ o ci k, 0 < o → (shl.getD (o - 1) (999, 0)).1 = ci → fkd ci k = 4 → okg ci k = true → bad (o + fof ci k) = false) {n : Nat} {ph : Bool} {ci k kd of : Nat} {st : List Value} {I : Im} {J : Jm} {R : Rm} {K K' : List Value → Prop} (hs : kvS bad st) (hr : HRf bad R) (hkd : kd = fkd ci k) (hof : of = fof ci k) (hok : kd = 4 → okg ci k = true) (hK : ∀ r, kvS bad r → K r → K' r) (h : fgt n ph ci k kd of st I J R K) : fgt n ph ci k kd of st I J R K' := by
  refine sR_g hs (fun o r ho hrr => cond_g (fun hO q => ?_)) h
  have hsh := (isO_spec hO).2.2
  rcases kd with _ | _ | _ | _ | _ | kd
  · exact hK _ (kvS.c kvO.i hrr) q
  · exact hK _ (kvS.c kvO.i hrr) q
  · exact hK _ (kvS.c kvO.l hrr) q
  · exact and_m (hK _ (kvS.c (kvO.rf (hr.1 o ci k (isO_spec hO).1 hsh hkd.symm)) hrr)) q
  · have hb := hgf o ci k (isO_spec hO).1 hsh hkd.symm (hok rfl)
    rw [← hof] at hb
    exact cond_m (hK _ (kvS.c (kvO.rf hb) hrr)) (and_m (hK _ (kvS.c (kvO.rf hb) hrr))) q
  · exact q
theorem fpt_g (hst : StG bad okp F) {n : Nat} {ph : Bool} {ci k kd of : Nat} {st : List Value} {I : Im} {J : Jm} {R : Rm} {K K' : List Value → Im → Jm → Rm → Prop} (hs : kvS bad st) (hr : HRf bad R) (hF : F I J R) (hk3 : kd ≤ 3) (hci : ci < 100) (hok : ¬ kd = 3 → okp ci k = true) (hK : ∀ r I J R, kvS bad r → HRf bad R → F I J R → K r I J R → K' r I J R) (h : fpt n ph ci k kd of st I J R K) : fpt n ph ci k kd of st I J R K' := by
  rcases kd with _ | _ | _ | _ | kd
  · exact sRI_g hs (fun o x r _ hrr => cond_g (fun hO q => hK _ _ _ _ hrr hr (hst.1 _ _ _ o ci k x (isO_spec hO).2.2 hci (hok (by omega)) hF) q)) h
  · exact sRI_g hs (fun o x r _ hrr => cond_g (fun hO q => and_m (hK _ _ _ _ hrr hr (hst.1 _ _ _ o ci k x (isO_spec hO).2.2 hci (hok (by omega)) hF)) q)) h
  · exact sRL_g hs (fun o x r _ hrr => cond_g (fun hO q => hK _ _ _ _ hrr hr (hst.2.1 _ _ _ o ci k x (isO_spec hO).2.2 hci (hok (by omega)) hF) q)) h
  · exact sRR_g hs (fun o v r _ hv hrr => cond_g (fun hO q => and_m (hK _ _ _ _ hrr (hr.u hv) (hst.2.2.2.2.2.2 _ _ _ o ci k v (isO_spec hO).2.2 hci hF)) q)) h
  · omega
theorem kvS.psv {rk : Nat} {x : Int32} {y : Int64} {st : List Value} (hs : kvS bad st) : kvS bad (psh rk x y st) := by
  unfold psh
  cases Nat.beq rk 0
  · cases Nat.beq rk 3
    · exact kvS.c kvO.i hs
    · exact kvS.c kvO.l hs
  · exact hs
/-- the callees keep the picture -/
noncomputable def Mkg (bad : Nat → Bool) (dirty : List Nat) (F : Im → Jm → Rm → Prop) (M : Mc) : Prop := ∀ (mi n : Nat) (as : List Value) (I : Im) (J : Jm) (R : Rm) (Q : Qt), dirty.elem mi = false → kvS bad as → HRf bad R → F I J R → M mi n as I J R Q → M mi n as I J R (fun x y I' J' R' => (qKr (mQ mi) = 1 → R' = R) ∧ HRf bad R' ∧ F I' J' R' ∧ Q x y I' J' R')
theorem cal_g {M : Mc} (hM : Mono M) (hMg : Mkg bad dirty F M) {ph : Bool} {nend : Nat} {K K' : Kt} {pc n : Nat} {lv : Lv} {st : List Value} {I : Im} {J : Jm} {R : Rm} {kind mi na rk al ci ph1 kr : Nat} (hK : ∀ pc n st I J R, kvS bad st → HRf bad R → F I J R → K pc n lv st I J R → K' pc n lv st I J R) (hd : (!dirty.elem mi && Nat.beq kr (qKr (mQ mi))) = true) (hs : kvS bad st) (hr : HRf bad R) (hF : F I J R) (h : cal M ph nend K pc n lv st I J R kind mi na rk al ci ph1 kr) : cal M ph nend K' pc n lv st I J R kind mi na rk al ci ph1 kr := by
  have hs1 : kvS bad (st.take na).reverse := fun v hv => hs v (List.mem_of_mem_take (List.mem_reverse.mp hv))
  have hs2 : kvS bad (st.drop na) := fun v hv => hs v (List.mem_of_mem_drop hv)
  rw [Bool.and_eq_true, Bool.not_eq_true'] at hd
  have hkr := Nat.eq_of_beq_eq_true hd.2
  have key : M mi n (st.take na).reverse I J R (fun x y I' J' R' => bf rk x (K (pc + 3) (n + al) lv (psh rk x y (st.drop na)) I' J' (bif Nat.beq kr 1 then R else R'))) → M mi n (st.take na).reverse I J R (fun x y I' J' R' => bf rk x (K' (pc + 3) (n + al) lv (psh rk x y (st.drop na)) I' J' (bif Nat.beq kr 1 then R else R'))) :=
    fun q => hM _ _ _ _ _ _ _ _ (fun x y I' J' R' w => by
      obtain ⟨w1, w2, w3, w4⟩ := w
      cases hb : Nat.beq kr 1 with
      | false =>
        rw [hb] at w4
        exact bf_m (hK _ _ _ _ _ _ (kvS.psv hs2) w2 w3) w4
      | true =>
        rw [hb] at w4
        obtain rfl := w1 (hkr ▸ Nat.eq_of_beq_eq_true hb)
        exact bf_m (hK _ _ _ _ _ _ (kvS.psv hs2) w2 w3) w4) (hMg mi n _ I J R _ hd.1 hs1 hr hF q)
  exact cond_m (cond_m (and_m key) key) id h
set_option maxHeartbeats 4000000 in
theorem stI_g {M : Mc} (hM : Mono M) (hMg : Mkg bad dirty F M) (hgf : ∀ o ci k, 0 < o → (shl.getD (o - 1) (999, 0)).1 = ci → fkd ci k = 4 → okg ci k = true → bad (o + fof ci k) = false) (hst : StG bad okp F) {ph isl : Bool} {L : Nat} {xs : Nat → Int32} {rk nend : Nat} {Q Q' : Nat → Qt} (hQ : ∀ n x y I J R, HRf bad R → F I J R → Q n x y I J R → Q' n x y I J R) {K' : Kt} {pc : Nat} {ax : List Nat} {ks : List Int32} {lz : Int64} {n : Nat} {lv : Lv} {st : List Value} {I : Im} {J : Jm} {R : Rm} (hl : kvL bad lv) (hs : kvS bad st) (hr : HRf bad R) (hF : F I J R) (i : Jvm.ClassFile.Instr) (hc : clG dirty okg okp i ax = true)
    (h : stI M ph isl L xs rk nend Q (fun pc n lv st I J R => kvL bad lv → kvS bad st → HRf bad R → F I J R → K' pc n lv st I J R) pc ax ks lz n lv st I J R i) : stI M ph isl L xs rk nend Q' K' pc ax ks lz n lv st I J R i := by
  have hin : ∀ {i : Int32} {m : Nat}, vp_in i m → i.toNatClampNeg < m := fun hq => Nat.not_le.mp fun q => hq (Or.inr q)
  have hKc : ∀ pc n st I J R, kvS bad st → HRf bad R → F I J R → (kvL bad lv → kvS bad st → HRf bad R → F I J R → K' pc n lv st I J R) → K' pc n lv st I J R := fun pc n st I J R a b c q => q hl a b c
  cases i with
  | iconst _ => exact h hl (kvS.c kvO.i hs) hr hF
  | bipush _ => exact h hl (kvS.c kvO.i hs) hr hF
  | sipush _ => exact h hl (kvS.c kvO.i hs) hr hF
  | ldc _ => exact h hl (kvS.c kvO.i hs) hr hF
  | ldc_w _ => exact h hl (kvS.c kvO.i hs) hr hF
  | ldc2_w _ => exact h hl (kvS.c kvO.l hs) hr hF
  | lconst _ => exact h hl (kvS.c kvO.l hs) hr hF
  | goto _ => exact h hl hs hr hF
  | iload_n _ => exact lI_m (fun x q => q hl (kvS.c kvO.i hs) hr hF) h
  | iload _ => exact lI_m (fun x q => q hl (kvS.c kvO.i hs) hr hF) h
  | lload_n _ => exact lL_m (fun x q => q hl (kvS.c kvO.l hs) hr hF) h
  | lload _ => exact lL_m (fun x q => q hl (kvS.c kvO.l hs) hr hF) h
  | aload_n _ => exact lR_g hl (fun x hx q => q hl (kvS.c (kvO.rf hx) hs) hr hF) h
  | aload _ => exact lR_g hl (fun x hx q => q hl (kvS.c (kvO.rf hx) hs) hr hF) h
  | istore_n _ => exact sI_g hs (fun x r hrr q => q (hl.p kvO.i) hrr hr hF) h
  | istore _ => exact sI_g hs (fun x r hrr q => q (hl.p kvO.i) hrr hr hF) h
  | lstore_n _ => exact sL_g hs (fun x r hrr q => q (hl.p2 kvO.l) hrr hr hF) h
  | lstore _ => exact sL_g hs (fun x r hrr q => q (hl.p2 kvO.l) hrr hr hF) h
  | astore_n _ => exact sR_g hs (fun x r hx hrr q => q (hl.p (kvO.rf hx)) hrr hr hF) h
  | astore _ => exact sR_g hs (fun x r hx hrr q => q (hl.p (kvO.rf hx)) hrr hr hF) h
  | iinc _ _ => exact lI_m (fun x q => q (hl.p kvO.i) hs hr hF) h
  | iadd => exact sII_g hs (fun x y r hrr q => q hl (kvS.c kvO.i hrr) hr hF) h
  | isub => exact sII_g hs (fun x y r hrr q => q hl (kvS.c kvO.i hrr) hr hF) h
  | imul => exact sII_g hs (fun x y r hrr q => q hl (kvS.c kvO.i hrr) hr hF) h
  | iand => exact sII_g hs (fun x y r hrr q => q hl (kvS.c kvO.i hrr) hr hF) h
  | ior => exact sII_g hs (fun x y r hrr q => q hl (kvS.c kvO.i hrr) hr hF) h
  | ixor => exact sII_g hs (fun x y r hrr q => q hl (kvS.c kvO.i hrr) hr hF) h
  | ishl => exact sII_g hs (fun x y r hrr q => q hl (kvS.c kvO.i hrr) hr hF) h
  | ishr => exact sII_g hs (fun x y r hrr q => q hl (kvS.c kvO.i hrr) hr hF) h
  | iushr => exact sII_g hs (fun x y r hrr q => q hl (kvS.c kvO.i hrr) hr hF) h
  | idiv => exact sII_g hs (fun x y r hrr => and_m (fun q => q hl (kvS.c kvO.i hrr) hr hF)) h
  | irem => exact sII_g hs (fun x y r hrr => and_m (fun q => q hl (kvS.c kvO.i hrr) hr hF)) h
  | ladd => exact sLL_g hs (fun x y r hrr q => q hl (kvS.c kvO.l hrr) hr hF) h
  | lsub => exact sLL_g hs (fun x y r hrr q => q hl (kvS.c kvO.l hrr) hr hF) h
  | lmul => exact sLL_g hs (fun x y r hrr q => q hl (kvS.c kvO.l hrr) hr hF) h
  | land => exact sLL_g hs (fun x y r hrr q => q hl (kvS.c kvO.l hrr) hr hF) h
  | lor => exact sLL_g hs (fun x y r hrr q => q hl (kvS.c kvO.l hrr) hr hF) h
  | lcmp => exact sLL_g hs (fun x y r hrr q => q hl (kvS.c kvO.i hrr) hr hF) h
  | ldiv => exact sLL_g hs (fun x y r hrr => and_m (fun q => q hl (kvS.c kvO.l hrr) hr hF)) h
  | lrem => exact sLL_g hs (fun x y r hrr => and_m (fun q => q hl (kvS.c kvO.l hrr) hr hF)) h
  | lneg => exact sL_g hs (fun x r hrr q => q hl (kvS.c kvO.l hrr) hr hF) h
  | l2i => exact sL_g hs (fun x r hrr q => q hl (kvS.c kvO.i hrr) hr hF) h
  | pop2 => exact sL_g hs (fun x r hrr q => q hl hrr hr hF) h
  | lshl => exact sLI_g hs (fun x y r hrr q => q hl (kvS.c kvO.l hrr) hr hF) h
  | i2l => exact sI_g hs (fun x r hrr q => q hl (kvS.c kvO.l hrr) hr hF) h
  | i2b => exact sI_g hs (fun x r hrr q => q hl (kvS.c kvO.i hrr) hr hF) h
  | i2s => exact sI_g hs (fun x r hrr q => q hl (kvS.c kvO.i hrr) hr hF) h
  | dup =>
    unfold stI at h ⊢
    dsimp only at h ⊢
    split at h
    · exact h hl (kvS.c kvO.i hs) hr hF
    · exact h hl (kvS.c hs.a hs) hr hF
    · exact h.elim
  | pop =>
    unfold stI at h ⊢
    dsimp only at h ⊢
    split at h
    · exact h hl hs.t hr hF
    · exact h hl hs.t hr hF
    · exact h.elim
  | dup2 =>
    unfold stI at h ⊢
    dsimp only at h ⊢
    split at h
    · exact h hl (kvS.c kvO.i (kvS.c hs.t.a hs)) hr hF
    · exact h.elim
  | ifCond _ _ => exact sI_g hs (fun x r hrr => icz_m (fun q => q hl hrr hr hF) (fun q => q hl hrr hr hF)) h
  | if_icmp _ _ => exact sII_g hs (fun x y r hrr => icc_m (fun q => q hl hrr hr hF) (fun q => q hl hrr hr hF)) h
  | tableswitch _ _ _ _ => exact sI_g hs (fun x r hrr => swT_m (fun t q => q hl hrr hr hF) (fun q => q hl hrr hr hF) _ _ _) h
  | lookupswitch _ _ => exact sI_g hs (fun x r hrr => swT_m (fun t q => q hl hrr hr hF) (fun q => q hl hrr hr hF) _ _ _) h
  | getfield _ =>
    unfold stI at h ⊢
    dsimp only at h ⊢
    split at h
    · rename_i ci k kd of
      simp only [clG, Bool.and_eq_true, Bool.or_eq_true, Bool.not_eq_true'] at hc
      obtain ⟨c1, c2, c3⟩ := hc
      refine fgt_g hgf hs hr (Nat.eq_of_beq_eq_true c1) (Nat.eq_of_beq_eq_true c2) (fun e => ?_) (fun r hrr q => q hl hrr hr hF) h
      rcases c3 with c3 | c3
      · rw [e] at c3; exact absurd c3 (by decide)
      · exact c3
    · exact h.elim
  | putfield _ =>
    unfold stI at h ⊢
    dsimp only at h ⊢
    split at h
    · rename_i ci k kd of
      simp only [clG, Bool.and_eq_true, Bool.or_eq_true] at hc
      obtain ⟨c1, c2, c3, c4⟩ := hc
      refine fpt_g hst hs hr hF (Nat.le_of_ble_eq_true c2) (Nat.le_of_ble_eq_true c3) (fun e => ?_) (fun r I J R a b c q => q hl a b c) h
      rcases c4 with c4 | c4
      · exact absurd (Nat.eq_of_beq_eq_true c4) e
      · exact c4
    · exact h.elim
  | iaload => exact sRI_g hs (fun a x r _ hrr => cond_m (and_m (fun q => q hl (kvS.c kvO.i hrr) hr hF)) (cond_m (and_m (fun q => q hl (kvS.c kvO.i hrr) hr hF)) id)) h
  | baload => exact sRI_g hs (fun a x r _ hrr => cond_m (and_m (fun q => q hl (kvS.c kvO.i hrr) hr hF)) id) h
  | laload => exact sRI_g hs (fun a x r _ hrr => cond_m (and_m (fun q => q hl (kvS.c kvO.l hrr) hr hF)) id) h
  | aaload =>
    unfold stI at h ⊢
    dsimp only at h ⊢
    split at h
    · rename_i t
      exact sRI_g hs (fun a x r _ hrr => cond_g (fun hA q => ⟨q.1, q.2.1, q.2.2 hl (kvS.c (kvO.rf (hr.2 a t _ (by have := (isA_spec hA).2.2; omega) (hin q.1))) hrr) hr hF⟩)) h
    · exact h.elim
  | iastore => exact sRII_g hs (fun a i x r ha hrr => cond_g (fun hA => and_m (fun q => q hl hrr hr (hst.2.2.1 _ _ _ a 0 _ _ (isA_spec hA).2.2 ha hF)))) h
  | bastore => exact sRII_g hs (fun a i x r ha hrr => cond_g (fun hA => and_m (fun q => q hl hrr hr (hst.2.2.1 _ _ _ a 2 _ _ (isA_spec hA).2.2 ha hF)))) h
  | lastore => exact sRIL_g hs (fun a i x r ha hrr => cond_g (fun hA => and_m (fun q => q hl hrr hr (hst.2.2.2.1 _ _ _ a 1 _ _ (isA_spec hA).2.2 ha hF)))) h
  | aastore => cases hc
  | arraylength => exact sR_g hs (fun a r _ hrr => cond_m (fun q => q hl (kvS.c kvO.i hrr) hr hF) (cond_m (fun q => q hl (kvS.c kvO.i hrr) hr hF) (cond_m (fun q => q hl (kvS.c kvO.i hrr) hr hF) id))) h
  | new _ => cases hc
  | newarray _ => cases hc
  | anewarray _ => cases hc
  | invokevirtual _ =>
    unfold stI at h ⊢
    dsimp only at h ⊢
    split at h
    · exact cond_m (cal_g hM hMg hKc hc hs hr hF) id h
    · exact h.elim
  | invokespecial _ =>
    unfold stI at h ⊢
    dsimp only at h ⊢
    split at h
    · exact cond_m (cal_g hM hMg hKc hc hs hr hF) id h
    · exact sR_g hs (fun a r _ hrr => cond_m (fun q => q hl hrr hr hF) id) h
    · exact h.elim
  | invokestatic _ =>
    unfold stI at h ⊢
    dsimp only at h ⊢
    split at h
    · exact cond_m (cal_g hM hMg hKc hc hs hr hF) id h
    · try dsimp only at h ⊢
      split at h
      · exact sCpy_g hs (fun a sp a1 dp m r ha hrr => cond_g (fun hA => and_m (fun q => q hl hrr hr (hst.2.2.2.2.1 _ _ _ a a1 0 _ _ _ (isA_spec (by simp only [Bool.and_eq_true] at hA; exact hA.2.2)).2.2 ha hF)))) h
      · exact sCpy_g hs (fun a sp a1 dp m r ha hrr => cond_g (fun hA => and_m (fun q => q hl hrr hr (hst.2.2.2.2.2.1 _ _ _ a a1 1 _ _ _ (isA_spec (by simp only [Bool.and_eq_true] at hA; exact hA.2.2)).2.2 ha hF)))) h
      · exact sII_g hs (fun x y r hrr => cond_m (fun q => q hl (kvS.c kvO.i hrr) hr hF) id) h
      · exact sII_g hs (fun x y r hrr => cond_m (fun q => q hl (kvS.c kvO.i hrr) hr hF) id) h
      · exact sL_g hs (fun x r hrr => cond_m (fun q => q hl (kvS.c kvO.l hrr) hr hF) id) h
      · exact h.elim
    · exact h.elim
  | return_ =>
    refine cond_m (fun h => ?_) id h
    try dsimp only at h ⊢
    split at h
    · exact hQ _ _ _ _ _ _ hr hF h
    · exact h.elim
  | lreturn =>
    refine cond_m (fun h => ?_) id h
    try dsimp only at h ⊢
    split at h
    · exact hQ _ _ _ _ _ _ hr hF h
    · exact h.elim
  | ireturn =>
    refine cond_m (fun h => ?_) (cond_m (fun h => ?_) id) h
    · try dsimp only at h ⊢
      split at h
      · exact hQ _ _ _ _ _ _ hr hF h
      · exact h.elim
    · try dsimp only at h ⊢
      split at h
      · exact ⟨h.1, hQ _ _ _ _ _ _ hr hF h.2⟩
      · exact h.elim
  | _ => exact h.elim
end KVH
end PT3x4
