/-! ===== more steps at once: what is closed under one is closed under many ===== -/
theorem cond_m {b : Bool} {p p' q q' : Prop} (h1 : p → p') (h2 : q → q') (h : bif b then p else q) : bif b then p' else q' := by
  cases b
  · exact h2 h
  · exact h1 h
theorem and_m {a b b' : Prop} (h1 : b → b') (h : a ∧ b) : a ∧ b' := ⟨h.1, h1 h.2⟩
theorem sI_m {st : List Value} {f g : Int32 → List Value → Prop} (hm : ∀ x r, f x r → g x r) (h : sI st f) : sI st g := by
  unfold sI at h ⊢
  split at h
  · exact hm _ _ h
  · exact h.elim
theorem sII_m {st : List Value} {f g : Int32 → Int32 → List Value → Prop} (hm : ∀ x y r, f x y r → g x y r) (h : sII st f) : sII st g := by
  unfold sII at h ⊢
  split at h
  · exact hm _ _ _ h
  · exact h.elim
theorem sL_m {st : List Value} {f g : Int64 → List Value → Prop} (hm : ∀ x r, f x r → g x r) (h : sL st f) : sL st g := by
  unfold sL at h ⊢
  split at h
  · exact hm _ _ h
  · exact h.elim
theorem sLL_m {st : List Value} {f g : Int64 → Int64 → List Value → Prop} (hm : ∀ x y r, f x y r → g x y r) (h : sLL st f) : sLL st g := by
  unfold sLL at h ⊢
  split at h
  · exact hm _ _ _ h
  · exact h.elim
theorem sLI_m {st : List Value} {f g : Int64 → Int32 → List Value → Prop} (hm : ∀ x y r, f x y r → g x y r) (h : sLI st f) : sLI st g := by
  unfold sLI at h ⊢
  split at h
  · exact hm _ _ _ h
  · exact h.elim
theorem sR_m {st : List Value} {f g : Nat → List Value → Prop} (hm : ∀ a r, f a r → g a r) (h : sR st f) : sR st g := by
  unfold sR at h ⊢
  split at h
  · exact hm _ _ h
  · exact h.elim
theorem sRI_m {st : List Value} {f g : Nat → Int32 → List Value → Prop} (hm : ∀ a x r, f a x r → g a x r) (h : sRI st f) : sRI st g := by
  unfold sRI at h ⊢
  split at h
  · exact hm _ _ _ h
  · exact h.elim
theorem sRL_m {st : List Value} {f g : Nat → Int64 → List Value → Prop} (hm : ∀ a x r, f a x r → g a x r) (h : sRL st f) : sRL st g := by
  unfold sRL at h ⊢
  split at h
  · exact hm _ _ _ h
  · exact h.elim
theorem sRR_m {st : List Value} {f g : Nat → Nat → List Value → Prop} (hm : ∀ a v r, f a v r → g a v r) (h : sRR st f) : sRR st g := by
  unfold sRR at h ⊢
  split at h
  · exact hm _ _ _ h
  · exact h.elim
theorem sRII_m {st : List Value} {f g : Nat → Int32 → Int32 → List Value → Prop} (hm : ∀ a i x r, f a i x r → g a i x r) (h : sRII st f) : sRII st g := by
  unfold sRII at h ⊢
  split at h
  · exact hm _ _ _ _ h
  · exact h.elim
theorem sRIL_m {st : List Value} {f g : Nat → Int32 → Int64 → List Value → Prop} (hm : ∀ a i x r, f a i x r → g a i x r) (h : sRIL st f) : sRIL st g := by
  unfold sRIL at h ⊢
  split at h
  · exact hm _ _ _ _ h
  · exact h.elim
theorem sRIR_m {st : List Value} {f g : Nat → Int32 → Nat → List Value → Prop} (hm : ∀ a i v r, f a i v r → g a i v r) (h : sRIR st f) : sRIR st g := by
  unfold sRIR at h ⊢
  split at h
  · exact hm _ _ _ _ h
  · exact h.elim
theorem sCpy_m {st : List Value} {f g : Nat → Int32 → Nat → Int32 → Int32 → List Value → Prop} (hm : ∀ a sp a1 dp n r, f a sp a1 dp n r → g a sp a1 dp n r) (h : sCpy st f) : sCpy st g := by
  unfold sCpy at h ⊢
  split at h
  · exact hm _ _ _ _ _ _ h
  · exact h.elim
theorem lI_m {lv : Lv} {i : Nat} {f g : Int32 → Prop} (hm : ∀ x, f x → g x) (h : lI lv i f) : lI lv i g := by
  unfold lI at h ⊢
  split at h
  · exact hm _ h
  · exact h.elim
theorem lL_m {lv : Lv} {i : Nat} {f g : Int64 → Prop} (hm : ∀ x, f x → g x) (h : lL lv i f) : lL lv i g := by
  unfold lL at h ⊢
  split at h
  · exact hm _ h
  · exact h.elim
theorem lR_m {lv : Lv} {i : Nat} {f g : Nat → Prop} (hm : ∀ x, f x → g x) (h : lR lv i f) : lR lv i g := by
  unfold lR at h ⊢
  split at h
  · exact hm _ h
  · exact h.elim
theorem icz_m {c : Jvm.ClassFile.Cond} {x : Int32} {T F T' F' : Prop} (h1 : T → T') (h2 : F → F') (h : icz c x T F) : icz c x T' F' := by
  cases c <;> exact ⟨fun q => by first | exact h1 (h.1 q) | exact h2 (h.1 q), fun q => by first | exact h1 (h.2 q) | exact h2 (h.2 q)⟩
theorem icc_m {c : Jvm.ClassFile.Cond} {x y : Int32} {T F T' F' : Prop} (h1 : T → T') (h2 : F → F') (h : icc c x y T F) : icc c x y T' F' := by
  cases c <;> exact ⟨fun q => by first | exact h1 (h.1 q) | exact h2 (h.1 q), fun q => by first | exact h1 (h.2 q) | exact h2 (h.2 q)⟩
theorem swT_m {T T' : Nat → Prop} {d d' : Prop} (h1 : ∀ t, T t → T' t) (h2 : d → d') : ∀ (ks : List Int32) (ts : List Nat) (x : Int32), swT ks ts x T d → swT ks ts x T' d'
  | [], _, _, h => h2 h
  | _ :: _, [], _, h => h2 h
  | _ :: ks, _ :: ts, x, h => ⟨fun q => h1 _ (h.1 q), fun q => swT_m h1 h2 ks ts x (h.2 q)⟩
theorem bf_m {rk : Nat} {x : Int32} {P P' : Prop} (h1 : P → P') (h : bf rk x P) : bf rk x P' := cond_m (fun q z => h1 (q z)) h1 h
noncomputable def Mono (M : Mc) : Prop := ∀ (mi n : Nat) (as : List Value) (I : Im) (J : Jm) (R : Rm) (Q Q' : Qt), (∀ x y I J R, Q x y I J R → Q' x y I J R) → M mi n as I J R Q → M mi n as I J R Q'
theorem cal_m {M : Mc} (hM : Mono M) {ph : Bool} {nend : Nat} {K K' : Kt} (hK : ∀ pc n lv st I J R, K pc n lv st I J R → K' pc n lv st I J R) {pc n : Nat} {lv : Lv} {st : List Value} {I : Im} {J : Jm} {R : Rm} {kind mi na rk al ci ph1 kr : Nat} (h : cal M ph nend K pc n lv st I J R kind mi na rk al ci ph1 kr) : cal M ph nend K' pc n lv st I J R kind mi na rk al ci ph1 kr :=
  cond_m (cond_m (and_m (hM _ _ _ _ _ _ _ _ (fun x y I J R => bf_m (hK _ _ _ _ _ _ _)))) (hM _ _ _ _ _ _ _ _ (fun x y I J R => bf_m (hK _ _ _ _ _ _ _)))) id h
theorem fgt_m {n : Nat} {ph : Bool} {ci k kd of : Nat} {st : List Value} {I : Im} {J : Jm} {R : Rm} {K K' : List Value → Prop} (hK : ∀ r, K r → K' r) (h : fgt n ph ci k kd of st I J R K) : fgt n ph ci k kd of st I J R K' := by
  refine sR_m (fun o r => cond_m (fun q => ?_) id) h
  rcases kd with _ | _ | _ | _ | _ | kd
  · exact hK _ q
  · exact hK _ q
  · exact hK _ q
  · exact and_m (hK _) q
  · exact cond_m (hK _) (and_m (hK _)) q
  · exact q
theorem fpt_m {n : Nat} {ph : Bool} {ci k kd of : Nat} {st : List Value} {I : Im} {J : Jm} {R : Rm} {K K' : List Value → Im → Jm → Rm → Prop} (hK : ∀ r I J R, K r I J R → K' r I J R) (h : fpt n ph ci k kd of st I J R K) : fpt n ph ci k kd of st I J R K' := by
  rcases kd with _ | _ | _ | _ | _ | kd
  · exact sRI_m (fun o x r => cond_m (hK _ _ _ _) id) h
  · exact sRI_m (fun o x r => cond_m (and_m (hK _ _ _ _)) id) h
  · exact sRL_m (fun o x r => cond_m (hK _ _ _ _) id) h
  · exact sRR_m (fun o x r => cond_m (and_m (hK _ _ _ _)) id) h
  · exact sRR_m (fun o x r => cond_m (cond_m id (cond_m (hK _ _ _ _) id)) id) h
  · exact h
set_option maxHeartbeats 4000000 in
theorem stI_m {M : Mc} (hM : Mono M) {ph isl : Bool} {L : Nat} {xs : Nat → Int32} {rk nend : Nat} {Q Q' : Nat → Qt} (hQ : ∀ n x y I J R, Q n x y I J R → Q' n x y I J R) {K K' : Kt} (hK : ∀ pc n lv st I J R, K pc n lv st I J R → K' pc n lv st I J R) {pc : Nat} {ax : List Nat} {ks : List Int32} {lz : Int64} {n : Nat} {lv : Lv} {st : List Value} {I : Im} {J : Jm} {R : Rm} (i : Jvm.ClassFile.Instr) (h : stI M ph isl L xs rk nend Q K pc ax ks lz n lv st I J R i) : stI M ph isl L xs rk nend Q' K' pc ax ks lz n lv st I J R i := by
  have k0 : ∀ {pc n lv st I J R}, K pc n lv st I J R → K' pc n lv st I J R := fun h => hK _ _ _ _ _ _ _ h
  cases i with
  | iconst _ =>
    exact k0 h
  | bipush _ =>
    exact k0 h
  | sipush _ =>
    exact k0 h
  | ldc _ =>
    exact k0 h
  | ldc_w _ =>
    exact k0 h
  | ldc2_w _ =>
    exact k0 h
  | lconst _ =>
    exact k0 h
  | goto _ =>
    exact k0 h
  | iload_n _ =>
    exact lI_m (fun x => k0) h
  | iload _ =>
    exact lI_m (fun x => k0) h
  | lload_n _ =>
    exact lL_m (fun x => k0) h
  | lload _ =>
    exact lL_m (fun x => k0) h
  | aload_n _ =>
    exact lR_m (fun x => k0) h
  | aload _ =>
    exact lR_m (fun x => k0) h
  | istore_n _ =>
    exact sI_m (fun x r => k0) h
  | istore _ =>
    exact sI_m (fun x r => k0) h
  | lstore_n _ =>
    exact sL_m (fun x r => k0) h
  | lstore _ =>
    exact sL_m (fun x r => k0) h
  | astore_n _ =>
    exact sR_m (fun x r => k0) h
  | astore _ =>
    exact sR_m (fun x r => k0) h
  | iinc _ _ =>
    exact lI_m (fun x => k0) h
  | iadd =>
    exact sII_m (fun x y r => k0) h
  | isub =>
    exact sII_m (fun x y r => k0) h
  | imul =>
    exact sII_m (fun x y r => k0) h
  | iand =>
    exact sII_m (fun x y r => k0) h
  | ior =>
    exact sII_m (fun x y r => k0) h
  | ixor =>
    exact sII_m (fun x y r => k0) h
  | ishl =>
    exact sII_m (fun x y r => k0) h
  | ishr =>
    exact sII_m (fun x y r => k0) h
  | iushr =>
    exact sII_m (fun x y r => k0) h
  | idiv =>
    exact sII_m (fun x y r => and_m k0) h
  | irem =>
    exact sII_m (fun x y r => and_m k0) h
  | ladd =>
    exact sLL_m (fun x y r => k0) h
  | lsub =>
    exact sLL_m (fun x y r => k0) h
  | lmul =>
    exact sLL_m (fun x y r => k0) h
  | land =>
    exact sLL_m (fun x y r => k0) h
  | lor =>
    exact sLL_m (fun x y r => k0) h
  | lcmp =>
    exact sLL_m (fun x y r => k0) h
  | ldiv =>
    exact sLL_m (fun x y r => and_m k0) h
  | lrem =>
    exact sLL_m (fun x y r => and_m k0) h
  | lneg =>
    exact sL_m (fun x r => k0) h
  | l2i =>
    exact sL_m (fun x r => k0) h
  | pop2 =>
    exact sL_m (fun x r => k0) h
  | lshl =>
    exact sLI_m (fun x y r => k0) h
  | i2l =>
    exact sI_m (fun x r => k0) h
  | i2b =>
    exact sI_m (fun x r => k0) h
  | i2s =>
    exact sI_m (fun x r => k0) h
  | dup =>
    unfold stI at h ⊢
    dsimp only at h ⊢
    split at h
    · exact k0 h
    · exact k0 h
    · exact h.elim
  | pop =>
    unfold stI at h ⊢
    dsimp only at h ⊢
    split at h
    · exact k0 h
    · exact k0 h
    · exact h.elim
  | dup2 =>
    unfold stI at h ⊢
    dsimp only at h ⊢
    split at h
    · exact k0 h
    · exact h.elim
  | ifCond _ _ =>
    exact sI_m (fun x r => icz_m k0 k0) h
  | if_icmp _ _ =>
    exact sII_m (fun x y r => icc_m k0 k0) h
  | tableswitch _ _ _ _ =>
    exact sI_m (fun x r => swT_m (fun t => k0) k0 _ _ _) h
  | lookupswitch _ _ =>
    exact sI_m (fun x r => swT_m (fun t => k0) k0 _ _ _) h
  | getfield _ =>
    unfold stI at h ⊢
    dsimp only at h ⊢
    split at h
    · exact fgt_m (fun r => k0) h
    · exact h.elim
  | putfield _ =>
    unfold stI at h ⊢
    dsimp only at h ⊢
    split at h
    · exact fpt_m (fun r I J R => k0) h
    · exact h.elim
  | iaload =>
    exact sRI_m (fun a x r => cond_m (and_m k0) (cond_m (and_m k0) id)) h
  | baload =>
    exact sRI_m (fun a x r => cond_m (and_m k0) id) h
  | laload =>
    exact sRI_m (fun a x r => cond_m (and_m k0) id) h
  | aaload =>
    unfold stI at h ⊢
    dsimp only at h ⊢
    split at h
    · exact sRI_m (fun a x r => cond_m (and_m (and_m k0)) id) h
    · exact h.elim
  | iastore =>
    exact sRII_m (fun a i x r => cond_m (and_m k0) id) h
  | bastore =>
    exact sRII_m (fun a i x r => cond_m (and_m k0) id) h
  | lastore =>
    exact sRIL_m (fun a i x r => cond_m (and_m k0) id) h
  | aastore =>
    unfold stI at h ⊢
    dsimp only at h ⊢
    split at h
    · exact sRIR_m (fun a i x r => cond_m (and_m k0) id) h
    · exact h.elim
  | arraylength =>
    exact sR_m (fun a r => cond_m k0 (cond_m k0 (cond_m k0 id))) h
  | new _ =>
    unfold stI at h ⊢
    dsimp only at h ⊢
    split at h
    · exact cond_m k0 id h
    · exact h.elim
  | newarray _ =>
    unfold stI at h ⊢
    dsimp only at h ⊢
    split at h
    · exact sI_m (fun x r => cond_m (and_m k0) id) h
    · exact h.elim
  | anewarray _ =>
    unfold stI at h ⊢
    dsimp only at h ⊢
    split at h
    · exact sI_m (fun x r => cond_m (and_m k0) id) h
    · exact h.elim
  | invokevirtual _ =>
    unfold stI at h ⊢
    dsimp only at h ⊢
    split at h
    · exact cond_m (cal_m hM hK) id h
    · exact h.elim
  | invokespecial _ =>
    unfold stI at h ⊢
    dsimp only at h ⊢
    split at h
    · exact cond_m (cal_m hM hK) id h
    · exact sR_m (fun a r => cond_m k0 id) h
    · exact h.elim
  | invokestatic _ =>
    unfold stI at h ⊢
    dsimp only at h ⊢
    split at h
    · exact cond_m (cal_m hM hK) id h
    · try dsimp only at h ⊢
      split at h
      · exact sCpy_m (fun a sp a1 dp n r => cond_m (and_m k0) id) h
      · exact sCpy_m (fun a sp a1 dp n r => cond_m (and_m k0) id) h
      · exact sII_m (fun x y r => cond_m k0 id) h
      · exact sII_m (fun x y r => cond_m k0 id) h
      · exact sL_m (fun x r => cond_m k0 id) h
      · exact h.elim
    · exact h.elim
  | return_ =>
    refine cond_m (fun h => ?_) id h
    try dsimp only at h ⊢
    split at h
    · exact hQ _ _ _ _ _ _ h
    · exact h.elim
  | lreturn =>
    refine cond_m (fun h => ?_) id h
    try dsimp only at h ⊢
    split at h
    · exact hQ _ _ _ _ _ _ h
    · exact h.elim
  | ireturn =>
    refine cond_m (fun h => ?_) (cond_m (fun h => ?_) id) h
    · try dsimp only at h ⊢
      split at h
      · exact hQ _ _ _ _ _ _ h
      · exact h.elim
    · try dsimp only at h ⊢
      split at h
      · exact ⟨h.1, hQ _ _ _ _ _ _ h.2⟩
      · exact h.elim
  | _ => exact h.elim
theorem AW_m {M : Mc} (hM : Mono M) {ph isl : Bool} {L : Nat} {xs : Nat → Int32} {rk nend : Nat} {code : List En} {Q Q' : Nat → Qt} (hQ : ∀ n x y I J R, Q n x y I J R → Q' n x y I J R) {pc n : Nat} {lv : Lv} {st : List Value} {I : Im} {J : Jm} {R : Rm} (h : AW M ph isl L xs rk nend code Q pc n lv st I J R) : AW M ph isl L xs rk nend code Q' pc n lv st I J R :=
  fun P hP => h P ⟨fun e he n lv st I J R hs => hP.1 e he n lv st I J R (stI_m hM hQ (fun _ _ _ _ _ _ _ q => q) _ hs), hP.2⟩
theorem AM_m : ∀ d, Mono (AM d)
  | 0 => fun _ _ _ _ _ _ _ _ _ h => h.elim
  | d + 1 => fun mi n as I J R Q Q' hQ h => by
    unfold AM at h ⊢
    refine cond_m (cond_m (fun h => ?_) id) (and_m (AW_m (AM_m d) (fun n x y I J R q => ⟨q.1, q.2.1, hQ _ _ _ _ _ q.2.2⟩))) h
    obtain ⟨o, h1, h2, h3, h4⟩ := h
    exact ⟨o, h1, h2, h3, fun I' J' R' a1 a2 a3 a4 => hQ _ _ _ _ _ (h4 I' J' R' a1 a2 a3 a4)⟩
theorem drp_spec {code : List En} {pc : Nat} : ∀ {e : En} {r : List En}, drp code pc = e :: r → e.1 = pc ∧ ∀ x ∈ e :: r, x ∈ code := by
  induction code with
  | nil => intro e r h; cases h
  | cons a t ih =>
    intro e r h
    unfold drp at h
    cases hb : Nat.beq a.1 pc with
    | true =>
      rw [hb] at h
      cases h
      exact ⟨Nat.eq_of_beq_eq_true hb, fun x hx => hx⟩
    | false =>
      rw [hb] at h
      obtain ⟨h1, h2⟩ := ih h
      exact ⟨h1, fun x hx => List.mem_cons_of_mem _ (h2 x hx)⟩
theorem run_P {M : Mc} (hM : Mono M) {ph isl : Bool} {L : Nat} {xs : Nat → Int32} {rk nend : Nat} {Q : Nat → Qt} {P : Kt} {code : List En} (hP : Cl M ph isl L xs rk nend code Q P) {stops : List (Nat × List Nat)} : ∀ (k : Nat) (e : En) (rest : List En), (∀ x ∈ e :: rest, x ∈ code) → ∀ (n : Nat) (lv : Lv) (st : List Value) (I : Im) (J : Jm) (R : Rm), runS M ph isl L xs rk nend Q P code stops k (e :: rest) n lv st I J R → P e.1 n lv st I J R
  | 0, _, _, _, _, _, _, _, _, _, h => h.elim
  | k + 1, e, rest, hs, n, lv, st, I, J, R, h => by
    unfold runS at h
    refine hP.1 e (hs e List.mem_cons_self) n lv st I J R (stI_m hM (fun _ _ _ _ _ _ q => q) (fun pc' n' lv' st' I' J' R' q => ?_) _ (stF_i h))
    split at q
    · exact hP.2 _ _ _ _ _ _ _ _ q
    · have aux : ∀ s : List En, (∀ x ∈ s, x ∈ code) → (∀ e2 r2, s = e2 :: r2 → e2.1 = pc') → runS M ph isl L xs rk nend Q P code stops k s n' lv' st' I' J' R' → P pc' n' lv' st' I' J' R' := by
        intro s h1 h2 h3
        cases s with
        | nil => cases k <;> exact h3.elim
        | cons e2 r2 =>
          have := run_P hM hP k e2 r2 h1 n' lv' st' I' J' R' h3
          rwa [h2 e2 r2 rfl] at this
      have drps : ∀ e2 r2, drp code pc' = e2 :: r2 → e2.1 = pc' := fun e2 r2 h => (drp_spec h).1
      have drpm : ∀ x ∈ drp code pc', x ∈ code := by
        intro x hx
        cases hd : drp code pc' with
        | nil => rw [hd] at hx; cases hx
        | cons e2 r2 => rw [hd] at hx; exact (drp_spec hd).2 x hx
      refine aux _ ?_ ?_ q
      · split
        · exact drpm
        · rename_i e2 r2
          cases hb : Nat.beq e2.1 pc' with
          | true => exact fun x hx => hs x (List.mem_cons_of_mem _ hx)
          | false => exact drpm
      · split
        · exact drps
        · rename_i e2 r2
          cases hb : Nat.beq e2.1 pc' with
          | true => intro e3 r3 h; cases h; exact Nat.eq_of_beq_eq_true hb
          | false => exact drps
theorem run_at {M : Mc} (hM : Mono M) {ph isl : Bool} {L : Nat} {xs : Nat → Int32} {rk nend : Nat} {Q : Nat → Qt} {P : Kt} {code : List En} (hP : Cl M ph isl L xs rk nend code Q P) {stops : List (Nat × List Nat)} {k pc n : Nat} {lv : Lv} {st : List Value} {I : Im} {J : Jm} {R : Rm} (h : runS M ph isl L xs rk nend Q P code stops k (drp code pc) n lv st I J R) : P pc n lv st I J R := by
  cases hd : drp code pc with
  | nil => rw [hd] at h; cases k <;> exact h.elim
  | cons e r =>
    rw [hd] at h
    have := run_P hM hP k e r (drp_spec hd).2 n lv st I J R h
    rwa [(drp_spec hd).1] at this
