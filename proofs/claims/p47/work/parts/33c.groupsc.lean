section PT4x1
theorem Sub.p {a c : Lv} (h : Sub a c) {i : Nat} {v : Value} (hv : ¬ v = .null) : Sub (lpt a i v) (lpt c i v) := h.fl hv (fun q hq => by
  rw [Bool.and_eq_true] at hq
  simpa using hq.1)
theorem Sub.p2 {a c : Lv} (h : Sub a c) {i : Nat} {v : Value} (hv : ¬ v = .null) : Sub (lpt2 a i v) (lpt2 c i v) := h.fl hv (fun q hq => by
  rw [Bool.and_eq_true] at hq
  simpa using hq.1)
theorem cond_2 {b : Bool} {p p' p'' q q' q'' : Prop} (k1 : p → p' → p'') (k2 : q → q' → q'') (h : bif b then p else q) (h2 : bif b then p' else q') : bif b then p'' else q'' := by
  cases b
  · exact k2 h h2
  · exact k1 h h2
theorem f_2 {q : Prop} (h : False) (_ : False) : q := h.elim
theorem and_2 {a b b' b'' : Prop} (k : b → b' → b'') (h : a ∧ b) (h2 : a ∧ b') : a ∧ b'' := ⟨h.1, k h.2 h2.2⟩
theorem sI_2 {st : List Value} {f g k : Int32 → List Value → Prop} (hm : ∀ x r, f x r → g x r → k x r) (h : sI st f) (h2 : sI st g) : sI st k := by
  unfold sI at h h2 ⊢
  split at h
  · exact hm _ _ h h2
  · exact h.elim
theorem sII_2 {st : List Value} {f g k : Int32 → Int32 → List Value → Prop} (hm : ∀ x y r, f x y r → g x y r → k x y r) (h : sII st f) (h2 : sII st g) : sII st k := by
  unfold sII at h h2 ⊢
  split at h
  · exact hm _ _ _ h h2
  · exact h.elim
theorem sL_2 {st : List Value} {f g k : Int64 → List Value → Prop} (hm : ∀ x r, f x r → g x r → k x r) (h : sL st f) (h2 : sL st g) : sL st k := by
  unfold sL at h h2 ⊢
  split at h
  · exact hm _ _ h h2
  · exact h.elim
theorem sLL_2 {st : List Value} {f g k : Int64 → Int64 → List Value → Prop} (hm : ∀ x y r, f x y r → g x y r → k x y r) (h : sLL st f) (h2 : sLL st g) : sLL st k := by
  unfold sLL at h h2 ⊢
  split at h
  · exact hm _ _ _ h h2
  · exact h.elim
theorem sLI_2 {st : List Value} {f g k : Int64 → Int32 → List Value → Prop} (hm : ∀ x y r, f x y r → g x y r → k x y r) (h : sLI st f) (h2 : sLI st g) : sLI st k := by
  unfold sLI at h h2 ⊢
  split at h
  · exact hm _ _ _ h h2
  · exact h.elim
theorem sR_2 {st : List Value} {f g k : Nat → List Value → Prop} (hm : ∀ a r, f a r → g a r → k a r) (h : sR st f) (h2 : sR st g) : sR st k := by
  unfold sR at h h2 ⊢
  split at h
  · exact hm _ _ h h2
  · exact h.elim
theorem sRI_2 {st : List Value} {f g k : Nat → Int32 → List Value → Prop} (hm : ∀ a x r, f a x r → g a x r → k a x r) (h : sRI st f) (h2 : sRI st g) : sRI st k := by
  unfold sRI at h h2 ⊢
  split at h
  · exact hm _ _ _ h h2
  · exact h.elim
theorem sRL_2 {st : List Value} {f g k : Nat → Int64 → List Value → Prop} (hm : ∀ a x r, f a x r → g a x r → k a x r) (h : sRL st f) (h2 : sRL st g) : sRL st k := by
  unfold sRL at h h2 ⊢
  split at h
  · exact hm _ _ _ h h2
  · exact h.elim
theorem sRR_2 {st : List Value} {f g k : Nat → Nat → List Value → Prop} (hm : ∀ a v r, f a v r → g a v r → k a v r) (h : sRR st f) (h2 : sRR st g) : sRR st k := by
  unfold sRR at h h2 ⊢
  split at h
  · exact hm _ _ _ h h2
  · exact h.elim
theorem sRII_2 {st : List Value} {f g k : Nat → Int32 → Int32 → List Value → Prop} (hm : ∀ a i x r, f a i x r → g a i x r → k a i x r) (h : sRII st f) (h2 : sRII st g) : sRII st k := by
  unfold sRII at h h2 ⊢
  split at h
  · exact hm _ _ _ _ h h2
  · exact h.elim
theorem sRIL_2 {st : List Value} {f g k : Nat → Int32 → Int64 → List Value → Prop} (hm : ∀ a i x r, f a i x r → g a i x r → k a i x r) (h : sRIL st f) (h2 : sRIL st g) : sRIL st k := by
  unfold sRIL at h h2 ⊢
  split at h
  · exact hm _ _ _ _ h h2
  · exact h.elim
theorem sRIR_2 {st : List Value} {f g k : Nat → Int32 → Nat → List Value → Prop} (hm : ∀ a i v r, f a i v r → g a i v r → k a i v r) (h : sRIR st f) (h2 : sRIR st g) : sRIR st k := by
  unfold sRIR at h h2 ⊢
  split at h
  · exact hm _ _ _ _ h h2
  · exact h.elim
theorem sCpy_2 {st : List Value} {f g k : Nat → Int32 → Nat → Int32 → Int32 → List Value → Prop} (hm : ∀ a sp a1 dp n r, f a sp a1 dp n r → g a sp a1 dp n r → k a sp a1 dp n r) (h : sCpy st f) (h2 : sCpy st g) : sCpy st k := by
  unfold sCpy at h h2 ⊢
  split at h
  · exact hm _ _ _ _ _ _ h h2
  · exact h.elim
theorem lI_2 {a b c : Lv} {i : Nat} {f g k : Int32 → Prop} (ha : Sub a c) (hb : Sub b c) (hm : ∀ x, f x → g x → k x) (h : lI a i f) (h2 : lI b i g) : lI c i k := by
  unfold lI at h h2 ⊢
  split at h
  · rename_i x e
    split at h2
    · rename_i y e2
      have e3 := ha.g e (by intro q; cases q)
      have e4 := hb.g e2 (by intro q; cases q)
      rw [e3] at e4 ⊢
      cases e4
      exact hm _ h h2
    · exact h2.elim
  · exact h.elim
theorem lL_2 {a b c : Lv} {i : Nat} {f g k : Int64 → Prop} (ha : Sub a c) (hb : Sub b c) (hm : ∀ x, f x → g x → k x) (h : lL a i f) (h2 : lL b i g) : lL c i k := by
  unfold lL at h h2 ⊢
  split at h
  · rename_i x e
    split at h2
    · rename_i y e2
      have e3 := ha.g e (by intro q; cases q)
      have e4 := hb.g e2 (by intro q; cases q)
      rw [e3] at e4 ⊢
      cases e4
      exact hm _ h h2
    · exact h2.elim
  · exact h.elim
theorem lR_2 {a b c : Lv} {i : Nat} {f g k : Nat → Prop} (ha : Sub a c) (hb : Sub b c) (hm : ∀ x, f x → g x → k x) (h : lR a i f) (h2 : lR b i g) : lR c i k := by
  unfold lR at h h2 ⊢
  split at h
  · rename_i x e
    split at h2
    · rename_i y e2
      have e3 := ha.g e (by intro q; cases q)
      have e4 := hb.g e2 (by intro q; cases q)
      rw [e3] at e4 ⊢
      cases e4
      exact hm _ h h2
    · exact h2.elim
  · exact h.elim
theorem icz_2 {c : Jvm.ClassFile.Cond} {x : Int32} {T F T1 F1 T2 F2 : Prop} (k1 : T → T1 → T2) (k2 : F → F1 → F2) (h : icz c x T F) (g : icz c x T1 F1) : icz c x T2 F2 := by
  cases c <;> exact ⟨fun q => by first | exact k1 (h.1 q) (g.1 q) | exact k2 (h.1 q) (g.1 q), fun q => by first | exact k1 (h.2 q) (g.2 q) | exact k2 (h.2 q) (g.2 q)⟩
theorem icc_2 {c : Jvm.ClassFile.Cond} {x y : Int32} {T F T1 F1 T2 F2 : Prop} (k1 : T → T1 → T2) (k2 : F → F1 → F2) (h : icc c x y T F) (g : icc c x y T1 F1) : icc c x y T2 F2 := by
  cases c <;> exact ⟨fun q => by first | exact k1 (h.1 q) (g.1 q) | exact k2 (h.1 q) (g.1 q), fun q => by first | exact k1 (h.2 q) (g.2 q) | exact k2 (h.2 q) (g.2 q)⟩
theorem swT_2 {T T1 T2 : Nat → Prop} {d d1 d2 : Prop} (k1 : ∀ t, T t → T1 t → T2 t) (k2 : d → d1 → d2) : ∀ (ks : List Int32) (ts : List Nat) (x : Int32), swT ks ts x T d → swT ks ts x T1 d1 → swT ks ts x T2 d2
  | [], _, _, h, g => k2 h g
  | _ :: _, [], _, h, g => k2 h g
  | _ :: ks, _ :: ts, x, h, g => ⟨fun q => k1 _ (h.1 q) (g.1 q), fun q => swT_2 k1 k2 ks ts x (h.2 q) (g.2 q)⟩
theorem bf_2 {rk : Nat} {x : Int32} {P P1 P2 : Prop} (k : P → P1 → P2) (h : bf rk x P) (g : bf rk x P1) : bf rk x P2 := cond_2 (fun q1 q2 z => k (q1 z) (q2 z)) k h g
/-- what holds of a run by two ways holds at once -/
noncomputable def Conj (M : Mc) : Prop := ∀ (mi n : Nat) (as : List Value) (I : Im) (J : Jm) (R : Rm) (Q Q1 Q2 : Qt), (∀ x y I J R, Q x y I J R → Q1 x y I J R → Q2 x y I J R) → M mi n as I J R Q → M mi n as I J R Q1 → M mi n as I J R Q2
theorem cal_2 {M : Mc} (hM : Conj M) {ph : Bool} {nend : Nat} {K K1 K2 : Kt} {a b c : Lv} (hK : ∀ pc n st I J R, K pc n a st I J R → K1 pc n b st I J R → K2 pc n c st I J R) {pc n : Nat} {st : List Value} {I : Im} {J : Jm} {R : Rm} {kind mi na rk al ci ph1 kr : Nat} (h : cal M ph nend K pc n a st I J R kind mi na rk al ci ph1 kr) (g : cal M ph nend K1 pc n b st I J R kind mi na rk al ci ph1 kr) : cal M ph nend K2 pc n c st I J R kind mi na rk al ci ph1 kr :=
  cond_2 (cond_2 (and_2 (hM _ _ _ _ _ _ _ _ _ (fun x y I J R => bf_2 (hK _ _ _ _ _ _)))) (hM _ _ _ _ _ _ _ _ _ (fun x y I J R => bf_2 (hK _ _ _ _ _ _)))) f_2 h g
theorem fgt_2 {n : Nat} {ph : Bool} {ci k kd of : Nat} {st : List Value} {I : Im} {J : Jm} {R : Rm} {K K1 K2 : List Value → Prop} (hK : ∀ r, K r → K1 r → K2 r) (h : fgt n ph ci k kd of st I J R K) (g : fgt n ph ci k kd of st I J R K1) : fgt n ph ci k kd of st I J R K2 := by
  refine sR_2 (fun o r => cond_2 (fun q q2 => ?_) f_2) h g
  rcases kd with _ | _ | _ | _ | _ | kd
  · exact hK _ q q2
  · exact hK _ q q2
  · exact hK _ q q2
  · exact and_2 (hK _) q q2
  · exact cond_2 (hK _) (and_2 (hK _)) q q2
  · exact q
theorem fpt_2 {n : Nat} {ph : Bool} {ci k kd of : Nat} {st : List Value} {I : Im} {J : Jm} {R : Rm} {K K1 K2 : List Value → Im → Jm → Rm → Prop} (hK : ∀ r I J R, K r I J R → K1 r I J R → K2 r I J R) (h : fpt n ph ci k kd of st I J R K) (g : fpt n ph ci k kd of st I J R K1) : fpt n ph ci k kd of st I J R K2 := by
  rcases kd with _ | _ | _ | _ | _ | kd
  · exact sRI_2 (fun o x r => cond_2 (hK _ _ _ _) f_2) h g
  · exact sRI_2 (fun o x r => cond_2 (and_2 (hK _ _ _ _)) f_2) h g
  · exact sRL_2 (fun o x r => cond_2 (hK _ _ _ _) f_2) h g
  · exact sRR_2 (fun o x r => cond_2 (and_2 (hK _ _ _ _)) f_2) h g
  · exact sRR_2 (fun o x r => cond_2 (cond_2 f_2 (cond_2 (hK _ _ _ _) f_2)) f_2) h g
  · exact h
set_option maxHeartbeats 4000000 in
theorem stI_2 {M : Mc} (hM : Conj M) {ph isl : Bool} {L : Nat} {xs : Nat → Int32} {rk nend : Nat} {Q Q1 Q2 : Nat → Qt} (hQ : ∀ n x y I J R, Q n x y I J R → Q1 n x y I J R → Q2 n x y I J R) {K K1 K2 : Kt} (hK : ∀ pc n a b c st I J R, Sub a c → Sub b c → K pc n a st I J R → K1 pc n b st I J R → K2 pc n c st I J R) {pc : Nat} {ax : List Nat} {ks : List Int32} {lz : Int64} {n : Nat} {a b c : Lv} (ha : Sub a c) (hb : Sub b c) {st : List Value} {I : Im} {J : Jm} {R : Rm} (i : Jvm.ClassFile.Instr) (h : stI M ph isl L xs rk nend Q K pc ax ks lz n a st I J R i) (g : stI M ph isl L xs rk nend Q1 K1 pc ax ks lz n b st I J R i) : stI M ph isl L xs rk nend Q2 K2 pc ax ks lz n c st I J R i := by
  have k0 : ∀ {pc n st I J R}, K pc n a st I J R → K1 pc n b st I J R → K2 pc n c st I J R := fun h g => hK _ _ _ _ _ _ _ _ _ ha hb h g
  cases i with
  | iconst _ =>
    exact k0 h g
  | bipush _ =>
    exact k0 h g
  | sipush _ =>
    exact k0 h g
  | ldc _ =>
    exact k0 h g
  | ldc_w _ =>
    exact k0 h g
  | ldc2_w _ =>
    exact k0 h g
  | lconst _ =>
    exact k0 h g
  | goto _ =>
    exact k0 h g
  | iload_n _ =>
    exact lI_2 ha hb (fun x => k0) h g
  | iload _ =>
    exact lI_2 ha hb (fun x => k0) h g
  | lload_n _ =>
    exact lL_2 ha hb (fun x => k0) h g
  | lload _ =>
    exact lL_2 ha hb (fun x => k0) h g
  | aload_n _ =>
    exact lR_2 ha hb (fun x => k0) h g
  | aload _ =>
    exact lR_2 ha hb (fun x => k0) h g
  | istore_n _ =>
    exact sI_2 (fun x r => hK _ _ _ _ _ _ _ _ _ (ha.p (by intro q; cases q)) (hb.p (by intro q; cases q))) h g
  | istore _ =>
    exact sI_2 (fun x r => hK _ _ _ _ _ _ _ _ _ (ha.p (by intro q; cases q)) (hb.p (by intro q; cases q))) h g
  | lstore_n _ =>
    exact sL_2 (fun x r => hK _ _ _ _ _ _ _ _ _ (ha.p2 (by intro q; cases q)) (hb.p2 (by intro q; cases q))) h g
  | lstore _ =>
    exact sL_2 (fun x r => hK _ _ _ _ _ _ _ _ _ (ha.p2 (by intro q; cases q)) (hb.p2 (by intro q; cases q))) h g
  | astore_n _ =>
    exact sR_2 (fun x r => hK _ _ _ _ _ _ _ _ _ (ha.p (by intro q; cases q)) (hb.p (by intro q; cases q))) h g
  | astore _ =>
    exact sR_2 (fun x r => hK _ _ _ _ _ _ _ _ _ (ha.p (by intro q; cases q)) (hb.p (by intro q; cases q))) h g
  | iinc _ _ =>
    exact lI_2 ha hb (fun x => hK _ _ _ _ _ _ _ _ _ (ha.p (by intro q; cases q)) (hb.p (by intro q; cases q))) h g
  | iadd =>
    exact sII_2 (fun x y r => k0) h g
  | isub =>
    exact sII_2 (fun x y r => k0) h g
  | imul =>
    exact sII_2 (fun x y r => k0) h g
  | iand =>
    exact sII_2 (fun x y r => k0) h g
  | ior =>
    exact sII_2 (fun x y r => k0) h g
  | ixor =>
    exact sII_2 (fun x y r => k0) h g
  | ishl =>
    exact sII_2 (fun x y r => k0) h g
  | ishr =>
    exact sII_2 (fun x y r => k0) h g
  | iushr =>
    exact sII_2 (fun x y r => k0) h g
  | idiv =>
    exact sII_2 (fun x y r => and_2 k0) h g
  | irem =>
    exact sII_2 (fun x y r => and_2 k0) h g
  | ladd =>
    exact sLL_2 (fun x y r => k0) h g
  | lsub =>
    exact sLL_2 (fun x y r => k0) h g
  | lmul =>
    exact sLL_2 (fun x y r => k0) h g
  | land =>
    exact sLL_2 (fun x y r => k0) h g
  | lor =>
    exact sLL_2 (fun x y r => k0) h g
  | lcmp =>
    exact sLL_2 (fun x y r => k0) h g
  | ldiv =>
    exact sLL_2 (fun x y r => and_2 k0) h g
  | lrem =>
    exact sLL_2 (fun x y r => and_2 k0) h g
  | lneg =>
    exact sL_2 (fun x r => k0) h g
  | l2i =>
    exact sL_2 (fun x r => k0) h g
  | pop2 =>
    exact sL_2 (fun x r => k0) h g
  | lshl =>
    exact sLI_2 (fun x y r => k0) h g
  | i2l =>
    exact sI_2 (fun x r => k0) h g
  | i2b =>
    exact sI_2 (fun x r => k0) h g
  | i2s =>
    exact sI_2 (fun x r => k0) h g
  | dup =>
    unfold stI at h g ⊢
    dsimp only at h g ⊢
    split at h
    · exact k0 h g
    · exact k0 h g
    · exact h.elim
  | pop =>
    unfold stI at h g ⊢
    dsimp only at h g ⊢
    split at h
    · exact k0 h g
    · exact k0 h g
    · exact h.elim
  | dup2 =>
    unfold stI at h g ⊢
    dsimp only at h g ⊢
    split at h
    · exact k0 h g
    · exact h.elim
  | ifCond _ _ =>
    exact sI_2 (fun x r => icz_2 k0 k0) h g
  | if_icmp _ _ =>
    exact sII_2 (fun x y r => icc_2 k0 k0) h g
  | tableswitch _ _ _ _ =>
    exact sI_2 (fun x r => swT_2 (fun t => k0) k0 _ _ _) h g
  | lookupswitch _ _ =>
    exact sI_2 (fun x r => swT_2 (fun t => k0) k0 _ _ _) h g
  | getfield _ =>
    unfold stI at h g ⊢
    dsimp only at h g ⊢
    split at h
    · exact fgt_2 (fun r => k0) h g
    · exact h.elim
  | putfield _ =>
    unfold stI at h g ⊢
    dsimp only at h g ⊢
    split at h
    · exact fpt_2 (fun r I J R => k0) h g
    · exact h.elim
  | iaload =>
    exact sRI_2 (fun a x r => cond_2 (and_2 k0) (cond_2 (and_2 k0) f_2)) h g
  | baload =>
    exact sRI_2 (fun a x r => cond_2 (and_2 k0) f_2) h g
  | laload =>
    exact sRI_2 (fun a x r => cond_2 (and_2 k0) f_2) h g
  | aaload =>
    unfold stI at h g ⊢
    dsimp only at h g ⊢
    split at h
    · exact sRI_2 (fun a x r => cond_2 (and_2 (and_2 k0)) f_2) h g
    · exact h.elim
  | iastore =>
    exact sRII_2 (fun a i x r => cond_2 (and_2 k0) f_2) h g
  | bastore =>
    exact sRII_2 (fun a i x r => cond_2 (and_2 k0) f_2) h g
  | lastore =>
    exact sRIL_2 (fun a i x r => cond_2 (and_2 k0) f_2) h g
  | aastore =>
    unfold stI at h g ⊢
    dsimp only at h g ⊢
    split at h
    · exact sRIR_2 (fun a i x r => cond_2 (and_2 k0) f_2) h g
    · exact h.elim
  | arraylength =>
    exact sR_2 (fun a r => cond_2 k0 (cond_2 k0 (cond_2 k0 f_2))) h g
  | new _ =>
    unfold stI at h g ⊢
    dsimp only at h g ⊢
    split at h
    · exact cond_2 k0 f_2 h g
    · exact h.elim
  | newarray _ =>
    unfold stI at h g ⊢
    dsimp only at h g ⊢
    split at h
    · exact sI_2 (fun x r => cond_2 (and_2 k0) f_2) h g
    · exact h.elim
  | anewarray _ =>
    unfold stI at h g ⊢
    dsimp only at h g ⊢
    split at h
    · exact sI_2 (fun x r => cond_2 (and_2 k0) f_2) h g
    · exact h.elim
  | invokevirtual _ =>
    unfold stI at h g ⊢
    dsimp only at h g ⊢
    split at h
    · exact cond_2 (cal_2 hM (fun _ _ _ _ _ _ => k0)) f_2 h g
    · exact h.elim
  | invokespecial _ =>
    unfold stI at h g ⊢
    dsimp only at h g ⊢
    split at h
    · exact cond_2 (cal_2 hM (fun _ _ _ _ _ _ => k0)) f_2 h g
    · exact sR_2 (fun a r => cond_2 k0 f_2) h g
    · exact h.elim
  | invokestatic _ =>
    unfold stI at h g ⊢
    dsimp only at h g ⊢
    split at h
    · exact cond_2 (cal_2 hM (fun _ _ _ _ _ _ => k0)) f_2 h g
    · try dsimp only at h g ⊢
      split at h
      · exact sCpy_2 (fun a sp a1 dp n r => cond_2 (and_2 k0) f_2) h g
      · exact sCpy_2 (fun a sp a1 dp n r => cond_2 (and_2 k0) f_2) h g
      · exact sII_2 (fun x y r => cond_2 k0 f_2) h g
      · exact sII_2 (fun x y r => cond_2 k0 f_2) h g
      · exact sL_2 (fun x r => cond_2 k0 f_2) h g
      · exact h.elim
    · exact h.elim
  | return_ =>
    refine cond_2 (fun h g => ?_) f_2 h g
    try dsimp only at h g ⊢
    split at h
    · exact hQ _ _ _ _ _ _ h g
    · exact h.elim
  | lreturn =>
    refine cond_2 (fun h g => ?_) f_2 h g
    try dsimp only at h g ⊢
    split at h
    · exact hQ _ _ _ _ _ _ h g
    · exact h.elim
  | ireturn =>
    refine cond_2 (fun h g => ?_) (cond_2 (fun h g => ?_) f_2) h g
    · try dsimp only at h g ⊢
      split at h
      · exact hQ _ _ _ _ _ _ h g
      · exact h.elim
    · try dsimp only at h g ⊢
      split at h
      · exact ⟨h.1, hQ _ _ _ _ _ _ h.2 g.2⟩
      · exact h.elim
  | _ => exact h.elim
/-- each place of a code stands once -/
noncomputable def onc : List En → Bool
  | [] => true
  | e :: r => r.all (fun q => Nat.blt e.1 q.1) && onc r
theorem onc_s {code : List En} (h : onc code = true) : ∀ e ∈ code, ∀ q ∈ code, e.1 = q.1 → e = q := by
  induction code with
  | nil => intro e he; cases he
  | cons x r ih =>
    unfold onc at h
    rw [Bool.and_eq_true] at h
    have lt : ∀ q ∈ r, x.1 < q.1 := fun q hq => Nat.le_of_ble_eq_true (List.all_eq_true.mp h.1 q hq)
    intro e he q hq heq
    rcases List.mem_cons.mp he with h1 | h1
    · rcases List.mem_cons.mp hq with h2 | h2
      · rw [h1, h2]
      · have := lt q h2; rw [h1] at heq; omega
    · rcases List.mem_cons.mp hq with h2 | h2
      · have := lt e h1; rw [h2] at heq; omega
      · exact ih h.2 e h1 q h2 heq
theorem AW_st {M : Mc} {ph isl : Bool} {L : Nat} {xs : Nat → Int32} {rk nend : Nat} {code : List En} {Q : Nat → Qt} {n : Nat} {lv : Lv} {st : List Value} {I : Im} {J : Jm} {R : Rm} (hM : Mono M) {e : En} (he : e ∈ code) (h : stI M ph isl L xs rk nend Q (fun pc n lv st I J R => AW M ph isl L xs rk nend code Q pc n lv st I J R) e.1 e.2.2.2.1 e.2.2.2.2.1 e.2.2.2.2.2 n lv st I J R e.2.1) : AW M ph isl L xs rk nend code Q e.1 n lv st I J R := fun P hP => hP.1 e he n lv st I J R (stI_m hM (fun _ _ _ _ _ _ q => q) (fun _ _ _ _ _ _ _ q => q P hP) _ h)
theorem AW_x {M : Mc} (hM : Mono M) (hC : Conj M) {ph isl : Bool} {L : Nat} {xs : Nat → Int32} {rk nend : Nat} {code : List En} {Q : Nat → Qt} {pc n : Nat} {b c : Lv} {st : List Value} {I : Im} {J : Jm} {R : Rm} (h : AW M ph isl L xs rk nend code Q pc n b st I J R) (hbc : Sub b c) : AW M ph isl L xs rk nend code Q pc n c st I J R := by
  refine h (fun pc n b st I J R => ∀ c, Sub b c → AW M ph isl L xs rk nend code Q pc n c st I J R) ⟨fun e he n b st I J R hs c hbc => ?_, fun pc n ks lv st I J R q c hc => q c (hc.k ks)⟩ c hbc
  exact AW_st hM he (stI_2 (K1 := fun pc n b st I J R => ∀ c, Sub b c → AW M ph isl L xs rk nend code Q pc n c st I J R) (Q1 := Q) hC (fun _ _ _ _ _ _ q _ => q) (fun pc n a b c st I J R hac _ k1 _ => k1 c hac) hbc hbc _ hs hs)
end PT4x1
