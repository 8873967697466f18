section PT3x3
theorem AW_p {M : Mc} (hM : Mono M) {pl : List Nat} (hMp : Mkp pl M) {ph isl : Bool} {L : Nat} {xs : Nat → Int32} {rk nend : Nat} {code : List En} (hk : ∀ e ∈ code, pureE pl e.2.1 e.2.2.2.1 = true) {Q : Nat → Qt} {pc n : Nat} {lv : Lv} {st : List Value} {I : Im} {J : Jm} {R : Rm} (h : AW M ph isl L xs rk nend code Q pc n lv st I J R) : AW M ph isl L xs rk nend code (fun n' x y I' J' R' => I' = I ∧ J' = J ∧ R' = R ∧ Q n' x y I' J' R') pc n lv st I J R := by
  intro P hP
  refine h (fun pc n' lv st I' J' R' => I' = I → J' = J → R' = R → P pc n' lv st I' J' R') ⟨fun e he n' lv st I' J' R' hs h1 h2 h3 => ?_, fun pc n' ks lv st I' J' R' q h1 h2 h3 => hP.2 _ _ ks _ _ _ _ _ (q h1 h2 h3)⟩ rfl rfl rfl
  subst h1
  subst h2
  subst h3
  exact hP.1 e he _ lv st _ _ _ (stI_p hM hMp (fun n x y q => ⟨rfl, rfl, rfl, q⟩) (fun pc n lv st q => q rfl rfl rfl) e.2.1 (hk e he) hs)
noncomputable def PuT (pl : List Nat) : Prop := ∀ mi, pl.elem mi = true → Nat.beq mi mReader = false ∧ (mQ mi).1.all (fun e => pureE pl e.2.1 e.2.2.2.1) = true
theorem PuT.of {pl : List Nat} (h : pl.all (fun mi => !Nat.beq mi mReader && (mQ mi).1.all (fun e => pureE pl e.2.1 e.2.2.2.1)) = true) : PuT pl := by
  intro mi hm
  have h1 := List.all_eq_true.mp h mi (List.elem_iff.mp hm)
  simp only [Bool.and_eq_true, Bool.not_eq_true'] at h1
  exact h1
theorem AM_p {pl : List Nat} (hp : PuT pl) : ∀ d, Mkp pl (AM d) := by
  intro d
  induction d with
  | zero => intro mi n as I J R Q hd h; exact h.elim
  | succ d ih =>
    intro mi n as I J R Q hd h
    obtain ⟨c1, c2⟩ := hp mi hd
    unfold AM at h ⊢
    rw [c1] at h ⊢
    exact ⟨h.1, AW_m (AM_m d) (fun n x y I' J' R' q => ⟨q.2.2.2.1, q.2.2.2.2.1, q.1, q.2.1, q.2.2.1, q.2.2.2.2.2⟩) (AW_p (AM_m d) ih (List.all_eq_true.mp c2) h.2)⟩
end PT3x3
section PT3x4
/-! ===== what is not written stays: places of ints, whole arrays ===== -/
noncomputable def kvO (bad : Nat → Bool) (v : Value) : Prop := ∀ a, v = .ref a → bad a = false
noncomputable def kvS (bad : Nat → Bool) (st : List Value) : Prop := ∀ v ∈ st, kvO bad v
noncomputable def kvL (bad : Nat → Bool) (lv : Lv) : Prop := ∀ q ∈ lv, kvO bad q.2
section KVG
variable {bad : Nat → Bool} {st r : List Value} {v : Value} {lv : Lv}
theorem kvO.i {x : Int32} : kvO bad (.int x) := fun _ h => by cases h
theorem kvO.l {x : Int64} : kvO bad (.long x) := fun _ h => by cases h
theorem kvO.rf {a : Nat} (h : bad a = false) : kvO bad (.ref a) := fun b e => by cases e; exact h
theorem kvS.n : kvS bad [] := fun _ h => by cases h
theorem kvS.c (h : kvO bad v) (hr : kvS bad r) : kvS bad (v :: r) := fun w hw => by
  rcases List.mem_cons.mp hw with rfl | hw
  · exact h
  · exact hr w hw
theorem kvS.t (h : kvS bad (v :: r)) : kvS bad r := fun w hw => h w (List.mem_cons_of_mem _ hw)
theorem kvS.a (h : kvS bad (v :: r)) : kvO bad v := h v List.mem_cons_self
theorem kvL.g {i a : Nat} (h : kvL bad lv) (e : lgt lv i = .ref a) : bad a = false := h (i, .ref a) (lgt_mem e (by intro q; cases q)) a rfl
theorem kvL.p {i : Nat} (h : kvL bad lv) (hv : kvO bad v) : kvL bad (lpt lv i v) := fun q hq => by
  rcases List.mem_cons.mp hq with rfl | hq
  · exact hv
  · exact h q (List.mem_filter.mp hq).1
theorem kvL.p2 {i : Nat} (h : kvL bad lv) (hv : kvO bad v) : kvL bad (lpt2 lv i v) := fun q hq => by
  rcases List.mem_cons.mp hq with rfl | hq
  · exact hv
  · exact h q (List.mem_filter.mp hq).1
theorem kvL.k {ks : List Nat} (h : kvL bad lv) : kvL bad (pk ks lv) := fun q hq => h q (pk_mem hq)
theorem kvL.args : ∀ (as : List Value) (k : Nat), kvS bad as → kvL bad (lv_args k as) := by
  intro as
  induction as with
  | nil => intro k _ q hq; cases hq
  | cons v r ih =>
    intro k h q hq
    rcases List.mem_cons.mp hq with rfl | hq
    · exact h.a
    · exact ih _ h.t q hq
theorem sI_g {f g : Int32 → List Value → Prop} (hs : kvS bad st) (hm : ∀ x r, kvS bad r → f x r → g x r) (h : sI st f) : sI st g := by
  unfold sI at h ⊢
  split at h
  · exact hm _ _ hs.t h
  · exact h.elim
theorem sII_g {f g : Int32 → Int32 → List Value → Prop} (hs : kvS bad st) (hm : ∀ x y r, kvS bad r → f x y r → g x y r) (h : sII st f) : sII st g := by
  unfold sII at h ⊢
  split at h
  · exact hm _ _ _ hs.t.t h
  · exact h.elim
theorem sL_g {f g : Int64 → List Value → Prop} (hs : kvS bad st) (hm : ∀ x r, kvS bad r → f x r → g x r) (h : sL st f) : sL st g := by
  unfold sL at h ⊢
  split at h
  · exact hm _ _ hs.t h
  · exact h.elim
theorem sLL_g {f g : Int64 → Int64 → List Value → Prop} (hs : kvS bad st) (hm : ∀ x y r, kvS bad r → f x y r → g x y r) (h : sLL st f) : sLL st g := by
  unfold sLL at h ⊢
  split at h
  · exact hm _ _ _ hs.t.t h
  · exact h.elim
theorem sLI_g {f g : Int64 → Int32 → List Value → Prop} (hs : kvS bad st) (hm : ∀ x y r, kvS bad r → f x y r → g x y r) (h : sLI st f) : sLI st g := by
  unfold sLI at h ⊢
  split at h
  · exact hm _ _ _ hs.t.t h
  · exact h.elim
theorem sR_g {f g : Nat → List Value → Prop} (hs : kvS bad st) (hm : ∀ a r, bad a = false → kvS bad r → f a r → g a r) (h : sR st f) : sR st g := by
  unfold sR at h ⊢
  split at h
  · exact hm _ _ (hs.a _ rfl) hs.t h
  · exact h.elim
theorem sRI_g {f g : Nat → Int32 → List Value → Prop} (hs : kvS bad st) (hm : ∀ a x r, bad a = false → kvS bad r → f a x r → g a x r) (h : sRI st f) : sRI st g := by
  unfold sRI at h ⊢
  split at h
  · exact hm _ _ _ (hs.t.a _ rfl) hs.t.t h
  · exact h.elim
theorem sRL_g {f g : Nat → Int64 → List Value → Prop} (hs : kvS bad st) (hm : ∀ a x r, bad a = false → kvS bad r → f a x r → g a x r) (h : sRL st f) : sRL st g := by
  unfold sRL at h ⊢
  split at h
  · exact hm _ _ _ (hs.t.a _ rfl) hs.t.t h
  · exact h.elim
theorem sRR_g {f g : Nat → Nat → List Value → Prop} (hs : kvS bad st) (hm : ∀ a v r, bad a = false → bad v = false → kvS bad r → f a v r → g a v r) (h : sRR st f) : sRR st g := by
  unfold sRR at h ⊢
  split at h
  · exact hm _ _ _ (hs.t.a _ rfl) (hs.a _ rfl) hs.t.t h
  · exact h.elim
theorem sRII_g {f g : Nat → Int32 → Int32 → List Value → Prop} (hs : kvS bad st) (hm : ∀ a i x r, bad a = false → kvS bad r → f a i x r → g a i x r) (h : sRII st f) : sRII st g := by
  unfold sRII at h ⊢
  split at h
  · exact hm _ _ _ _ (hs.t.t.a _ rfl) hs.t.t.t h
  · exact h.elim
theorem sRIL_g {f g : Nat → Int32 → Int64 → List Value → Prop} (hs : kvS bad st) (hm : ∀ a i x r, bad a = false → kvS bad r → f a i x r → g a i x r) (h : sRIL st f) : sRIL st g := by
  unfold sRIL at h ⊢
  split at h
  · exact hm _ _ _ _ (hs.t.t.a _ rfl) hs.t.t.t h
  · exact h.elim
theorem sCpy_g {f g : Nat → Int32 → Nat → Int32 → Int32 → List Value → Prop} (hs : kvS bad st) (hm : ∀ a sp a1 dp n r, bad a1 = false → kvS bad r → f a sp a1 dp n r → g a sp a1 dp n r) (h : sCpy st f) : sCpy st g := by
  unfold sCpy at h ⊢
  split at h
  · exact hm _ _ _ _ _ _ (hs.t.t.a _ rfl) hs.t.t.t.t.t h
  · exact h.elim
theorem lR_g {i : Nat} {f g : Nat → Prop} (hl : kvL bad lv) (hm : ∀ x, bad x = false → f x → g x) (h : lR lv i f) : lR lv i g := by
  unfold lR at h ⊢
  split at h
  · rename_i x e
    exact hm _ (hl.g e) h
  · exact h.elim
end KVG
theorem cond_g {b : Bool} {p p' : Prop} (h1 : b = true → p → p') (h : bif b then p else False) : bif b then p' else False := by
  cases b
  · exact h.elim
  · exact h1 rfl h
/-- the references that may change, and those in arrays, are none of the bad -/
noncomputable def HRf (bad : Nat → Bool) (R : Rm) : Prop := (∀ o ci k, 0 < o → (shl.getD (o - 1) (999, 0)).1 = ci → fkd ci k = 3 → bad (R o k) = false) ∧ ∀ a t j, (shl.getD (a - 1) (999, 0)).1 = 103 + t → j < aL a → bad (R a j) = false
theorem HRf.u {bad : Nat → Bool} {R : Rm} {o k v : Nat} (h : HRf bad R) (hv : bad v = false) : HRf bad (uR R o k v) := by
  have key : ∀ a j, bad (R a j) = false → bad (uR R o k v a j) = false := by
    intro a j hq
    by_cases h1 : a = o
    · subst h1
      rw [uR_eq]
      by_cases h2 : j = k
      · subst h2; rw [va_up_self]; exact hv
      · rw [va_up_ne _ _ h2]; exact hq
    · rw [uR_ne h1]; exact hq
  exact ⟨fun o' ci k' h0 h1 h2 => key _ _ (h.1 o' ci k' h0 h1 h2), fun a t j h1 h2 => key _ _ (h.2 a t j h1 h2)⟩
end PT3x4
