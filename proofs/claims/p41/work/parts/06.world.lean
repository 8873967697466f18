section PT1x0
/-! ===== from the small machine to the machine: the world, the frame ===== -/
noncomputable def ad (h0 b : Nat) : Nat → Nat
  | 0 => b
  | k + 1 => h0 + k
noncomputable def cv (h0 b : Nat) : Value → Value
  | .ref a => .ref (ad h0 b a)
  | v => v
theorem cv_cat (h0 b : Nat) (v : Value) : (cv h0 b v).category = v.category := by cases v <;> rfl
noncomputable def fvl (h0 b : Nat) (I : Im) (J : Jm) (R : Rm) (i kd of k : Nat) : Value := match kd with
  | 0 => .int (I i k)
  | 1 => .int (I i k)
  | 2 => .long (J i k)
  | 3 => if R i k = 0 then .null else .ref (ad h0 b (R i k))
  | _ => if R i k = 0 then .null else .ref (ad h0 b (i + of))
noncomputable def flds (h0 b : Nat) (I : Im) (J : Jm) (R : Rm) (i ci : Nat) : List Value := (List.range (clN ci)).map fun k => fvl h0 b I J R i (fkd ci k) (fof ci k) k
noncomputable def arE (h0 b : Nat) (I : Im) (J : Jm) (R : Rm) (a t : Nat) : (Nat → Int32) ⊕ (Nat → Int64) ⊕ (Nat → UInt32) ⊕ (Nat → UInt64) ⊕ (Nat → Option Nat) := match t with
  | 0 => .inl (I a)
  | 1 => .inr (.inl (J a))
  | 2 => .inl (I a)
  | _ => .inr (.inr (.inr (.inr fun j => if R a j = 0 then none else some (ad h0 b (R a j)))))
noncomputable def celE (ca : Nat → ClassId) (h0 b : Nat) (I : Im) (J : Jm) (R : Rm) (i : Nat) : va_E := if (shl.getD (i - 1) (999, 0)).1 < 100 then .inr ((shl.getD (i - 1) (999, 0)).1, flds h0 b I J R i (shl.getD (i - 1) (999, 0)).1) else .inl (ca ((shl.getD (i - 1) (999, 0)).1 - 100), (shl.getD (i - 1) (999, 0)).2, arE h0 b I J R i ((shl.getD (i - 1) (999, 0)).1 - 100))
noncomputable def wd (ca : Nat → ClassId) (h0 b n : Nat) (I : Im) (J : Jm) (R : Rm) : va_W := (List.range n).map fun i => (h0 + i, celE ca h0 b I J R (i + 1))
noncomputable def ntys (ca : Nat → ClassId) : List (ClassId × FieldType) := [(ca 0, aty 0), (ca 1, aty 1), (ca 2, aty 2), (ca 3, aty 3), (ca 4, aty 4), (ca 5, aty 5)]
/-- what the tables say beyond the words -/
noncomputable def NN (U : State) : Prop := (∀ q ∈ nestW, va_Nw (.methodLinkNest q.1 q.2.1 q.2.2 "BreadScribes") U) ∧ ∀ t, t < 3 → va_AO (elC t) U
theorem NN.warm {s U : State} (hW : s.WarmedH U.vm) (h : NN s) : NN U := ⟨fun q hq => va_Nw.warmM hW (h.1 q hq), fun t ht => (h.2 t ht).moved hW.alike⟩
theorem ad_pos {h0 b a : Nat} (h : 0 < a) : ad h0 b a = h0 + (a - 1) := by
  cases a with
  | zero => omega
  | succ k => rfl
theorem wd_get {ca : Nat → ClassId} {h0 b n : Nat} {I : Im} {J : Jm} {R : Rm} {a : Nat} (h1 : 0 < a) (h2 : a ≤ n) : (wd ca h0 b n I J R)[a - 1]? = some (ad h0 b a, celE ca h0 b I J R a) := by
  have e : a - 1 + 1 = a := by omega
  simp only [wd, List.getElem?_map, List.getElem?_range (show a - 1 < n by omega), Option.map_some, e]
  rw [ad_pos h1]
theorem wd_at {ca : Nat → ClassId} {h0 b n : Nat} {I : Im} {J : Jm} {R : Rm} {k : Nat} {q : Nat × va_E} (h : (wd ca h0 b n I J R)[k]? = some q) : k < n ∧ q = (h0 + k, celE ca h0 b I J R (k + 1)) := by
  simp only [wd, List.getElem?_map] at h
  by_cases hk : k < n
  · rw [List.getElem?_range hk] at h
    exact ⟨hk, (Option.some.inj h).symm⟩
  · rw [List.getElem?_eq_none (by simp; omega)] at h
    cases h
theorem wd_set {ca : Nat → ClassId} {h0 b n : Nat} {I I' : Im} {J J' : Jm} {R R' : Rm} {a : Nat} {e : va_E} (h1 : 0 < a) (h2 : a ≤ n) (he : celE ca h0 b I' J' R' a = e) (ho : ∀ i, i ≠ a → celE ca h0 b I' J' R' i = celE ca h0 b I J R i) :
    (wd ca h0 b n I J R).set (a - 1) (ad h0 b a, e) = wd ca h0 b n I' J' R' := by
  apply List.ext_getElem?
  intro k
  rw [List.getElem?_set]
  by_cases hk : a - 1 = k
  · subst hk
    have hl : a - 1 < (wd ca h0 b n I J R).length := by simp [wd]; omega
    rw [if_pos rfl, if_pos hl, wd_get h1 h2, he]
  · rw [if_neg hk]
    simp only [wd, List.getElem?_map]
    by_cases hn : k < n
    · rw [List.getElem?_range hn]
      simp only [Option.map_some]
      rw [ho (k + 1) (by omega)]
    · rw [List.getElem?_eq_none (by simp; omega)]
      rfl
theorem wd_add {ca : Nat → ClassId} {h0 b n : Nat} {I I' : Im} {J J' : Jm} {R R' : Rm} {e : va_E} (he : celE ca h0 b I' J' R' (n + 1) = e) (ho : ∀ i, i ≠ n + 1 → celE ca h0 b I' J' R' i = celE ca h0 b I J R i) :
    wd ca h0 b n I J R ++ [(h0 + n, e)] = wd ca h0 b (n + 1) I' J' R' := by
  simp only [wd, List.range_succ, List.map_append, List.map_cons, List.map_nil]
  rw [he]
  congr 1
  apply List.map_congr_left
  intro i hi
  have := List.mem_range.mp hi
  rw [ho (i + 1) (by omega)]
theorem wd_D {ca : Nat → ClassId} {h0 b n : Nat} {I : Im} {J : Jm} {R : Rm} {A : Nat → Prop} (hA : ∀ q, h0 ≤ q → A q) : va_D A (wd ca h0 b n I J R) := by
  refine ⟨fun i j p q hp hq e => ?_, fun k q hk => ?_⟩
  · obtain ⟨-, rfl⟩ := wd_at hp
    obtain ⟨-, rfl⟩ := wd_at hq
    simp at e
    omega
  · obtain ⟨-, rfl⟩ := wd_at hk
    exact hA _ (Nat.le_add_right _ _)
theorem celE_o {ca : Nat → ClassId} {h0 b : Nat} {I : Im} {J : Jm} {R : Rm} {i ci : Nat} (h : (shl.getD (i - 1) (999, 0)).1 = ci) (hc : ci < 100) : celE ca h0 b I J R i = .inr (ci, flds h0 b I J R i ci) := by
  unfold celE
  rw [h, if_pos hc]
theorem celE_a {ca : Nat → ClassId} {h0 b : Nat} {I : Im} {J : Jm} {R : Rm} {a t : Nat} (h : (shl.getD (a - 1) (999, 0)).1 = 100 + t) : celE ca h0 b I J R a = .inl (ca t, aL a, arE h0 b I J R a t) := by
  unfold celE aL
  rw [h, if_neg (by omega), Nat.add_sub_cancel_left]
theorem isO_spec {n o ci : Nat} (h : isO n o ci = true) : 0 < o ∧ o ≤ n ∧ (shl.getD (o - 1) (999, 0)).1 = ci := by
  simp only [isO, Bool.and_eq_true] at h
  exact ⟨Nat.le_of_ble_eq_true h.1, Nat.le_of_ble_eq_true h.2.1, Nat.eq_of_beq_eq_true h.2.2⟩
theorem isA_spec {n a t : Nat} (h : isA n a t = true) : 0 < a ∧ a ≤ n ∧ (shl.getD (a - 1) (999, 0)).1 = 100 + t := by
  simp only [isA, Bool.and_eq_true] at h
  exact ⟨Nat.le_of_ble_eq_true h.1, Nat.le_of_ble_eq_true h.2.1, Nat.eq_of_beq_eq_true h.2.2⟩
theorem celE_I {ca : Nat → ClassId} {h0 b : Nat} {I I' : Im} {J J' : Jm} {R R' : Rm} {i : Nat} (h1 : I' i = I i) (h2 : J' i = J i) (h3 : R' i = R i) : celE ca h0 b I' J' R' i = celE ca h0 b I J R i := by
  have hf : ∀ kd of k, fvl h0 b I' J' R' i kd of k = fvl h0 b I J R i kd of k := fun kd of k => by unfold fvl; rw [h1, h2, h3]
  have ha : ∀ t, arE h0 b I' J' R' i t = arE h0 b I J R i t := fun t => by unfold arE; rw [h1, h2, h3]
  unfold celE flds
  simp only [hf, ha]
theorem uI_ne {I : Im} {a j i : Nat} {v : Int32} (h : i ≠ a) : uI I a j v i = I i := if_neg h
theorem uJ_ne {J : Jm} {a j i : Nat} {v : Int64} (h : i ≠ a) : uJ J a j v i = J i := if_neg h
theorem uR_ne {R : Rm} {a j i : Nat} {v : Nat} (h : i ≠ a) : uR R a j v i = R i := if_neg h
theorem zI_ne {I : Im} {a i : Nat} (h : i ≠ a) : zI I a i = I i := if_neg h
theorem zJ_ne {J : Jm} {a i : Nat} (h : i ≠ a) : zJ J a i = J i := if_neg h
theorem zR_ne {R : Rm} {a i : Nat} (h : i ≠ a) : zR R a i = R i := if_neg h
theorem uI_eq {I : Im} {a j : Nat} {v : Int32} : uI I a j v a = upd (I a) j v := if_pos rfl
theorem uJ_eq {J : Jm} {a j : Nat} {v : Int64} : uJ J a j v a = vp_updL (J a) j v := if_pos rfl
theorem uR_eq {R : Rm} {a j : Nat} {v : Nat} : uR R a j v a = va_up (R a) j v := if_pos rfl
theorem fset {α : Type} {N k : Nat} {f : Nat → α} {v : α} : ((List.range N).map f).set k v = (List.range N).map fun j => if j = k then v else f j := by
  apply List.ext_getElem?
  intro j
  rw [List.getElem?_set]
  by_cases hj : j < N
  · simp only [List.getElem?_map, List.getElem?_range hj, Option.map_some, List.length_map, List.length_range]
    by_cases hk : k = j
    · subst hk; simp [hj]
    · rw [if_neg hk, if_neg (fun h => hk h.symm)]
  · have e1 : ((List.range N).map f)[j]? = none := List.getElem?_eq_none (by simp; omega)
    have e2 : ((List.range N).map fun j => if j = k then v else f j)[j]? = none := List.getElem?_eq_none (by simp; omega)
    rw [e1, e2]
    split
    · split
      · rename_i h1 h2; simp at h2; omega
      · rfl
    · rfl
/-- the locals -/
noncomputable def lvm (h0 b : Nat) (lv : Lv) : Lv := lv.map fun q => (q.1, cv h0 b q.2)
theorem lgt_mem {lv : Lv} {i : Nat} {v : Value} (h : lgt lv i = v) (hv : v ≠ .null) : (i, v) ∈ lv := by
  induction lv with
  | nil => exact absurd h.symm hv
  | cons q r ih =>
    obtain ⟨j, w⟩ := q
    unfold lgt at h
    by_cases hj : Nat.beq j i = true
    · rw [hj] at h
      rw [Nat.eq_of_beq_eq_true hj, ← h]
      exact List.mem_cons_self
    · rw [Bool.not_eq_true _ |>.mp hj] at h
      exact List.mem_cons_of_mem _ (ih h)
theorem lv_gt {h0 b : Nat} {ls : Array Slot} {nL i : Nat} {lv : Lv} {v : Value} (hl : lv_has ls nL (lvm h0 b lv)) (h : lgt lv i = v) (hv : v ≠ .null) : ls[i]? = some (.val (cv h0 b v)) :=
  hl.2.2 (i, cv h0 b v) (List.mem_map.mpr ⟨(i, v), lgt_mem h hv, rfl⟩)
theorem lvm_pt {h0 b : Nat} {lv : Lv} {i : Nat} {v : Value} : (i, cv h0 b v) :: (lvm h0 b lv).filter (fun q => !(q.1 == i) && !(q.1 + 1 == i && q.2.category == 2)) = lvm h0 b (lpt lv i v) := by
  simp only [lpt, lvm, List.map_cons, List.filter_map]
  congr 2
  apply List.filter_congr
  intro q _
  simp [Function.comp, cv_cat]
theorem lvm_pt2 {h0 b : Nat} {lv : Lv} {i : Nat} {v : Value} : (i, cv h0 b v) :: (lvm h0 b lv).filter (fun q => !(q.1 == i) && (!(q.1 == i + 1) && !(q.1 + 1 == i && q.2.category == 2))) = lvm h0 b (lpt2 lv i v) := by
  simp only [lpt2, lvm, List.map_cons, List.filter_map]
  congr 2
  apply List.filter_congr
  intro q _
  simp [Function.comp, cv_cat]
theorem lvm_args {h0 b : Nat} (as : List Value) : ∀ k, lvm h0 b (lv_args k as) = lv_args k (as.map (cv h0 b)) := by
  induction as with
  | nil => intro k; rfl
  | cons v r ih =>
    intro k
    simp only [lv_args, lvm, List.map_cons, cv_cat]
    congr 1
    exact ih _
theorem lg_len {h0 b : Nat} (as : List Value) : (lg_sl (as.map (cv h0 b))).length = (lg_sl as).length := by
  induction as with
  | nil => rfl
  | cons v r ih =>
    have e1 : lg_sl (v :: r) = (if v.category = 2 then [Slot.val v, Slot.second] else [Slot.val v]) ++ lg_sl r := by simp [lg_sl]
    have e2 : lg_sl ((v :: r).map (cv h0 b)) = (if (cv h0 b v).category = 2 then [Slot.val (cv h0 b v), Slot.second] else [Slot.val (cv h0 b v)]) ++ lg_sl (r.map (cv h0 b)) := by simp [lg_sl]
    rw [e1, e2, List.length_append, List.length_append, ih, cv_cat]
    split <;> rfl
theorem cSum_cv {h0 b : Nat} (st : List Value) : ((st.map (cv h0 b)).map fun v => v.category).sum = cSum st := by
  unfold cSum
  rw [List.map_map]
  congr 1
  apply List.map_congr_left
  intro v _
  exact cv_cat h0 b v
/-- how many places the first n cells have -/
noncomputable def sl : Nat → Nat
  | 0 => 0
  | n + 1 => sl n + (if (shl.getD n (999, 0)).1 < 100 then clN (shl.getD n (999, 0)).1 else (shl.getD n (999, 0)).2)
theorem sl_mono {a k : Nat} : sl a ≤ sl (a + k) := by
  induction k with
  | zero => exact Nat.le_refl _
  | succ k ih => exact Nat.le_trans ih (Nat.le_add_right _ _)
theorem sl_le {a c : Nat} (h : a ≤ c) : sl a ≤ sl c := by
  obtain ⟨k, rfl⟩ := Nat.le.dest h
  exact sl_mono
/-- the text in the Reader's constructor, and what the JDK's code of String reads -/
noncomputable def rd_by : List Int32 := [111, 100, 100, 115, 32, 115, 116, 111, 114, 101, 32, 116, 105, 109, 101, 115, 32, 109, 97, 110, 32, 100, 117, 101, 32, 98, 121, 32, 104, 97, 115, 32, 107, 110, 111, 119, 110, 32, 99, 117, 116, 32, 115, 112, 108, 105, 116, 32, 103, 105, 118, 101, 32, 116, 97, 107, 101, 32, 98, 97, 107, 101, 32, 97, 110, 121, 32, 119, 104, 101, 110, 32, 101, 118, 101, 110, 32, 104, 111, 108, 100, 115, 32, 108, 97, 99, 107, 115, 32, 108, 111, 111, 112, 32, 101, 110, 100, 32, 115, 116, 111, 112]
noncomputable def SKp (h0 : Nat) (U : State) : Prop := ∃ (tx : String) (aK aV : Nat) (byt : List Int32), byt = rd_by ∧ vk_R RX6 58 tx aK U ∧ vk_S 1 [102] [byt] (fun _ => aK) (fun _ => aV) (fun q => h0 ≤ q) U U.heap ∧ va_Z "java/lang/String" "COMPACT_STRINGS" "Z" (.int 1) (fun q => h0 ≤ q) U U.heap ∧ va_Zq "jdk/internal/util/Preconditions" "SIOOBE_FORMATTER" "Ljava/util/function/BiFunction;" (fun q => h0 ≤ q) U U.heap
theorem SKp.next {h0 : Nat} {s U : State} (hW : s.WarmedH U.vm) (hq : ∀ a : Nat, a < s.heap.size → ¬ h0 ≤ a → U.heap[a]? = s.heap[a]?) (h : SKp h0 s) : SKp h0 U := by
  obtain ⟨tx, aK, aV, byt, hy, h1, h2, h3, h4⟩ := h
  exact ⟨tx, aK, aV, byt, hy, vk_R.warm hW h1, (vk_S.moved hW.alike h2).kept hq, (va_Z.moved hW.alike h3).kept hq, (va_Zq.moved hW.alike h4).kept hq⟩
/-- the world as the state has it -/
noncomputable def Wok (D : va_G) (ca : Nat → ClassId) (h0 b n : Nat) (I : Im) (J : Jm) (R : Rm) (U : State) : Prop := U.heap.size = h0 + n ∧ va_P D ncl (wd ca h0 b n I J R) U.heap ∧ va_K D ncl (ntys ca) U ∧ (NN U ∧ SKp h0 U)
noncomputable abbrev St3 : Type := Im × Jm × Rm
noncomputable def mPost (D : va_G) (ca : Nat → ClassId) (h0 b n' : Nat) (rk kr : Nat) (R : Rm) (Q : Qt) (A : Nat → Prop) : Array Value → State → Outcome → State → Prop := match rk with
  | 0 => va_Qv (fun u : St3 => (kr = 1 → u.2.2 = R) ∧ Q 0 0 u.1 u.2.1 u.2.2) (fun u t => t.heap.size = h0 + n' ∧ va_P D ncl (wd ca h0 b n' u.1 u.2.1 u.2.2) t.heap) A
  | 1 => va_Qi (fun (x : Int32) (u : St3) => (kr = 1 → u.2.2 = R) ∧ Q x 0 u.1 u.2.1 u.2.2) (fun u t => t.heap.size = h0 + n' ∧ va_P D ncl (wd ca h0 b n' u.1 u.2.1 u.2.2) t.heap) A
  | 2 => va_Qi (fun (x : Int32) (u : St3) => (x = 0 ∨ x = 1) ∧ (kr = 1 → u.2.2 = R) ∧ Q x 0 u.1 u.2.1 u.2.2) (fun u t => t.heap.size = h0 + n' ∧ va_P D ncl (wd ca h0 b n' u.1 u.2.1 u.2.2) t.heap) A
  | _ => va_Ql (fun (x : Int64) (u : St3) => (kr = 1 → u.2.2 = R) ∧ Q 0 x u.1 u.2.1 u.2.2) (fun u t => t.heap.size = h0 + n' ∧ va_P D ncl (wd ca h0 b n' u.1 u.2.1 u.2.2) t.heap) A
noncomputable def rmD (d al ms : Nat) : Room := { frames := d, cells := al, slots := ms, locals := 64 * d }
noncomputable def mFree (ca : Nat → ClassId) (h0 b n : Nat) (I : Im) (J : Jm) (R : Rm) : Nat → Prop := va_A (wd ca h0 b n I J R) (h0 + n)
theorem mFree_ge {ca : Nat → ClassId} {h0 b n : Nat} {I : Im} {J : Jm} {R : Rm} {q : Nat} : mFree ca h0 b n I J R q ↔ h0 ≤ q := by
  constructor
  · rintro (⟨k, e, h⟩ | h)
    · obtain ⟨-, h2⟩ := wd_at h
      cases h2
      omega
    · omega
  · intro h
    by_cases hq : q < h0 + n
    · refine Or.inl ⟨q - h0, celE ca h0 b I J R (q - h0 + 1), ?_⟩
      have := wd_get (ca := ca) (h0 := h0) (b := b) (n := n) (I := I) (J := J) (R := R) (a := q - h0 + 1) (by omega) (by omega)
      rw [show q - h0 + 1 - 1 = q - h0 by omega, show ad h0 b (q - h0 + 1) = q by show h0 + (q - h0) = q; omega] at this
      exact this
    · exact Or.inr (by omega)
noncomputable def wsM (q : Mt) : List Cond := qW q :: wsG
/-- what the contract of a method says, at depth d, of all calls that the small machine goes through -/
noncomputable def MetD (l : Launch) (d : Nat) : Prop := ∀ (D : va_G) (ca : Nat → ClassId) (h0 b mi n : Nat) (as : List Value) (I : Im) (J : Jm) (R : Rm) (Q : Qt), mi < nMth → (qPh (mQ mi) = 1 → Fl R ∧ n = nAll) → AM d mi n as I J R Q →
  Met l (mQ mi).2.1 (wsM (mQ mi)) (rmD d (qAl (mQ mi)) (sl (n + qAl (mQ mi)) - sl n)) (va_Pc (as.map (cv h0 b)) (fun U => Wok D ca h0 b n I J R U))
    (mPost D ca h0 b (n + qAl (mQ mi)) (qRk (mQ mi)) (qKr (mQ mi)) R Q (mFree ca h0 b n I J R)) (qAl (mQ mi)) (sl (n + qAl (mQ mi)) - sl n) (mFree ca h0 b n I J R)
end PT1x0
section PT1x1
/-! ===== one step of the small machine is one of the machine ===== -/
section SND
variable {p : Program} {l : Launch} {e : Env} {rm : Room} {s : State} {m : MethodId} {args : Array Value} {below : List Frame} {meth : Method} {c : Code} {Qw : State → Prop}
variable {own : String} {cc : ByteArray} {nL ini : Nat} {Ts : List Cond} {D : va_G} {ca : Nat → ClassId} {h0 b n0 nend L : Nat} {A : Nat → Prop} {ph isl : Bool} {xs : Nat → Int32}
noncomputable def Ctx (p : Program) (rm : Room) (s : State) (m : MethodId) (args : Array Value) (meth : Method) (c : Code) (own : String) (cc : ByteArray) (nL ini : Nat) (Ts : List Cond) (D : va_G) (ca : Nat → ClassId) (h0 b n0 nend L : Nat) (A : Nat → Prop) (isl : Bool) (xs : Nat → Int32) : Prop :=
  p.tables.exec = Jvm.exec ∧ c.code = cc ∧ c.maxLocals = nL ∧ s.vm.findClass own = some m.cls ∧ (∀ w ∈ Ts, w.before args s = true) ∧ (∀ w ∈ wsG, w ∈ Ts) ∧ va_K D ncl (ntys ca) s ∧ (NN s ∧ SKp h0 s ∧ ∀ q, A q → h0 ≤ q) ∧ (∀ q, h0 ≤ q → A q) ∧ s.heap.size = h0 + n0 ∧ (ini = 1 → meth.name = "<init>") ∧ (nend - n0 ≤ rm.cells ∧ sl nend - sl n0 ≤ rm.slots) ∧ (1 ≤ rm.frames ∧ 64 ≤ rm.locals) ∧ (isl = true → va_X b L xs s s.heap ∧ b < s.heap.size ∧ ¬ A b)
noncomputable def PW (p : Program) (l : Launch) (e : Env) (rm : Room) (s : State) (m : MethodId) (args : Array Value) (below : List Frame) (meth : Method) (c : Code) (Qw : State → Prop) (nL : Nat) (D : va_G) (ca : Nat → ClassId) (h0 b n0 : Nat) (A : Nat → Prop) (ph : Bool) : Kt := fun pc n lv st I J R =>
  ∀ (H : Heap) (locs : List Loc) (ls : Array Slot), n0 ≤ n → (ph = true → Fl R ∧ n = nAll) → va_P D ncl (wd ca h0 b n I J R) H → va_S A s.heap H locs → lv_has ls nL (lvm h0 b lv) → W p l e rm s m args below meth c H locs (n - n0) (sl n - sl n0) Qw (F0 m pc ls (st.map (cv h0 b)))
theorem ncl_get : ∀ ci, ci < 13 → ncl[ci]? = some (clC ci, clT ci, clN ci)
  | 0, _ => rfl
  | 1, _ => rfl
  | 2, _ => rfl
  | 3, _ => rfl
  | 4, _ => rfl
  | 5, _ => rfl
  | 6, _ => rfl
  | 7, _ => rfl
  | 8, _ => rfl
  | 9, _ => rfl
  | 10, _ => rfl
  | 11, _ => rfl
  | 12, _ => rfl
theorem ucl : ∀ ci, ci < 13 → ∀ w ∈ u_ws (clC ci) (clT ci) (clN ci), w ∈ wsG
  | 0, _ => clw_0
  | 1, _ => clw_1
  | 2, _ => clw_2
  | 3, _ => clw_3
  | 4, _ => clw_4
  | 5, _ => clw_5
  | 6, _ => clw_6
  | 7, _ => clw_7
  | 8, _ => clw_8
  | 9, _ => clw_9
  | 10, _ => clw_10
  | 11, _ => clw_11
  | 12, _ => clw_12
theorem clY_ok : ∀ ci, ci < 13 → ∀ k, k < clN ci → parseFieldDescriptor (clT ci k).2.2.1 = some (clY ci k)
  | 0, _ => tyX0_ok
  | 1, _ => tyX1_ok
  | 2, _ => tyX2_ok
  | 3, _ => tyX3_ok
  | 4, _ => tyX4_ok
  | 5, _ => tyX5_ok
  | 6, _ => tyX6_ok
  | 7, _ => tyX7_ok
  | 8, _ => tyX8_ok
  | 9, _ => tyX9_ok
  | 10, _ => tyX10_ok
  | 11, _ => tyX11_ok
  | 12, _ => tyX12_ok
theorem clNm : ∀ ci, ci < 13 → ∀ a, a < clN ci → ∀ b, b < clN ci → a ≠ b → (clT ci a).2.1 ≠ (clT ci b).2.1
  | 0, _ => nmX0
  | 1, _ => nmX1
  | 2, _ => nmX2
  | 3, _ => nmX3
  | 4, _ => nmX4
  | 5, _ => nmX5
  | 6, _ => nmX6
  | 7, _ => nmX7
  | 8, _ => nmX8
  | 9, _ => nmX9
  | 10, _ => nmX10
  | 11, _ => nmX11
  | 12, _ => nmX12
set_option maxHeartbeats 4000000 in
theorem get_ok (C : Ctx p rm s m args meth c own cc nL ini Ts D ca h0 b n0 nend L A isl xs) {pc i n ci k kd of : Nat} {lv : Lv} {st : List Value} {I : Im} {J : Jm} {R : Rm} (hdg : decode cc pc = .ok (.getfield i, 3)) (hw : Cond.fieldLink own i (clT ci k).1 (clT ci k).2.1 (clT ci k).2.2.1 ∈ wsG) (hci : ci < 13) (hk : k < clN ci) (hkd : kd = fkd ci k) (hof : of = fof ci k)
    (h : fgt n ph ci k kd of st I J R (fun r => PW p l e rm s m args below meth c Qw nL D ca h0 b n0 A ph (pc + 3) n lv r I J R)) : PW p l e rm s m args below meth c Qw nL D ca h0 b n0 A ph pc n lv st I J R := by
  intro H locs ls hn hph hP hS hl
  obtain ⟨hx, hb, hml, hown, hts, hG, hK, hNN, hA, -⟩ := C
  unfold fgt sR at h
  split at h
  · rename_i o r
    cases ho : isO n o ci with
    | false => rw [ho] at h; exact h.elim
    | true =>
      rw [ho] at h
      obtain ⟨o1, o2, o3⟩ := isO_spec ho
      have he := wd_get (ca := ca) (h0 := h0) (b := b) (n := n) (I := I) (J := J) (R := R) o1 o2
      rw [celE_o o3 (by omega)] at he
      have hv : (flds h0 b I J R o ci)[k]? = some (fvl h0 b I J R o kd of k) := by simp [flds, hk, hkd, hof]
      have key : W p l e rm s m args below meth c H locs (n - n0) (sl n - sl n0) Qw (F0 m (pc + 3) ls (fvl h0 b I J R o kd of k :: r.map (cv h0 b))) → W p l e rm s m args below meth c H locs (n - n0) (sl n - sl n0) Qw (F0 m pc ls (Value.ref (ad h0 b o) :: r.map (cv h0 b))) := fun kk =>
        va_get hx hb hts (fun w hw => hG w (ucl ci hci w hw)) hown hK hP (o - 1) he (ncl_get ci hci) k hk (hts _ (hG _ hw)) (fun _ h => h) hv hdg kk
      refine key ?_
      dsimp only [cond_true] at h
      rcases kd with _ | _ | _ | _ | _ | kd
      · exact h H locs ls hn hph hP hS hl
      · exact h H locs ls hn hph hP hS hl
      · exact h H locs ls hn hph hP hS hl
      · have hf : fvl h0 b I J R o 3 of k = .ref (ad h0 b (R o k)) := if_neg h.1
        rw [hf]
        exact h.2 H locs ls hn hph hP hS hl
      · have hf : ¬ R o k = 0 → fvl h0 b I J R o 4 of k = .ref (ad h0 b (o + of)) := fun q => if_neg q
        cases ph with
        | false => rw [hf h.1]; exact h.2 H locs ls hn hph hP hS hl
        | true =>
          have hz := (hph rfl).1 (o - 1) k (by rw [o3]; exact hkd.symm)
          rw [Nat.sub_add_cancel o1] at hz
          rw [hf hz]; exact h H locs ls hn hph hP hS hl
      · exact h.elim
  · exact h.elim
theorem fst_I {o ci k : Nat} {I : Im} {J : Jm} {R : Rm} {x : Int32} (hk : fkd ci k = 0 ∨ fkd ci k = 1) : (flds h0 b I J R o ci).set k (.int x) = flds h0 b (uI I o k x) J R o ci := by
  unfold flds
  rw [fset]
  apply List.map_congr_left
  intro j _
  by_cases hj : j = k
  · subst hj
    rw [if_pos rfl]
    rcases hk with h | h <;> rw [h] <;> simp [fvl, uI_eq, upd]
  · rw [if_neg hj]
    have : (uI I o k x) o j = I o j := by rw [uI_eq]; simp [upd, hj]
    unfold fvl
    rw [this]
theorem fst_J {o ci k : Nat} {I : Im} {J : Jm} {R : Rm} {x : Int64} (hk : fkd ci k = 2) : (flds h0 b I J R o ci).set k (.long x) = flds h0 b I (uJ J o k x) R o ci := by
  unfold flds
  rw [fset]
  apply List.map_congr_left
  intro j _
  by_cases hj : j = k
  · subst hj
    rw [if_pos rfl, hk]
    simp [fvl, uJ_eq, vp_updL]
  · rw [if_neg hj]
    have : (uJ J o k x) o j = J o j := by rw [uJ_eq]; simp [vp_updL, hj]
    unfold fvl
    rw [this]
theorem fst_R {o ci k v w : Nat} {I : Im} {J : Jm} {R : Rm} (hk : (fkd ci k = 3 ∧ w = v) ∨ (fkd ci k = 4 ∧ w = o + fof ci k)) (hv : ¬ v = 0) : (flds h0 b I J R o ci).set k (.ref (ad h0 b w)) = flds h0 b I J (uR R o k v) o ci := by
  unfold flds
  rw [fset]
  apply List.map_congr_left
  intro j _
  by_cases hj : j = k
  · subst hj
    rw [if_pos rfl]
    have : (uR R o j v) o j = v := by rw [uR_eq]; exact va_up_self _ _ _
    rcases hk with ⟨h, rfl⟩ | ⟨h, rfl⟩ <;> rw [h] <;> simp [fvl, this, hv]
  · rw [if_neg hj]
    have : (uR R o k v) o j = R o j := by rw [uR_eq]; exact va_up_ne _ _ hj
    unfold fvl
    rw [this]
theorem fl_len {o ci : Nat} {I : Im} {J : Jm} {R : Rm} : (flds h0 b I J R o ci).length = clN ci := by simp [flds]
theorem Fl_up {R : Rm} {o k v : Nat} (h : Fl R) (hv : ¬ v = 0) : Fl (uR R o k v) := by
  intro i j hi
  by_cases h1 : i + 1 = o
  · rw [← h1, uR_eq]
    by_cases h2 : j = k
    · subst h2; rw [va_up_self]; exact hv
    · rw [va_up_ne _ _ h2]; exact h i j hi
  · rw [uR_ne h1]; exact h i j hi
/-- a field is written, of any kind -/
theorem fput (C : Ctx p rm s m args meth c own cc nL ini Ts D ca h0 b n0 nend L A isl xs) {pc i n ci k : Nat} {lv : Lv} {I I' : Im} {J J' : Jm} {R R' : Rm} {o : Nat} {v : Value} {r : List Value} (hdg : decode cc pc = .ok (.putfield i, 3)) (hw : Cond.fieldLink own i (clT ci k).1 (clT ci k).2.1 (clT ci k).2.2.1 ∈ wsG) (hci : ci < 13) (hk : k < clN ci)
    (hfin : (clT ci k).2.2.2 = false ∨ ((clT ci k).2.2.2 = true ∧ (clT ci k).1 = own ∧ ini = 1)) (hn0 : narrow (clY ci k) v = v) (hfit : fits (clY ci k) v = true) (ho : isO n o ci = true)
    (hset : (flds h0 b I J R o ci).set k v = flds h0 b I' J' R' o ci) (h1 : ∀ a, a ≠ o → I' a = I a) (h2 : ∀ a, a ≠ o → J' a = J a) (h3 : ∀ a, a ≠ o → R' a = R a) (hF : ph = true → Fl R → Fl R')
    (h : PW p l e rm s m args below meth c Qw nL D ca h0 b n0 A ph (pc + 3) n lv r I' J' R') {H : Heap} {locs : List Loc} {ls : Array Slot} (hn : n0 ≤ n) (hph : ph = true → Fl R ∧ n = nAll) (hP : va_P D ncl (wd ca h0 b n I J R) H) (hS : va_S A s.heap H locs) (hl : lv_has ls nL (lvm h0 b lv)) :
    W p l e rm s m args below meth c H locs (n - n0) (sl n - sl n0) Qw (F0 m pc ls (v :: .ref (ad h0 b o) :: r.map (cv h0 b))) := by
  obtain ⟨hx, hb, hml, hown, hts, hG, hK, hNN, hA, hle, hini, -⟩ := C
  obtain ⟨o1, o2, o3⟩ := isO_spec ho
  have he := wd_get (ca := ca) (h0 := h0) (b := b) (n := n) (I := I) (J := J) (R := R) o1 o2
  rw [celE_o o3 (by omega)] at he
  have hD : va_D A (wd ca h0 b n I J R) := wd_D hA
  have hws : (wd ca h0 b n I J R).set (o - 1) (ad h0 b o, .inr (ci, (flds h0 b I J R o ci).set k v)) = wd ca h0 b n I' J' R' := wd_set o1 o2 (by rw [celE_o o3 (by omega), hset]) (fun i hi => celE_I (h1 i hi) (h2 i hi) (h3 i hi))
  have kk : ∀ (H1 : Heap) (locs1 : List Loc), va_P D ncl ((wd ca h0 b n I J R).set (o - 1) (ad h0 b o, .inr (ci, (flds h0 b I J R o ci).set k v))) H1 → va_D A ((wd ca h0 b n I J R).set (o - 1) (ad h0 b o, .inr (ci, (flds h0 b I J R o ci).set k v))) → va_S A s.heap H1 locs1 → W p l e rm s m args below meth c H1 locs1 (n - n0) (sl n - sl n0) Qw (F0 m (pc + 3) ls (r.map (cv h0 b))) := by
    intro H1 locs1 hP1 _ hS1
    rw [hws] at hP1
    exact h H1 locs1 ls hn (fun q => ⟨hF q (hph q).1, (hph q).2⟩) hP1 hS1 hl
  have hlen : k < (flds h0 b I J R o ci).length := by rw [fl_len]; exact hk
  rcases hfin with hfin | ⟨hfin, hdc, hi1⟩
  · exact va_put hx hb hts (fun w hw => hG w (ucl ci hci w hw)) (clY ci) (clY_ok ci hci) (clNm ci hci) hown hK hP hD hS (o - 1) he (ncl_get ci hci) k hk (hts _ (hG _ hw)) (fun _ h => h) hfin (clY_ok ci hci k hk) hn0 hfit hlen hdg kk
  · exact va_putF hx hb hts (fun w hw => hG w (ucl ci hci w hw)) (clY ci) (clY_ok ci hci) (clNm ci hci) hown hK hP hD hS (o - 1) he (ncl_get ci hci) k hk (hts _ (hG _ hw)) (fun _ h => h) hfin (hini hi1) hdc (clY_ok ci hci k hk) hn0 hfit hlen hdg kk

/-- the size of the heap, which the machine's own book bounds -/
theorem W_sz {I : Im} {J : Jm} {R : Rm} {n : Nat} {H : Heap} {locs : List Loc} {g : JFrame} (hs : s.heap.size = h0 + n0) (hn : n0 ≤ n) (hP : va_P D ncl (wd ca h0 b n I J R) H) (hS : va_S A s.heap H locs) (k : H.size = h0 + n → W p l e rm s m args below meth c H locs (n - n0) (sl n - sl n0) Qw g) : W p l e rm s m args below meth c H locs (n - n0) (sl n - sl n0) Qw g := by
  intro T hT X
  have h1 := X.heapSize
  rw [hT, hs] at h1
  have h2 : h0 + n ≤ H.size := by
    by_cases h : n = n0
    · rw [h, ← hs]; exact hS.1
    · have h3 := (hP (n - 1) _ (wd_get (a := n) (by omega) (Nat.le_refl n))).lt
      rw [show (ad h0 b n, celE ca h0 b I J R n).1 = h0 + (n - 1) from ad_pos (by omega)] at h3
      omega
  exact k (by omega) T hT X
theorem fpt0 {n : Nat} {ph : Bool} {ci k of : Nat} {st : List Value} {I : Im} {J : Jm} {R : Rm} {K : List Value → Im → Jm → Rm → Prop} (h : fpt n ph ci k 0 of st I J R K) : sRI st fun o x r => bif isO n o ci then K r (uI I o k x) J R else False := h
theorem fpt1 {n : Nat} {ph : Bool} {ci k of : Nat} {st : List Value} {I : Im} {J : Jm} {R : Rm} {K : List Value → Im → Jm → Rm → Prop} (h : fpt n ph ci k 1 of st I J R K) : sRI st fun o x r => bif isO n o ci then (x = 0 ∨ x = 1) ∧ K r (uI I o k x) J R else False := h
theorem fpt2 {n : Nat} {ph : Bool} {ci k of : Nat} {st : List Value} {I : Im} {J : Jm} {R : Rm} {K : List Value → Im → Jm → Rm → Prop} (h : fpt n ph ci k 2 of st I J R K) : sRL st fun o x r => bif isO n o ci then K r I (uJ J o k x) R else False := h
theorem fpt3 {n : Nat} {ph : Bool} {ci k of : Nat} {st : List Value} {I : Im} {J : Jm} {R : Rm} {K : List Value → Im → Jm → Rm → Prop} (h : fpt n ph ci k 3 of st I J R K) : sRR st fun o v r => bif isO n o ci then ¬ v = 0 ∧ K r I J (uR R o k v) else False := h
theorem fpt4 {n : Nat} {ph : Bool} {ci k of : Nat} {st : List Value} {I : Im} {J : Jm} {R : Rm} {K : List Value → Im → Jm → Rm → Prop} (h : fpt n ph ci k 4 of st I J R K) : sRR st fun o v r => bif isO n o ci then (bif ph then False else (bif Nat.beq v (o + of) then K r I J (uR R o k v) else False)) else False := h
theorem fpt5 {n : Nat} {ph : Bool} {ci k kd of : Nat} {st : List Value} {I : Im} {J : Jm} {R : Rm} {K : List Value → Im → Jm → Rm → Prop} (h : fpt n ph ci k (kd + 5) of st I J R K) : False := h
set_option maxHeartbeats 4000000 in
theorem put_ok (C : Ctx p rm s m args meth c own cc nL ini Ts D ca h0 b n0 nend L A isl xs) {pc i n ci k kd of : Nat} {lv : Lv} {st : List Value} {I : Im} {J : Jm} {R : Rm} (hdg : decode cc pc = .ok (.putfield i, 3)) (hw : Cond.fieldLink own i (clT ci k).1 (clT ci k).2.1 (clT ci k).2.2.1 ∈ wsG) (hci : ci < 13) (hk : k < clN ci) 
    (hty : (match kd with
      | 0 => decide (clY ci k = .int ∧ (clT ci k).2.2.2 = false)
      | 1 => decide (clY ci k = .boolean ∧ (clT ci k).2.2.2 = false)
      | 2 => decide (clY ci k = .long ∧ (clT ci k).2.2.2 = false)
      | 3 => isRefTy (clY ci k) && decide ((clT ci k).2.2.2 = false)
      | _ => isRefTy (clY ci k) && (decide ((clT ci k).2.2.2 = true ∧ (clT ci k).1 = own) && Nat.beq ini 1)) = true) (hkd : kd = fkd ci k) (hof : of = fof ci k)
    (h : fpt n ph ci k kd of st I J R (fun r I J R => PW p l e rm s m args below meth c Qw nL D ca h0 b n0 A ph (pc + 3) n lv r I J R)) : PW p l e rm s m args below meth c Qw nL D ca h0 b n0 A ph pc n lv st I J R := by
  intro H locs ls hn hph hP hS hl
  have rN : ∀ (ty : FieldType) (a : Nat), isRefTy ty = true → narrow ty (.ref a) = .ref a ∧ fits ty (.ref a) = true := by
    intro ty a hq
    cases ty <;> first | exact ⟨rfl, rfl⟩ | cases hq
  rcases kd with _ | _ | _ | _ | kd
  · have hty := of_decide_eq_true hty
    replace h := fpt0 h
    unfold sRI at h
    split at h
    · rename_i x o r
      cases ho : isO n o ci with
      | false => rw [ho] at h; exact h.elim
      | true =>
        rw [ho] at h
        exact fput C hdg hw hci hk (Or.inl hty.2) (by rw [hty.1]; rfl) (by rw [hty.1]; rfl) ho (fst_I (Or.inl hkd.symm)) (fun a ha => uI_ne ha) (fun _ _ => rfl) (fun _ _ => rfl) (fun _ q => q) h hn hph hP hS hl
    · exact h.elim
  · have hty := of_decide_eq_true hty
    replace h := fpt1 h
    unfold sRI at h
    split at h
    · rename_i x o r
      cases ho : isO n o ci with
      | false => rw [ho] at h; exact h.elim
      | true =>
        rw [ho] at h
        obtain ⟨hx01, h⟩ := h
        exact fput C hdg hw hci hk (Or.inl hty.2) (by rw [hty.1]; rcases hx01 with rfl | rfl <;> rfl) (by rw [hty.1]; rcases hx01 with rfl | rfl <;> rfl) ho (fst_I (Or.inr hkd.symm)) (fun a ha => uI_ne ha) (fun _ _ => rfl) (fun _ _ => rfl) (fun _ q => q) h hn hph hP hS hl
    · exact h.elim
  · have hty := of_decide_eq_true hty
    replace h := fpt2 h
    unfold sRL at h
    split at h
    · rename_i x o r
      cases ho : isO n o ci with
      | false => rw [ho] at h; exact h.elim
      | true =>
        rw [ho] at h
        exact fput C hdg hw hci hk (Or.inl hty.2) (by rw [hty.1]; rfl) (by rw [hty.1]; rfl) ho (fst_J hkd.symm) (fun _ _ => rfl) (fun a ha => uJ_ne ha) (fun _ _ => rfl) (fun _ q => q) h hn hph hP hS hl
    · exact h.elim
  · simp only [Bool.and_eq_true, decide_eq_true_eq] at hty
    replace h := fpt3 h
    unfold sRR at h
    split at h
    · rename_i v o r
      cases ho : isO n o ci with
      | false => rw [ho] at h; exact h.elim
      | true =>
        rw [ho] at h
        obtain ⟨hv0, h⟩ := h
        exact fput C hdg hw hci hk (Or.inl hty.2) (rN _ _ hty.1).1 (rN _ _ hty.1).2 ho (fst_R (Or.inl ⟨hkd.symm, rfl⟩) hv0) (fun _ _ => rfl) (fun _ _ => rfl) (fun a ha => uR_ne ha) (fun _ q => Fl_up q hv0) h hn hph hP hS hl
    · exact h.elim
  · rcases kd with _ | kd
    · have hty : (isRefTy (clY ci k) && (decide ((clT ci k).2.2.2 = true ∧ (clT ci k).1 = own) && Nat.beq ini 1)) = true := hty
      simp only [Bool.and_eq_true, decide_eq_true_eq] at hty
      replace h := fpt4 h
      unfold sRR at h
      split at h
      · rename_i v o r
        cases ho : isO n o ci with
        | false => rw [ho] at h; exact h.elim
        | true =>
          rw [ho] at h
          cases hph1 : ph with
          | true => rw [hph1] at h; exact h.elim
          | false =>
            rw [hph1] at h
            cases hvo : Nat.beq v (o + of) with
            | false => rw [hvo] at h; exact h.elim
            | true =>
              rw [hvo] at h
              have hv1 := Nat.eq_of_beq_eq_true hvo
              have ho1 := (isO_spec ho).1
              subst hph1
              exact fput C hdg hw hci hk (Or.inr ⟨hty.2.1.1, hty.2.1.2, Nat.eq_of_beq_eq_true hty.2.2⟩) (rN _ _ hty.1).1 (rN _ _ hty.1).2 ho (fst_R (Or.inr ⟨hkd.symm, by rw [hv1, hof]⟩) (by omega)) (fun _ _ => rfl) (fun _ _ => rfl) (fun a ha => uR_ne ha) (fun q => by cases q) h hn (fun q => by cases q) hP hS hl
      · exact h.elim
    · exact (fpt5 h).elim
end SND
end PT1x1
section PT1x2
section SND2
variable {p : Program} {l : Launch} {e : Env} {rm : Room} {s : State} {m : MethodId} {args : Array Value} {below : List Frame} {meth : Method} {c : Code} {Qw : State → Prop}
variable {own : String} {cc : ByteArray} {nL ini : Nat} {Ts : List Cond} {D : va_G} {ca : Nat → ClassId} {h0 b n0 nend L : Nat} {A : Nat → Prop} {ph isl : Bool} {xs : Nat → Int32}
theorem wd_arr {n a t : Nat} {I : Im} {J : Jm} {R : Rm} (h : isA n a t = true) : (wd ca h0 b n I J R)[a - 1]? = some (ad h0 b a, .inl (ca t, aL a, arE h0 b I J R a t)) := by
  obtain ⟨o1, o2, o3⟩ := isA_spec h
  rw [wd_get o1 o2, celE_a o3]
theorem wd_obj {n o ci : Nat} {I : Im} {J : Jm} {R : Rm} (h : isO n o ci = true) (hc : ci < 13) : (wd ca h0 b n I J R)[o - 1]? = some (ad h0 b o, .inr (ci, flds h0 b I J R o ci)) := by
  obtain ⟨o1, o2, o3⟩ := isO_spec h
  rw [wd_get o1 o2, celE_o o3 (by omega)]
theorem wd_seta {n a t : Nat} {I I' : Im} {J J' : Jm} {R R' : Rm} {x : (Nat → Int32) ⊕ (Nat → Int64) ⊕ (Nat → UInt32) ⊕ (Nat → UInt64) ⊕ (Nat → Option Nat)} (h : isA n a t = true) (hx : arE h0 b I' J' R' a t = x) (h1 : ∀ i, i ≠ a → I' i = I i) (h2 : ∀ i, i ≠ a → J' i = J i) (h3 : ∀ i, i ≠ a → R' i = R i) :
    (wd ca h0 b n I J R).set (a - 1) (ad h0 b a, .inl (ca t, aL a, x)) = wd ca h0 b n I' J' R' := by
  obtain ⟨o1, o2, o3⟩ := isA_spec h
  exact wd_set o1 o2 (by rw [celE_a o3, hx]) (fun i hi => celE_I (h1 i hi) (h2 i hi) (h3 i hi))
theorem aL_le (a : Nat) : aL a ≤ 4096 := by
  rcases Nat.lt_or_ge (a - 1) 112 with h | h
  · have q : ∀ i, i < 112 → (shl.getD i (999, 0)).2 ≤ 4096 := by decide +kernel
    exact q _ h
  · unfold aL
    rw [sh_out h]
    exact Nat.zero_le _
theorem dflt_ok : ∀ ci, ci < 13 → ∀ k, k < clN ci → defaultValue (clY ci k) = (match fkd ci k with
  | 0 => .int 0
  | 1 => .int 0
  | 2 => .long 0
  | _ => .null) := by decide +kernel
set_option maxHeartbeats 4000000 in
theorem new_ok (C : Ctx p rm s m args meth c own cc nL ini Ts D ca h0 b n0 nend L A isl xs) {pc i n ci : Nat} {lv : Lv} {st : List Value} {I : Im} {J : Jm} {R : Rm} (hdg : decode cc pc = .ok (.new i, 3)) (hw : ∀ w ∈ [Cond.classLink own i (clC ci), .instantiable (clC ci) (clN ci), .initialized (clC ci)], w ∈ wsG) (hci : ci < 13) (ho : isO (n + 1) (n + 1) ci = true) (hne : n + 1 ≤ nend) (hph : ph = false)
    (h : PW p l e rm s m args below meth c Qw nL D ca h0 b n0 A ph (pc + 3) (n + 1) lv (.ref (n + 1) :: st) (zI I (n + 1)) (zJ J (n + 1)) (zR R (n + 1))) : PW p l e rm s m args below meth c Qw nL D ca h0 b n0 A ph pc n lv st I J R := by
  intro H locs ls hn _ hP hS hl
  obtain ⟨hx, hb, hml, hown, hts, hG, hK, hNN, hA, hs0, hini, hroom, -⟩ := C
  refine W_sz hs0 hn hP hS (fun hsz => ?_)
  have ho3 := (isO_spec ho).2.2
  rw [Nat.add_sub_cancel] at ho3
  have hsl : sl (n + 1) = sl n + clN ci := by rw [sl, ho3, if_pos (by omega)]
  have hm1 : sl (n + 1) ≤ sl nend := sl_le hne
  have hm2 : sl n0 ≤ sl n := sl_le hn
  refine W.newcK (n := clN ci) hx hb hown (hts (.classLink own i (clC ci)) (hG _ (hw _ (by simp)))) (hts (.instantiable (clC ci) (clN ci)) (hG _ (hw _ (by simp)))) (hts (.initialized (clC ci)) (hG _ (hw _ (by simp)))) rfl hdg (by omega) (by omega) (hK.1 ci _ (ncl_get ci hci)).2.1 hsz fun H1 kC hkC e1 z1 o1 => ?_
  refine W.cs (cells' := n + 1 - n0) (slots' := sl (n + 1) - sl n0) (by omega) (by omega) ?_
  have hk : ∀ (k : Nat) (x : Nat × va_E), (wd ca h0 b n I J R)[k]? = some x → H1[x.1]? = H[x.1]? := fun k x hx => o1 x.1 (hsz ▸ (hP k x hx).lt)
  have hP1 : va_P D ncl (wd ca h0 b (n + 1) (zI I (n + 1)) (zJ J (n + 1)) (zR R (n + 1))) H1 := by
    rw [← wd_add (e := .inr (ci, flds h0 b (zI I (n + 1)) (zJ J (n + 1)) (zR R (n + 1)) (n + 1) ci)) (celE_o (by rw [Nat.add_sub_cancel]; exact ho3) (by omega)) (fun i hi => celE_I (zI_ne hi) (zJ_ne hi) (zR_ne hi))]
    refine (hP.kept hk).app (fun k x hx => ?_)
    have hz : k < 1 := (List.getElem?_eq_some_iff.mp hx).1
    rw [show k = 0 by omega] at hx
    cases hx
    refine ⟨_, ncl_get ci hci, (u_born (clY ci) hts (fun w hw => hG w (ucl ci hci w hw)) (hK.1 ci _ (ncl_get ci hci)) hkC e1 (clY_ok ci hci)).to (fun k hk => ?_)⟩
    have hq : vp_V (flds h0 b (zI I (n + 1)) (zJ J (n + 1)) (zR R (n + 1)) (n + 1) ci) k = fvl h0 b (zI I (n + 1)) (zJ J (n + 1)) (zR R (n + 1)) (n + 1) (fkd ci k) (fof ci k) k := by
      unfold vp_V
      rw [List.getD_eq_getElem?_getD]
      simp [flds, hk]
    rw [hq, dflt_ok ci hci k hk]
    have z1 : zI I (n + 1) (n + 1) k = 0 := by simp [zI]
    have z2 : zJ J (n + 1) (n + 1) k = 0 := by simp [zJ]
    have z3 : zR R (n + 1) (n + 1) k = 0 := by simp [zR]
    generalize fkd ci k = kd
    rcases kd with _ | _ | _ | _ | kd <;> simp [fvl, z1, z2, z3]
  have hS1 : va_S A s.heap H1 locs := ⟨Nat.le_trans hS.1 (by omega), fun x h1 h2 => (o1 x (Nat.lt_of_lt_of_le h1 (hsz ▸ hS.1))).trans (hS.2.1 x h1 h2), hS.2.2⟩
  exact h H1 locs ls (by omega) (fun q => by rw [hph] at q; cases q) hP1 hS1 hl
set_option maxHeartbeats 4000000 in
theorem newa_ok (C : Ctx p rm s m args meth c own cc nL ini Ts D ca h0 b n0 nend L A isl xs) {pc n t : Nat} {aty' : ArrayType} {lv : Lv} {r : List Value} {x : Int32} {I : Im} {J : Jm} {R : Rm} (hdg : decode cc pc = .ok (.newarray aty', 2)) (hw : Cond.arrayClass (newarray.typeOf aty') ∈ wsG) (hty : newarray.typeOf aty' = aty t) (ht : t < 3) (ho : isA (n + 1) (n + 1) t = true) (hne : n + 1 ≤ nend) (hph : ph = false) (hxe : x = Int32.ofNat (aL (n + 1)))
    (h : PW p l e rm s m args below meth c Qw nL D ca h0 b n0 A ph (pc + 2) (n + 1) lv (.ref (n + 1) :: r) (zI I (n + 1)) (zJ J (n + 1)) (zR R (n + 1))) : PW p l e rm s m args below meth c Qw nL D ca h0 b n0 A ph pc n lv (.int x :: r) I J R := by
  intro H locs ls hn _ hP hS hl
  obtain ⟨hx, hb, hml, hown, hts, hG, hK, hNN, hA, hs0, hini, hroom, -⟩ := C
  refine W_sz hs0 hn hP hS (fun hsz => ?_)
  have ho3 := (isA_spec ho).2.2
  have ho4 := ho3
  rw [Nat.add_sub_cancel] at ho4
  have hal : aL (n + 1) = (shl.getD n (999, 0)).2 := by unfold aL; rw [Nat.add_sub_cancel]
  have hsl : sl (n + 1) = sl n + aL (n + 1) := by rw [sl, ho4, if_neg (by omega), hal]
  have hm1 : sl (n + 1) ≤ sl nend := sl_le hne
  have hm2 : sl n0 ≤ sl n := sl_le hn
  have hle := aL_le (n + 1)
  have hN : x.toNatClampNeg = aL (n + 1) := by rw [hxe]; exact nI_clamp (by omega)
  have hn1 : ¬ x < 0 := by rw [hxe]; exact nI_pos (by omega)
  have hcb : componentBytes (newarray.typeOf aty') ≤ 8 := by cases aty' <;> decide
  refine va_newaK hx hb (hts _ (hG _ hw)) rfl hdg rfl hn1 hN (Nat.le_trans (Nat.mul_le_mul hle hcb) (by decide)) (by omega) (by omega) hsz fun H1 cA e1 z1 o1 hAr hNm => ?_
  have hcA : cA = ca t := by
    have hq : (ntys ca)[t]? = some (ca t, aty t) := by
      rcases (show t = 0 ∨ t = 1 ∨ t = 2 by omega) with rfl | rfl | rfl <;> rfl
    have h1 := (hK.2 t _ hq).2
    rw [hty] at hNm
    have h2 : s.vm.findClass ("[" ++ (aty t).toString) = some (ca t) := by
      rcases (show t = 0 ∨ t = 1 ∨ t = 2 by omega) with rfl | rfl | rfl <;> exact h1
    exact Option.some.inj (hNm.symm.trans h2)
  refine W.cs (cells' := n + 1 - n0) (slots' := sl (n + 1) - sl n0) (by omega) (by omega) ?_
  have hk : ∀ (k : Nat) (x : Nat × va_E), (wd ca h0 b n I J R)[k]? = some x → H1[x.1]? = H[x.1]? := fun k x hx => o1 x.1 (hsz ▸ (hP k x hx).lt)
  have hP1 : va_P D ncl (wd ca h0 b (n + 1) (zI I (n + 1)) (zJ J (n + 1)) (zR R (n + 1))) H1 := by
    rw [← wd_add (e := .inl (ca t, aL (n + 1), arE h0 b (zI I (n + 1)) (zJ J (n + 1)) (zR R (n + 1)) (n + 1) t)) (celE_a ho3) (fun i hi => celE_I (zI_ne hi) (zJ_ne hi) (zR_ne hi))]
    refine (hP.kept hk).app (fun k x hx => ?_)
    have hz : k < 1 := (List.getElem?_eq_some_iff.mp hx).1
    rw [show k = 0 by omega] at hx
    cases hx
    show H1[h0 + n]? = some (vp_cell _ _)
    rw [e1, hcA, hty]
    have y1 : zI I (n + 1) (n + 1) = fun _ => 0 := by simp [zI]
    have y2 : zJ J (n + 1) (n + 1) = fun _ => 0 := by simp [zJ]
    rcases (show t = 0 ∨ t = 1 ∨ t = 2 by omega) with rfl | rfl | rfl <;> simp [arE, y1, y2, vp_cell, aty, defaultValue]
  have hS1 : va_S A s.heap H1 locs := ⟨Nat.le_trans hS.1 (by omega), fun x h1 h2 => (o1 x (Nat.lt_of_lt_of_le h1 (hsz ▸ hS.1))).trans (hS.2.1 x h1 h2), hS.2.2⟩
  exact h H1 locs ls (by omega) (fun q => by rw [hph] at q; cases q) hP1 hS1 hl
set_option maxHeartbeats 4000000 in
theorem newq_ok (C : Ctx p rm s m args meth c own cc nL ini Ts D ca h0 b n0 nend L A isl xs) {pc i n t : Nat} {lv : Lv} {r : List Value} {x : Int32} {I : Im} {J : Jm} {R : Rm} (hdg : decode cc pc = .ok (.anewarray i, 3)) (hw : Cond.classLink own i (elC t) ∈ wsG) (ht : t < 3) (ho : isA (n + 1) (n + 1) (3 + t) = true) (hne : n + 1 ≤ nend) (hph : ph = false) (hxe : x = Int32.ofNat (aL (n + 1)))
    (h : PW p l e rm s m args below meth c Qw nL D ca h0 b n0 A ph (pc + 3) (n + 1) lv (.ref (n + 1) :: r) (zI I (n + 1)) (zJ J (n + 1)) (zR R (n + 1))) : PW p l e rm s m args below meth c Qw nL D ca h0 b n0 A ph pc n lv (.int x :: r) I J R := by
  intro H locs ls hn _ hP hS hl
  obtain ⟨hx, hb, hml, hown, hts, hG, hK, hNN, hA, hs0, hini, hroom, -⟩ := C
  refine W_sz hs0 hn hP hS (fun hsz => ?_)
  have ho3 := (isA_spec ho).2.2
  have ho4 := ho3
  rw [Nat.add_sub_cancel] at ho4
  have hal : aL (n + 1) = (shl.getD n (999, 0)).2 := by unfold aL; rw [Nat.add_sub_cancel]
  have hsl : sl (n + 1) = sl n + aL (n + 1) := by rw [sl, ho4, if_neg (by omega), hal]
  have hm1 : sl (n + 1) ≤ sl nend := sl_le hne
  have hm2 : sl n0 ≤ sl n := sl_le hn
  have hle := aL_le (n + 1)
  have hN : x.toNatClampNeg = aL (n + 1) := by rw [hxe]; exact nI_clamp (by omega)
  have hn1 : ¬ x < 0 := by rw [hxe]; exact nI_pos (by omega)
  refine W.anew hx hb hown (hts _ (hG _ hw)) (va_AO.use (hNN.1.2 t ht)) rfl hdg rfl hn1 (by rw [hN]; omega) (by omega) (by rw [hN]; omega) fun cA kA comp f1 f2 f3 f4 => ?_
  have hq : (ntys ca)[3 + t]? = some (ca (3 + t), aty (3 + t)) := by
    rcases (show t = 0 ∨ t = 1 ∨ t = 2 by omega) with rfl | rfl | rfl <;> rfl
  have hcA : cA = ca (3 + t) := by
    obtain ⟨kA2, comp2, g1, g2, g3, g4⟩ : ∃ (kA : Class) (comp : ClassId), s.vm.classes[ca (3 + t)]? = some kA ∧ kA.kind = .array comp (.object (elC t)) ∧ s.vm.findClass (elC t) = some comp ∧ s.vm.findClass ("[" ++ (FieldType.object (elC t)).toString) = some (ca (3 + t)) := by
      have h1 := (hK.2 (3 + t) _ hq).2
      rcases (show t = 0 ∨ t = 1 ∨ t = 2 by omega) with rfl | rfl | rfl <;> exact h1
    exact Option.some.inj (f1.symm.trans g4)
  rw [hN]
  refine W.cs (cells' := n + 1 - n0) (slots' := sl (n + 1) - sl n0) (by omega) (by omega) ?_
  generalize hH1 : H.push ({ cls := cA, slots := Array.replicate (aL (n + 1)) .null, vm := .none } : Cell) = H1
  have z1 : H1.size = H.size + 1 := by rw [← hH1, Array.size_push]
  have e1 : H1[h0 + n]? = some (arrV cA (aL (n + 1)) (fun _ => .null)) := by rw [← hH1, ← hsz, Array.getElem?_push_size, ← arrV_new]
  have o1 : ∀ q : Nat, q < h0 + n → H1[q]? = H[q]? := fun q hq => by rw [← hH1, Array.getElem?_push, if_neg (Nat.ne_of_lt (hsz ▸ hq))]
  have hk : ∀ (k : Nat) (x : Nat × va_E), (wd ca h0 b n I J R)[k]? = some x → H1[x.1]? = H[x.1]? := fun k x hx => o1 x.1 (hsz ▸ (hP k x hx).lt)
  have hP1 : va_P D ncl (wd ca h0 b (n + 1) (zI I (n + 1)) (zJ J (n + 1)) (zR R (n + 1))) H1 := by
    rw [← wd_add (e := .inl (ca (3 + t), aL (n + 1), arE h0 b (zI I (n + 1)) (zJ J (n + 1)) (zR R (n + 1)) (n + 1) (3 + t))) (celE_a ho3) (fun i hi => celE_I (zI_ne hi) (zJ_ne hi) (zR_ne hi))]
    refine (hP.kept hk).app (fun k x hx => ?_)
    have hz : k < 1 := (List.getElem?_eq_some_iff.mp hx).1
    rw [show k = 0 by omega] at hx
    cases hx
    show H1[h0 + n]? = some (vp_cell _ _)
    have y3 : zR R (n + 1) (n + 1) = fun _ => 0 := by simp [zR]
    rw [e1, hcA]
    rcases (show t = 0 ∨ t = 1 ∨ t = 2 by omega) with rfl | rfl | rfl <;> simp [arE, y3, vp_cell, va_rf]
  have hS1 : va_S A s.heap H1 locs := ⟨Nat.le_trans hS.1 (by omega), fun x h1 h2 => (o1 x (Nat.lt_of_lt_of_le h1 (hsz ▸ hS.1))).trans (hS.2.1 x h1 h2), hS.2.2⟩
  have hg : (F0 m (pc + 3) ls (Value.ref (h0 + n) :: r.map (cv h0 b)) : JFrame) = F0 m (pc + 3) ls ((Value.ref (n + 1) :: r).map (cv h0 b)) := rfl
  rw [hsz]
  exact h H1 locs ls (by omega) (fun q => by rw [hph] at q; cases q) hP1 hS1 hl
end SND2
end PT1x2
section PT1x3
section SND3
variable {p : Program} {l : Launch} {e : Env} {rm : Room} {s : State} {m : MethodId} {args : Array Value} {below : List Frame} {meth : Method} {c : Code} {Qw : State → Prop}
variable {own : String} {cc : ByteArray} {nL ini : Nat} {Ts : List Cond} {D : va_G} {ca : Nat → ClassId} {h0 b n0 nend L : Nat} {A : Nat → Prop} {ph isl : Bool} {xs : Nat → Int32}
theorem Wok.blind {n : Nat} {I : Im} {J : Jm} {R : Rm} {av : List Value} : FrameBlind (va_Pc av (fun U => Wok D ca h0 b n I J R U)) := fun a U g mk q =>
  ⟨q.1, q.2.1, q.2.2.1, va_K.moved (u := U) (U := U.calling g mk a) (Vm.Alike.refl U.vm) q.2.2.2.1, NN.warm (s := U) (U := U.calling g mk a) (State.WarmedH.refl U) q.2.2.2.2.1, SKp.next (s := U) (U := U.calling g mk a) (State.WarmedH.refl U) (fun _ _ _ => rfl) q.2.2.2.2.2⟩
theorem wsM_good {q : Mt} {Ts : List Cond} (hG : ∀ w ∈ wsG, w ∈ Ts) (hq : qW q ∈ wsG) : GoodIn Ts (wsM q) := by
  intro w hw
  rcases List.mem_cons.mp hw with rfl | h
  · exact ⟨hG _ hq, good_of_word (wsG_good hq)⟩
  · exact ⟨hG _ h, good_of_word (wsG_good h)⟩
theorem good_list {Ts ws : List Cond} (hG : ∀ w ∈ wsG, w ∈ Ts) (h : ∀ w ∈ ws, w ∈ wsG) : GoodIn Ts ws := fun w hw => ⟨hG _ (h w hw), good_of_word (wsG_good (h w hw))⟩
theorem good_app {Ts a b : List Cond} (ha : GoodIn Ts a) (hb : GoodIn Ts b) : GoodIn Ts (a ++ b) := fun w h => (List.mem_append.mp h).elim (ha w) (hb w)
theorem okCall_spec {q : Mt} {na rk al ci ph1 kr : Nat} (h : okCall q na rk al ci ph1 kr = true) : rk = qRk q ∧ al = qAl q ∧ ph1 = qPh q ∧ kr = qKr q ∧ na = qNa q ∧ (q.2.1.cls ≠ "java/lang/invoke/MethodHandle" ∧ q.2.1.cls ≠ "java/lang/invoke/VarHandle" ∧ (parseMethodDescriptor q.2.1.desc).map (fun d => d.parameters.length) = some (na - qIns q)) ∧ qL q ≤ 16 := by
  simp only [okCall, Bool.and_eq_true, decide_eq_true_eq] at h
  exact ⟨Nat.eq_of_beq_eq_true h.1, Nat.eq_of_beq_eq_true h.2.1, Nat.eq_of_beq_eq_true h.2.2.1, Nat.eq_of_beq_eq_true h.2.2.2.1, Nat.eq_of_beq_eq_true h.2.2.2.2.1, h.2.2.2.2.2.1, Nat.le_of_ble_eq_true h.2.2.2.2.2.2⟩
/-- behind a call, whatever it answers -/
theorem aft_ok (C : Ctx p rm s m args meth c own cc nL ini Ts D ca h0 b n0 nend L A isl xs) {q : Mt} {pc n rk al kr : Nat} {lv : Lv} {st st0 : List Value} {I : Im} {J : Jm} {R : Rm} {H : Heap} {locs : List Loc} {ls : Array Slot} {a : Array Value}
    (hrk : rk ≤ 3) (hn : n0 ≤ n) (hph : ph = true → Fl R ∧ n = nAll) (hpk : ph = true → kr = 1 ∧ al = 0) (hP : va_P D ncl (wd ca h0 b n I J R) H) (hS : va_S A s.heap H locs) (hl : lv_has ls nL (lvm h0 b lv)) (hz : H.size = h0 + n)
    (hr : va_Run p l e rm s m args below meth c H locs (n - n0) (sl n - sl n0) al (sl (n + al) - sl n) (F0 m pc ls st0) (st.map (cv h0 b)) (mPost D ca h0 b (n + al) rk kr R (fun x y I' J' R' => bf rk x (PW p l e rm s m args below meth c Qw nL D ca h0 b n0 A ph (pc + 3) (n + al) lv (psh rk x y st) I' J' (bif Nat.beq kr 1 then R else R'))) (mFree ca h0 b n I J R) a) (mFree ca h0 b n I J R)) :
    W p l e rm s m args below meth c H locs (n - n0) (sl n - sl n0) Qw (F0 m pc ls st0) := by
  obtain ⟨hx, hb, hml, hown, hts, hG, hK, hNN, hA, hs0, -⟩ := C
  have fin : ∀ (u : St3) (st1 : List Value) (t : State) (H1 : Heap) (locs1 : List Loc), (kr = 1 → u.2.2 = R) → PW p l e rm s m args below meth c Qw nL D ca h0 b n0 A ph (pc + 3) (n + al) lv st1 u.1 u.2.1 (bif Nat.beq kr 1 then R else u.2.2) → t.heap = H1 → (t.heap.size = h0 + (n + al) ∧ va_P D ncl (wd ca h0 b (n + al) u.1 u.2.1 u.2.2) t.heap) → va_S A s.heap H1 locs1 →
      W p l e rm s m args below meth c H1 locs1 (n - n0 + al) (sl n - sl n0 + (sl (n + al) - sl n)) Qw (F0 m (pc + 3) ls (st1.map (cv h0 b))) := by
    intro u st1 t H1 locs1 hkr hpw ht hB hS1
    have h1 : sl n ≤ sl (n + al) := sl_mono
    have h2 : sl n0 ≤ sl n := sl_le hn
    refine W.cs (cells' := n + al - n0) (slots' := sl (n + al) - sl n0) (by omega) (by omega) ?_
    have hR : (bif Nat.beq kr 1 then R else u.2.2) = u.2.2 := by
      cases hk : Nat.beq kr 1 with
      | false => rfl
      | true => exact (hkr (Nat.eq_of_beq_eq_true hk)).symm
    refine hpw H1 locs1 ls (by omega) (fun q => ?_) (by rw [hR, ← ht]; exact hB.2) hS1 hl
    obtain ⟨k1, k2⟩ := hpk q
    rw [k1, k2]
    exact ⟨(hph q).1, (hph q).2⟩
  have hA1 : ∀ q, q < H.size → mFree ca h0 b n I J R q → A q := fun q _ hq => hA q (mFree_ge.mp hq)
  have hA2 : ∀ q, mFree ca h0 b n I J R q → A q := fun q hq => hA q (mFree_ge.mp hq)
  rcases rk with _ | _ | _ | rk
  · refine va_callv (a := a) hr hS hA1 hA2 (fun u t H1 locs1 ht hvm hp hB hz1 hk1 hS1 => ?_)
    exact fin u _ t H1 locs1 hp.1 hp.2 ht hB hS1
  · refine va_calli (a := a) hr hS hA1 hA2 (fun x u t H1 locs1 ht hvm hp hB hz1 hk1 hS1 => ?_)
    exact fin u _ t H1 locs1 hp.1 hp.2 ht hB hS1
  · refine va_calli (a := a) hr hS hA1 hA2 (fun x u t H1 locs1 ht hvm hp hB hz1 hk1 hS1 => ?_)
    exact fin u _ t H1 locs1 hp.2.1 (hp.2.2 hp.1) ht hB hS1
  · rcases rk with _ | rk
    · refine va_calll (a := a) hr hS hA1 hA2 (fun x u t H1 locs1 ht hvm hp hB hz1 hk1 hS1 => ?_)
      exact fin u _ t H1 locs1 hp.1 hp.2 ht hB hS1
    · omega
set_option maxHeartbeats 4000000 in
/-- a call -/
theorem call_ok (C : Ctx p rm s m args meth c own cc nL ini Ts D ca h0 b n0 nend L A isl xs) {d : Nat} (IH : MetD l d) (hd : d + 1 ≤ rm.frames ∧ 64 * (d + 1) ≤ rm.locals) {pc n kind mi na rk al ci ph1 kr : Nat} {i : Jvm.ClassFile.Instr} {lv : Lv} {st : List Value} {I : Im} {J : Jm} {R : Rm}
    (hdg : decode cc pc = .ok (i, 3)) (hw : ∀ w ∈ needE own (pc, i, 3, [kind, mi, na, rk, al, ci, ph1, kr], [], 0), w ∈ wsG)
    (hok : okCall (mQ mi) na rk al ci ph1 kr = true) (hmi : mi < nMth) (hrk3 : qRk (mQ mi) ≤ 3)
    (hkind : ((∃ j, i = .invokevirtual j) ∧ kind = 0 ∧ (mQ mi).2.1.cls = clC ci ∧ qIns (mQ mi) = 1 ∧ ci < 13) ∨ ((∃ j, i = .invokestatic j ∧ (kind = 11 → (own, j, (mQ mi).2.1) ∈ nestW)) ∧ (kind = 1 ∨ kind = 11) ∧ qIns (mQ mi) = 0) ∨ ((∃ j, i = .invokespecial j ∧ (kind = 12 → (own, j, (mQ mi).2.1) ∈ nestW)) ∧ (kind = 2 ∨ kind = 12) ∧ qIns (mQ mi) = 1 ∧ (mQ mi).2.1.name = "<init>" ∧ (mQ mi).2.2.2.1 = none))
    (h : cal (AM d) ph nend (PW p l e rm s m args below meth c Qw nL D ca h0 b n0 A ph) pc n lv st I J R kind mi na rk al ci ph1 kr) : PW p l e rm s m args below meth c Qw nL D ca h0 b n0 A ph pc n lv st I J R := by
  intro H locs ls hn hph hP hS hl
  obtain ⟨e1, e2, e3, e4, e5, e6, e7⟩ := okCall_spec hok
  unfold cal at h
  cases hc : ((Nat.ble na st.length && (Nat.ble (n + al) nend && (Nat.ble (cSum (st.drop na)) 8 && (bif ph then Nat.beq kr 1 && Nat.beq al 0 else true)))) && (bif Nat.beq kind 1 || Nat.beq kind 11 then true else rcv n ci ((st.take na).reverse))) with
  | false => rw [hc] at h; exact h.elim
  | true =>
    rw [hc] at h
    obtain ⟨hF, hM⟩ : (qPh (mQ mi) = 1 → Fl R ∧ n = nAll) ∧ AM d mi n (st.take na).reverse I J R (fun x y I' J' R' => bf rk x (PW p l e rm s m args below meth c Qw nL D ca h0 b n0 A ph (pc + 3) (n + al) lv (psh rk x y (st.drop na)) I' J' (bif Nat.beq kr 1 then R else R'))) := by
      dsimp only [cond_true] at h
      cases hb1 : (Nat.beq ph1 1 && !ph) with
      | true => rw [hb1] at h; exact ⟨fun _ => h.1, h.2⟩
      | false =>
        rw [hb1] at h
        refine ⟨fun q => ?_, h⟩
        rw [e3, q] at hb1
        cases hp : ph with
        | true => exact hph hp
        | false => rw [hp] at hb1; exact absurd hb1 (by decide)
    simp only [Bool.and_eq_true] at hc
    obtain ⟨⟨c1, c2, c3, c4⟩, c5⟩ := hc
    have c1 := Nat.le_of_ble_eq_true c1
    have c2 := Nat.le_of_ble_eq_true c2
    have c3 := Nat.le_of_ble_eq_true c3
    have hpk : ph = true → kr = 1 ∧ al = 0 := by
      intro q
      rw [q] at c4
      simp only [cond_true, Bool.and_eq_true] at c4
      exact ⟨Nat.eq_of_beq_eq_true c4.1, Nat.eq_of_beq_eq_true c4.2⟩
    have hFl := hF
    obtain ⟨as, has⟩ : ∃ as, as = (st.take na).reverse := ⟨_, rfl⟩
    rw [← has] at hM c5
    have hst : st = as.reverse ++ st.drop na := by rw [has, List.reverse_reverse, List.take_append_drop]
    have hlen : as.length = na := by rw [has, List.length_reverse, List.length_take]; omega
    have met := IH D ca h0 b mi n as I J R _ hmi hFl hM
    refine W_sz C.2.2.2.2.2.2.2.2.2.1 hn hP hS (fun hsz => ?_)
    refine aft_ok (q := mQ mi) (rk := rk) (al := al) (kr := kr) (st := st.drop na) (a := (as.map (cv h0 b)).toArray) C (by omega) hn hph hpk hP hS hl hsz ?_
    obtain ⟨hx, hb, hml, hown, hts, hG, hK, hNN, hA, hs0, hini, hroom, -⟩ := C
    have hqw : qW (mQ mi) ∈ wsG := cw_all mi hmi
    have hm1 : sl (n + al) ≤ sl nend := sl_le c2
    have hm2 : sl n0 ≤ sl n := sl_le hn
    have hm3 : sl n ≤ sl (n + al) := sl_mono
    have hroom2 : (n - n0) + al ≤ rm.cells ∧ (sl n - sl n0) + (sl (n + al) - sl n) ≤ rm.slots := by omega
    have hrm : (rmD d al (sl (n + al) - sl n)).frames + 1 ≤ rm.frames ∧ 8 + (qL (mQ mi) + 11) + (rmD d al (sl (n + al) - sl n)).locals ≤ rm.locals := ⟨hd.1, by show 8 + (qL (mQ mi) + 11) + 64 * d ≤ rm.locals; omega⟩
    have hU : ∀ U : State, U.heap = H → s.WarmedH U.vm → va_Pc (as.map (cv h0 b)) (fun U => Wok D ca h0 b n I J R U) (as.map (cv h0 b)).toArray U := fun U hU hW => ⟨rfl, by rw [hU]; exact hsz, by rw [hU]; exact hP, va_K.moved hW.alike hK, NN.warm hW hNN.1, SKp.next hW (fun a h1 h2 => by rw [hU]; exact hS.2.1 a h1 (fun z => h2 (hNN.2.2 a z))) hNN.2.1⟩
    have hwd : 2 * (F0 m pc ls (st.map (cv h0 b))).monitorRoom + (((st.drop na).map (cv h0 b)).map fun v => v.category).sum ≤ 8 := by
      have := cSum_cv (h0 := h0) (b := b) (st.drop na)
      rw [this]
      show 2 * 0 + _ ≤ 8
      omega
    have hstk : st.map (cv h0 b) = (as.map (cv h0 b)).reverse ++ (st.drop na).map (cv h0 b) := by
      conv => lhs; rw [hst]
      rw [List.map_append, List.map_reverse]
    rw [e1, e2, e4] at *
    rcases hkind with ⟨⟨j, rfl⟩, hk0, hcls, hins, hci⟩ | ⟨⟨j, rfl, hnst⟩, hk0, hins⟩ | ⟨⟨j, rfl, hnst⟩, hk0, hins, hnm, hret⟩
    · subst hk0
      cases as with
      | nil => exact absurd c5 (by simp [rcv])
      | cons v as1 =>
        cases v with
        | ref o =>
          have ho : isO n o ci = true := c5
          have hlen1 : (as1.map (cv h0 b)).length = na - qIns (mQ mi) := by rw [hins, List.length_map]; simp at hlen; omega
          have hstk2 : st.map (cv h0 b) = (as1.map (cv h0 b)).reverse ++ .ref (ad h0 b o) :: (st.drop na).map (cv h0 b) := by rw [hstk]; simp [cv]
          exact va_runV (As := as1.map (cv h0 b)) (b := ad h0 b o) (rest := (st.drop na).map (cv h0 b)) ⟨hx, hb, hml, hown, hts⟩ met
            (cwV (na - qIns (mQ mi)) hts (by unfold wsV; exact good_app (good_list hG (fun w hw2 => hw w hw2)) (wsM_good hG hqw)) rfl rfl rfl ⟨hcls, e6⟩ hrm)
            ⟨Wok.blind, va_recv hK hP (ncl_get ci hci) (wd_obj ho hci), fun U hU1 hW => hU U hU1 hW⟩ rfl hlen1 hl.1 hstk2 hwd hdg hroom2
        | _ => exact absurd c5 (by simp [rcv])
    · have hlen1 : (as.map (cv h0 b)).length = na - qIns (mQ mi) := by rw [hins, List.length_map]; omega
      rcases hk0 with rfl | rfl
      · exact va_runS (As := as.map (cv h0 b)) (rest := (st.drop na).map (cv h0 b)) ⟨hx, hb, hml, hown, hts⟩ met
          (va_cwS (na - qIns (mQ mi)) hts (by unfold va_wsS; exact good_app (good_list hG (fun w hw2 => hw w hw2)) (wsM_good hG hqw)) rfl rfl rfl e6 hrm)
          ⟨Wok.blind, fun U hU1 hW => hU U hU1 hW⟩ rfl hlen1 hl.1 hstk hwd hdg hroom2
      · exact va_runSN (As := as.map (cv h0 b)) (rest := (st.drop na).map (cv h0 b)) (host := "BreadScribes") ⟨hx, hb, hml, hown, hts⟩ met
          ⟨va_cnB (na - qIns (mQ mi)) hts (wsM_good hG hqw) rfl rfl rfl (hNN.1.1 (own, j, (mQ mi).2.1) (hnst rfl)) (hts _ (hG _ (hw _ (by first | (simp [needE]; done) | exact List.mem_cons_self)))) e6 hrm, hts _ (hG _ (hw _ (by first | (simp [needE]; done) | exact List.mem_cons_self))), trivial⟩
          ⟨Wok.blind, fun U hU1 hW => hU U hU1 hW⟩ rfl hlen1 hl.1 hstk hwd hdg hroom2
    · cases as with
      | nil => exact absurd c5 (by rcases hk0 with rfl | rfl <;> simp [rcv])
      | cons v as1 =>
        cases v with
        | ref o =>
          have hlen1 : (as1.map (cv h0 b)).length = na - qIns (mQ mi) := by rw [hins, List.length_map]; simp at hlen; omega
          have hstk2 : st.map (cv h0 b) = (as1.map (cv h0 b)).reverse ++ .ref (ad h0 b o) :: (st.drop na).map (cv h0 b) := by rw [hstk]; simp [cv]
          have hwm : wsM (mQ mi) = Cond.code (mQ mi).2.1 (mQ mi).2.2.1 (qL (mQ mi)) none :: wsG := by unfold wsM qW; rw [hret]
          rcases hk0 with rfl | rfl
          · exact va_runI (As := as1.map (cv h0 b)) (b := ad h0 b o) (rest := (st.drop na).map (cv h0 b)) ⟨hx, hb, hml, hown, hts⟩ met
              (cwI (na - qIns (mQ mi)) hts (wsM_good hG hqw) hwm rfl rfl (hts _ (hG _ (hw _ (by first | (simp [needE]; done) | exact List.mem_cons_self)))) (hts _ (hG _ (hw _ (by first | (simp [needE]; done) | exact List.mem_cons_self)))) (hts _ (hG _ (hw _ (by first | (simp [needE]; done) | exact List.mem_cons_self)))) hnm e6 hrm)
              ⟨Wok.blind, fun U hU1 hW => hU U hU1 hW⟩ rfl hlen1 hl.1 hstk2 hwd hdg hroom2
          · exact va_runIN (As := as1.map (cv h0 b)) (b := ad h0 b o) (rest := (st.drop na).map (cv h0 b)) (host := "BreadScribes") ⟨hx, hb, hml, hown, hts⟩ met
              ⟨va_cnB (na - qIns (mQ mi)) hts (wsM_good hG hqw) hwm rfl rfl (hNN.1.1 (own, j, (mQ mi).2.1) (hnst rfl)) (hts _ (hG _ (hw _ (by first | (simp [needE]; done) | exact List.mem_cons_self)))) e6 hrm, hnm, hts _ (hG _ (hw _ (by first | (simp [needE]; done) | exact List.mem_cons_self)))⟩
              ⟨Wok.blind, fun U hU1 hW => hU U hU1 hW⟩ rfl hlen1 hl.1 hstk2 hwd hdg hroom2
        | _ => exact absurd c5 (by rcases hk0 with rfl | rfl <;> simp [rcv])
end SND3
end PT1x3
