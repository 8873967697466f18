/-! ===== from the small machine to the machine: the world, the frame ===== -/
noncomputable def ad (h0 b : Nat) : Nat → Nat
  | 0 => b
  | k + 1 => h0 + k
noncomputable def cv (h0 b : Nat) : Value → Value
  | .ref a => .ref (ad h0 b a)
  | v => v
theorem cv_cat (h0 b : Nat) (v : Value) : (cv h0 b v).category = v.category := by cases v <;> rfl
noncomputable def fvl (h0 b : Nat) (I : Im) (J : Jm) (R : Rm) (i kd of k : Nat) : Value := match kd with
  | 0 => .int (I i k)
  | 1 => .int (I i k)
  | 2 => .long (J i k)
  | 3 => if R i k = 0 then .null else .ref (ad h0 b (R i k))
  | _ => if R i k = 0 then .null else .ref (ad h0 b (i + of))
noncomputable def flds (h0 b : Nat) (I : Im) (J : Jm) (R : Rm) (i ci : Nat) : List Value := (List.range (clN ci)).map fun k => fvl h0 b I J R i (fkd ci k) (fof ci k) k
noncomputable def arE (h0 b : Nat) (I : Im) (J : Jm) (R : Rm) (a t : Nat) : (Nat → Int32) ⊕ (Nat → Int64) ⊕ (Nat → UInt32) ⊕ (Nat → UInt64) ⊕ (Nat → Option Nat) := match t with
  | 0 => .inl (I a)
  | 1 => .inr (.inl (J a))
  | 2 => .inl (I a)
  | _ => .inr (.inr (.inr (.inr fun j => if R a j = 0 then none else some (ad h0 b (R a j)))))
noncomputable def celE (ca : Nat → ClassId) (h0 b : Nat) (I : Im) (J : Jm) (R : Rm) (i : Nat) : va_E := if (shl.getD (i - 1) (999, 0)).1 < 100 then .inr ((shl.getD (i - 1) (999, 0)).1, flds h0 b I J R i (shl.getD (i - 1) (999, 0)).1) else .inl (ca ((shl.getD (i - 1) (999, 0)).1 - 100), (shl.getD (i - 1) (999, 0)).2, arE h0 b I J R i ((shl.getD (i - 1) (999, 0)).1 - 100))
noncomputable def wd (ca : Nat → ClassId) (h0 b n : Nat) (I : Im) (J : Jm) (R : Rm) : va_W := (List.range n).map fun i => (h0 + i, celE ca h0 b I J R (i + 1))
noncomputable def ntys (ca : Nat → ClassId) : List (ClassId × FieldType) := [(ca 0, aty 0), (ca 1, aty 1), (ca 2, aty 2), (ca 3, aty 3), (ca 4, aty 4), (ca 5, aty 5)]
/-- what the tables say beyond the words -/
noncomputable def NN (U : State) : Prop := (∀ q ∈ nestW, va_Nw (.methodLinkNest q.1 q.2.1 q.2.2 "BreadScribes") U) ∧ ∀ t, t < 3 → va_AO (elC t) U
theorem NN.warm {s U : State} (hW : s.WarmedH U.vm) (h : NN s) : NN U := ⟨fun q hq => va_Nw.warmM hW (h.1 q hq), fun t ht => (h.2 t ht).moved hW.alike⟩
theorem ad_pos {h0 b a : Nat} (h : 0 < a) : ad h0 b a = h0 + (a - 1) := by
  cases a with
  | zero => omega
  | succ k => rfl
theorem wd_get {ca : Nat → ClassId} {h0 b n : Nat} {I : Im} {J : Jm} {R : Rm} {a : Nat} (h1 : 0 < a) (h2 : a ≤ n) : (wd ca h0 b n I J R)[a - 1]? = some (ad h0 b a, celE ca h0 b I J R a) := by
  have e : a - 1 + 1 = a := by omega
  simp only [wd, List.getElem?_map, List.getElem?_range (show a - 1 < n by omega), Option.map_some, e]
  rw [ad_pos h1]
theorem wd_at {ca : Nat → ClassId} {h0 b n : Nat} {I : Im} {J : Jm} {R : Rm} {k : Nat} {q : Nat × va_E} (h : (wd ca h0 b n I J R)[k]? = some q) : k < n ∧ q = (h0 + k, celE ca h0 b I J R (k + 1)) := by
  simp only [wd, List.getElem?_map] at h
  by_cases hk : k < n
  · rw [List.getElem?_range hk] at h
    exact ⟨hk, (Option.some.inj h).symm⟩
  · rw [List.getElem?_eq_none (by simp; omega)] at h
    cases h
theorem wd_set {ca : Nat → ClassId} {h0 b n : Nat} {I I' : Im} {J J' : Jm} {R R' : Rm} {a : Nat} {e : va_E} (h1 : 0 < a) (h2 : a ≤ n) (he : celE ca h0 b I' J' R' a = e) (ho : ∀ i, i ≠ a → celE ca h0 b I' J' R' i = celE ca h0 b I J R i) :
    (wd ca h0 b n I J R).set (a - 1) (ad h0 b a, e) = wd ca h0 b n I' J' R' := by
  apply List.ext_getElem?
  intro k
  rw [List.getElem?_set]
  by_cases hk : a - 1 = k
  · subst hk
    have hl : a - 1 < (wd ca h0 b n I J R).length := by simp [wd]; omega
    rw [if_pos rfl, if_pos hl, wd_get h1 h2, he]
  · rw [if_neg hk]
    simp only [wd, List.getElem?_map]
    by_cases hn : k < n
    · rw [List.getElem?_range hn]
      simp only [Option.map_some]
      rw [ho (k + 1) (by omega)]
    · rw [List.getElem?_eq_none (by simp; omega)]
      rfl
theorem wd_add {ca : Nat → ClassId} {h0 b n : Nat} {I I' : Im} {J J' : Jm} {R R' : Rm} {e : va_E} (he : celE ca h0 b I' J' R' (n + 1) = e) (ho : ∀ i, i ≠ n + 1 → celE ca h0 b I' J' R' i = celE ca h0 b I J R i) :
    wd ca h0 b n I J R ++ [(h0 + n, e)] = wd ca h0 b (n + 1) I' J' R' := by
  simp only [wd, List.range_succ, List.map_append, List.map_cons, List.map_nil]
  rw [he]
  congr 1
  apply List.map_congr_left
  intro i hi
  have := List.mem_range.mp hi
  rw [ho (i + 1) (by omega)]
theorem wd_D {ca : Nat → ClassId} {h0 b n : Nat} {I : Im} {J : Jm} {R : Rm} {A : Nat → Prop} (hA : ∀ q, h0 ≤ q → A q) : va_D A (wd ca h0 b n I J R) := by
  refine ⟨fun i j p q hp hq e => ?_, fun k q hk => ?_⟩
  · obtain ⟨-, rfl⟩ := wd_at hp
    obtain ⟨-, rfl⟩ := wd_at hq
    simp at e
    omega
  · obtain ⟨-, rfl⟩ := wd_at hk
    exact hA _ (Nat.le_add_right _ _)
theorem celE_o {ca : Nat → ClassId} {h0 b : Nat} {I : Im} {J : Jm} {R : Rm} {i ci : Nat} (h : (shl.getD (i - 1) (999, 0)).1 = ci) (hc : ci < 100) : celE ca h0 b I J R i = .inr (ci, flds h0 b I J R i ci) := by
  unfold celE
  rw [h, if_pos hc]
theorem celE_a {ca : Nat → ClassId} {h0 b : Nat} {I : Im} {J : Jm} {R : Rm} {a t : Nat} (h : (shl.getD (a - 1) (999, 0)).1 = 100 + t) : celE ca h0 b I J R a = .inl (ca t, aL a, arE h0 b I J R a t) := by
  unfold celE aL
  rw [h, if_neg (by omega), Nat.add_sub_cancel_left]
theorem isO_spec {n o ci : Nat} (h : isO n o ci = true) : 0 < o ∧ o ≤ n ∧ (shl.getD (o - 1) (999, 0)).1 = ci := by
  simp only [isO, Bool.and_eq_true] at h
  exact ⟨Nat.le_of_ble_eq_true h.1, Nat.le_of_ble_eq_true h.2.1, Nat.eq_of_beq_eq_true h.2.2⟩
theorem isA_spec {n a t : Nat} (h : isA n a t = true) : 0 < a ∧ a ≤ n ∧ (shl.getD (a - 1) (999, 0)).1 = 100 + t := by
  simp only [isA, Bool.and_eq_true] at h
  exact ⟨Nat.le_of_ble_eq_true h.1, Nat.le_of_ble_eq_true h.2.1, Nat.eq_of_beq_eq_true h.2.2⟩
theorem celE_I {ca : Nat → ClassId} {h0 b : Nat} {I I' : Im} {J J' : Jm} {R R' : Rm} {i : Nat} (h1 : I' i = I i) (h2 : J' i = J i) (h3 : R' i = R i) : celE ca h0 b I' J' R' i = celE ca h0 b I J R i := by
  have hf : ∀ kd of k, fvl h0 b I' J' R' i kd of k = fvl h0 b I J R i kd of k := fun kd of k => by unfold fvl; rw [h1, h2, h3]
  have ha : ∀ t, arE h0 b I' J' R' i t = arE h0 b I J R i t := fun t => by unfold arE; rw [h1, h2, h3]
  unfold celE flds
  simp only [hf, ha]
theorem uI_ne {I : Im} {a j i : Nat} {v : Int32} (h : i ≠ a) : uI I a j v i = I i := if_neg h
theorem uJ_ne {J : Jm} {a j i : Nat} {v : Int64} (h : i ≠ a) : uJ J a j v i = J i := if_neg h
theorem uR_ne {R : Rm} {a j i : Nat} {v : Nat} (h : i ≠ a) : uR R a j v i = R i := if_neg h
theorem zI_ne {I : Im} {a i : Nat} (h : i ≠ a) : zI I a i = I i := if_neg h
theorem zJ_ne {J : Jm} {a i : Nat} (h : i ≠ a) : zJ J a i = J i := if_neg h
theorem zR_ne {R : Rm} {a i : Nat} (h : i ≠ a) : zR R a i = R i := if_neg h
theorem uI_eq {I : Im} {a j : Nat} {v : Int32} : uI I a j v a = upd (I a) j v := if_pos rfl
theorem uJ_eq {J : Jm} {a j : Nat} {v : Int64} : uJ J a j v a = vp_updL (J a) j v := if_pos rfl
theorem uR_eq {R : Rm} {a j : Nat} {v : Nat} : uR R a j v a = va_up (R a) j v := if_pos rfl
theorem fset {α : Type} {N k : Nat} {f : Nat → α} {v : α} : ((List.range N).map f).set k v = (List.range N).map fun j => if j = k then v else f j := by
  apply List.ext_getElem?
  intro j
  rw [List.getElem?_set]
  by_cases hj : j < N
  · simp only [List.getElem?_map, List.getElem?_range hj, Option.map_some, List.length_map, List.length_range]
    by_cases hk : k = j
    · subst hk; simp [hj]
    · rw [if_neg hk, if_neg (fun h => hk h.symm)]
  · have e1 : ((List.range N).map f)[j]? = none := List.getElem?_eq_none (by simp; omega)
    have e2 : ((List.range N).map fun j => if j = k then v else f j)[j]? = none := List.getElem?_eq_none (by simp; omega)
    rw [e1, e2]
    split
    · split
      · rename_i h1 h2; simp at h2; omega
      · rfl
    · rfl
/-- the locals -/
noncomputable def lvm (h0 b : Nat) (lv : Lv) : Lv := lv.map fun q => (q.1, cv h0 b q.2)
theorem lgt_mem {lv : Lv} {i : Nat} {v : Value} (h : lgt lv i = v) (hv : v ≠ .null) : (i, v) ∈ lv := by
  induction lv with
  | nil => exact absurd h.symm hv
  | cons q r ih =>
    obtain ⟨j, w⟩ := q
    unfold lgt at h
    by_cases hj : Nat.beq j i = true
    · rw [hj] at h
      rw [Nat.eq_of_beq_eq_true hj, ← h]
      exact List.mem_cons_self
    · rw [Bool.not_eq_true _ |>.mp hj] at h
      exact List.mem_cons_of_mem _ (ih h)
theorem lv_gt {h0 b : Nat} {ls : Array Slot} {nL i : Nat} {lv : Lv} {v : Value} (hl : lv_has ls nL (lvm h0 b lv)) (h : lgt lv i = v) (hv : v ≠ .null) : ls[i]? = some (.val (cv h0 b v)) :=
  hl.2.2 (i, cv h0 b v) (List.mem_map.mpr ⟨(i, v), lgt_mem h hv, rfl⟩)
theorem lvm_pt {h0 b : Nat} {lv : Lv} {i : Nat} {v : Value} : (i, cv h0 b v) :: (lvm h0 b lv).filter (fun q => !(q.1 == i) && !(q.1 + 1 == i && q.2.category == 2)) = lvm h0 b (lpt lv i v) := by
  simp only [lpt, lvm, List.map_cons, List.filter_map]
  congr 2
  apply List.filter_congr
  intro q _
  simp [Function.comp, cv_cat]
theorem lvm_pt2 {h0 b : Nat} {lv : Lv} {i : Nat} {v : Value} : (i, cv h0 b v) :: (lvm h0 b lv).filter (fun q => !(q.1 == i) && (!(q.1 == i + 1) && !(q.1 + 1 == i && q.2.category == 2))) = lvm h0 b (lpt2 lv i v) := by
  simp only [lpt2, lvm, List.map_cons, List.filter_map]
  congr 2
  apply List.filter_congr
  intro q _
  simp [Function.comp, cv_cat]
theorem lvm_args {h0 b : Nat} (as : List Value) : ∀ k, lvm h0 b (lv_args k as) = lv_args k (as.map (cv h0 b)) := by
  induction as with
  | nil => intro k; rfl
  | cons v r ih =>
    intro k
    simp only [lv_args, lvm, List.map_cons, cv_cat]
    congr 1
    exact ih _
theorem lg_len {h0 b : Nat} (as : List Value) : (lg_sl (as.map (cv h0 b))).length = (lg_sl as).length := by
  induction as with
  | nil => rfl
  | cons v r ih =>
    have e1 : lg_sl (v :: r) = (if v.category = 2 then [Slot.val v, Slot.second] else [Slot.val v]) ++ lg_sl r := by simp [lg_sl]
    have e2 : lg_sl ((v :: r).map (cv h0 b)) = (if (cv h0 b v).category = 2 then [Slot.val (cv h0 b v), Slot.second] else [Slot.val (cv h0 b v)]) ++ lg_sl (r.map (cv h0 b)) := by simp [lg_sl]
    rw [e1, e2, List.length_append, List.length_append, ih, cv_cat]
    split <;> rfl
theorem cSum_cv {h0 b : Nat} (st : List Value) : ((st.map (cv h0 b)).map fun v => v.category).sum = cSum st := by
  unfold cSum
  rw [List.map_map]
  congr 1
  apply List.map_congr_left
  intro v _
  exact cv_cat h0 b v
/-- how many places the first n cells have -/
noncomputable def sl : Nat → Nat
  | 0 => 0
  | n + 1 => sl n + (if (shl.getD n (999, 0)).1 < 100 then clN (shl.getD n (999, 0)).1 else (shl.getD n (999, 0)).2)
theorem sl_mono {a k : Nat} : sl a ≤ sl (a + k) := by
  induction k with
  | zero => exact Nat.le_refl _
  | succ k ih => exact Nat.le_trans ih (Nat.le_add_right _ _)
theorem sl_le {a c : Nat} (h : a ≤ c) : sl a ≤ sl c := by
  obtain ⟨k, rfl⟩ := Nat.le.dest h
  exact sl_mono
/-- the text in the Reader's constructor, and what the JDK's code of String reads -/
noncomputable def rd_by : List Int32 := [111, 100, 100, 115, 32, 115, 116, 111, 114, 101, 32, 116, 105, 109, 101, 115, 32, 109, 97, 110, 32, 100, 117, 101, 32, 98, 121, 32, 104, 97, 115, 32, 107, 110, 111, 119, 110, 32, 99, 117, 116, 32, 115, 112, 108, 105, 116, 32, 103, 105, 118, 101, 32, 116, 97, 107, 101, 32, 98, 97, 107, 101, 32, 97, 110, 121, 32, 119, 104, 101, 110, 32, 101, 118, 101, 110, 32, 104, 111, 108, 100, 115, 32, 108, 97, 99, 107, 115, 32, 108, 111, 111, 112, 32, 101, 110, 100, 32, 115, 116, 111, 112]
noncomputable def SKp (h0 : Nat) (U : State) : Prop := ∃ (tx : String) (aK aV : Nat) (byt : List Int32), byt = rd_by ∧ vk_R RX6 58 tx aK U ∧ vk_S 1 [102] [byt] (fun _ => aK) (fun _ => aV) (fun q => h0 ≤ q) U U.heap ∧ va_Z "java/lang/String" "COMPACT_STRINGS" "Z" (.int 1) (fun q => h0 ≤ q) U U.heap ∧ va_Zq "jdk/internal/util/Preconditions" "SIOOBE_FORMATTER" "Ljava/util/function/BiFunction;" (fun q => h0 ≤ q) U U.heap
theorem SKp.next {h0 : Nat} {s U : State} (hW : s.WarmedH U.vm) (hq : ∀ a : Nat, a < s.heap.size → ¬ h0 ≤ a → U.heap[a]? = s.heap[a]?) (h : SKp h0 s) : SKp h0 U := by
  obtain ⟨tx, aK, aV, byt, hy, h1, h2, h3, h4⟩ := h
  exact ⟨tx, aK, aV, byt, hy, vk_R.warm hW h1, (vk_S.moved hW.alike h2).kept hq, (va_Z.moved hW.alike h3).kept hq, (va_Zq.moved hW.alike h4).kept hq⟩
/-- the world as the state has it -/
noncomputable def Wok (D : va_G) (ca : Nat → ClassId) (h0 b n : Nat) (I : Im) (J : Jm) (R : Rm) (U : State) : Prop := U.heap.size = h0 + n ∧ va_P D ncl (wd ca h0 b n I J R) U.heap ∧ va_K D ncl (ntys ca) U ∧ (NN U ∧ SKp h0 U)
noncomputable abbrev St3 : Type := Im × Jm × Rm
noncomputable def mPost (D : va_G) (ca : Nat → ClassId) (h0 b n' : Nat) (rk kr : Nat) (R : Rm) (Q : Qt) (A : Nat → Prop) : Array Value → State → Outcome → State → Prop := match rk with
  | 0 => va_Qv (fun u : St3 => (kr = 1 → u.2.2 = R) ∧ Q 0 0 u.1 u.2.1 u.2.2) (fun u t => t.heap.size = h0 + n' ∧ va_P D ncl (wd ca h0 b n' u.1 u.2.1 u.2.2) t.heap) A
  | 1 => va_Qi (fun (x : Int32) (u : St3) => (kr = 1 → u.2.2 = R) ∧ Q x 0 u.1 u.2.1 u.2.2) (fun u t => t.heap.size = h0 + n' ∧ va_P D ncl (wd ca h0 b n' u.1 u.2.1 u.2.2) t.heap) A
  | 2 => va_Qi (fun (x : Int32) (u : St3) => (x = 0 ∨ x = 1) ∧ (kr = 1 → u.2.2 = R) ∧ Q x 0 u.1 u.2.1 u.2.2) (fun u t => t.heap.size = h0 + n' ∧ va_P D ncl (wd ca h0 b n' u.1 u.2.1 u.2.2) t.heap) A
  | _ => va_Ql (fun (x : Int64) (u : St3) => (kr = 1 → u.2.2 = R) ∧ Q 0 x u.1 u.2.1 u.2.2) (fun u t => t.heap.size = h0 + n' ∧ va_P D ncl (wd ca h0 b n' u.1 u.2.1 u.2.2) t.heap) A
noncomputable def rmD (d al ms : Nat) : Room := { frames := d, cells := al, slots := ms, locals := 64 * d }
noncomputable def mFree (ca : Nat → ClassId) (h0 b n : Nat) (I : Im) (J : Jm) (R : Rm) : Nat → Prop := va_A (wd ca h0 b n I J R) (h0 + n)
theorem mFree_ge {ca : Nat → ClassId} {h0 b n : Nat} {I : Im} {J : Jm} {R : Rm} {q : Nat} : mFree ca h0 b n I J R q ↔ h0 ≤ q := by
  constructor
  · rintro (⟨k, e, h⟩ | h)
    · obtain ⟨-, h2⟩ := wd_at h
      cases h2
      omega
    · omega
  · intro h
    by_cases hq : q < h0 + n
    · refine Or.inl ⟨q - h0, celE ca h0 b I J R (q - h0 + 1), ?_⟩
      have := wd_get (ca := ca) (h0 := h0) (b := b) (n := n) (I := I) (J := J) (R := R) (a := q - h0 + 1) (by omega) (by omega)
      rw [show q - h0 + 1 - 1 = q - h0 by omega, show ad h0 b (q - h0 + 1) = q by show h0 + (q - h0) = q; omega] at this
      exact this
    · exact Or.inr (by omega)
noncomputable def wsM (q : Mt) : List Cond := qW q :: wsG
/-- what the contract of a method says, at depth d, of all calls that the small machine goes through -/
noncomputable def MetD (l : Launch) (d : Nat) : Prop := ∀ (D : va_G) (ca : Nat → ClassId) (h0 b mi n : Nat) (as : List Value) (I : Im) (J : Jm) (R : Rm) (Q : Qt), mi < nMth → (qPh (mQ mi) = 1 → Fl R ∧ n = nAll) → AM d mi n as I J R Q →
  Met l (mQ mi).2.1 (wsM (mQ mi)) (rmD d (qAl (mQ mi)) (sl (n + qAl (mQ mi)) - sl n)) (va_Pc (as.map (cv h0 b)) (fun U => Wok D ca h0 b n I J R U))
    (mPost D ca h0 b (n + qAl (mQ mi)) (qRk (mQ mi)) (qKr (mQ mi)) R Q (mFree ca h0 b n I J R)) (qAl (mQ mi)) (sl (n + qAl (mQ mi)) - sl n) (mFree ca h0 b n I J R)
