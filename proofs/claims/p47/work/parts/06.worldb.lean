section PT1x0
theorem celE_a {ca : Nat → ClassId} {h0 b : Nat} {I : Im} {J : Jm} {R : Rm} {a t : Nat} (h : (shl.getD (a - 1) (999, 0)).1 = 100 + t) : celE ca h0 b I J R a = .inl (ca t, aL a, arE h0 b I J R a t) := by
  unfold celE aL
  rw [h, if_neg (by omega), Nat.add_sub_cancel_left]
theorem isO_spec {n o ci : Nat} (h : isO n o ci = true) : 0 < o ∧ o ≤ n ∧ (shl.getD (o - 1) (999, 0)).1 = ci := by
  simp only [isO, Bool.and_eq_true] at h
  exact ⟨Nat.le_of_ble_eq_true h.1, Nat.le_of_ble_eq_true h.2.1, Nat.eq_of_beq_eq_true h.2.2⟩
theorem isA_spec {n a t : Nat} (h : isA n a t = true) : 0 < a ∧ a ≤ n ∧ (shl.getD (a - 1) (999, 0)).1 = 100 + t := by
  simp only [isA, Bool.and_eq_true] at h
  exact ⟨Nat.le_of_ble_eq_true h.1, Nat.le_of_ble_eq_true h.2.1, Nat.eq_of_beq_eq_true h.2.2⟩
theorem celE_I {ca : Nat → ClassId} {h0 b : Nat} {I I' : Im} {J J' : Jm} {R R' : Rm} {i : Nat} (h1 : I' i = I i) (h2 : J' i = J i) (h3 : R' i = R i) : celE ca h0 b I' J' R' i = celE ca h0 b I J R i := by
  have hf : ∀ kd of k, fvl h0 b I' J' R' i kd of k = fvl h0 b I J R i kd of k := fun kd of k => by unfold fvl; rw [h1, h2, h3]
  have ha : ∀ t, arE h0 b I' J' R' i t = arE h0 b I J R i t := fun t => by unfold arE; rw [h1, h2, h3]
  unfold celE flds
  simp only [hf, ha]
theorem uI_ne {I : Im} {a j i : Nat} {v : Int32} (h : i ≠ a) : uI I a j v i = I i := if_neg h
theorem uJ_ne {J : Jm} {a j i : Nat} {v : Int64} (h : i ≠ a) : uJ J a j v i = J i := if_neg h
theorem uR_ne {R : Rm} {a j i : Nat} {v : Nat} (h : i ≠ a) : uR R a j v i = R i := if_neg h
theorem zI_ne {I : Im} {a i : Nat} (h : i ≠ a) : zI I a i = I i := if_neg h
theorem zJ_ne {J : Jm} {a i : Nat} (h : i ≠ a) : zJ J a i = J i := if_neg h
theorem zR_ne {R : Rm} {a i : Nat} (h : i ≠ a) : zR R a i = R i := if_neg h
theorem uI_eq {I : Im} {a j : Nat} {v : Int32} : uI I a j v a = upd (I a) j v := if_pos rfl
theorem uJ_eq {J : Jm} {a j : Nat} {v : Int64} : uJ J a j v a = vp_updL (J a) j v := if_pos rfl
theorem uR_eq {R : Rm} {a j : Nat} {v : Nat} : uR R a j v a = va_up (R a) j v := if_pos rfl
theorem fset {α : Type} {N k : Nat} {f : Nat → α} {v : α} : ((List.range N).map f).set k v = (List.range N).map fun j => if j = k then v else f j := by
  apply List.ext_getElem?
  intro j
  rw [List.getElem?_set]
  by_cases hj : j < N
  · simp only [List.getElem?_map, List.getElem?_range hj, Option.map_some, List.length_map, List.length_range]
    by_cases hk : k = j
    · subst hk; simp [hj]
    · rw [if_neg hk, if_neg (fun h => hk h.symm)]
  · have e1 : ((List.range N).map f)[j]? = none := List.getElem?_eq_none (by simp; omega)
    have e2 : ((List.range N).map fun j => if j = k then v else f j)[j]? = none := List.getElem?_eq_none (by simp; omega)
    rw [e1, e2]
    split
    · split
      · rename_i h1 h2; simp at h2; omega
      · rfl
    · rfl
/-- the locals -/
noncomputable def lvm (h0 b : Nat) (lv : Lv) : Lv := lv.map fun q => (q.1, cv h0 b q.2)
theorem lgt_mem {lv : Lv} {i : Nat} {v : Value} (h : lgt lv i = v) (hv : v ≠ .null) : (i, v) ∈ lv := by
  induction lv with
  | nil => exact absurd h.symm hv
  | cons q r ih =>
    obtain ⟨j, w⟩ := q
    unfold lgt at h
    by_cases hj : Nat.beq j i = true
    · rw [hj] at h
      rw [Nat.eq_of_beq_eq_true hj, ← h]
      exact List.mem_cons_self
    · rw [Bool.not_eq_true _ |>.mp hj] at h
      exact List.mem_cons_of_mem _ (ih h)
theorem lv_gt {h0 b : Nat} {ls : Array Slot} {nL i : Nat} {lv : Lv} {v : Value} (hl : lv_has ls nL (lvm h0 b lv)) (h : lgt lv i = v) (hv : v ≠ .null) : ls[i]? = some (.val (cv h0 b v)) :=
  hl.2.2 (i, cv h0 b v) (List.mem_map.mpr ⟨(i, v), lgt_mem h hv, rfl⟩)
theorem lvm_pt {h0 b : Nat} {lv : Lv} {i : Nat} {v : Value} : (i, cv h0 b v) :: (lvm h0 b lv).filter (fun q => !(q.1 == i) && !(q.1 + 1 == i && q.2.category == 2)) = lvm h0 b (lpt lv i v) := by
  simp only [lpt, lvm, List.map_cons, List.filter_map]
  congr 2
  apply List.filter_congr
  intro q _
  simp [Function.comp, cv_cat]
theorem lvm_pt2 {h0 b : Nat} {lv : Lv} {i : Nat} {v : Value} : (i, cv h0 b v) :: (lvm h0 b lv).filter (fun q => !(q.1 == i) && (!(q.1 == i + 1) && !(q.1 + 1 == i && q.2.category == 2))) = lvm h0 b (lpt2 lv i v) := by
  simp only [lpt2, lvm, List.map_cons, List.filter_map]
  congr 2
  apply List.filter_congr
  intro q _
  simp [Function.comp, cv_cat]
theorem lvm_args {h0 b : Nat} (as : List Value) : ∀ k, lvm h0 b (lv_args k as) = lv_args k (as.map (cv h0 b)) := by
  induction as with
  | nil => intro k; rfl
  | cons v r ih =>
    intro k
    simp only [lv_args, lvm, List.map_cons, cv_cat]
    congr 1
    exact ih _
theorem lg_len {h0 b : Nat} (as : List Value) : (lg_sl (as.map (cv h0 b))).length = (lg_sl as).length := by
  induction as with
  | nil => rfl
  | cons v r ih =>
    have e1 : lg_sl (v :: r) = (if v.category = 2 then [Slot.val v, Slot.second] else [Slot.val v]) ++ lg_sl r := by simp [lg_sl]
    have e2 : lg_sl ((v :: r).map (cv h0 b)) = (if (cv h0 b v).category = 2 then [Slot.val (cv h0 b v), Slot.second] else [Slot.val (cv h0 b v)]) ++ lg_sl (r.map (cv h0 b)) := by simp [lg_sl]
    rw [e1, e2, List.length_append, List.length_append, ih, cv_cat]
    split <;> rfl
end PT1x0
