section PT1x0
/-! ===== from the small machine to the machine: the world, the frame ===== -/
noncomputable def ad (h0 b : Nat) : Nat → Nat
  | 0 => b
  | k + 1 => h0 + k
noncomputable def cv (h0 b : Nat) : Value → Value
  | .ref a => .ref (ad h0 b a)
  | v => v
theorem cv_cat (h0 b : Nat) (v : Value) : (cv h0 b v).category = v.category := by cases v <;> rfl
noncomputable def fvl (h0 b : Nat) (I : Im) (J : Jm) (R : Rm) (i kd of k : Nat) : Value := match kd with
  | 0 => .int (I i k)
  | 1 => .int (I i k)
  | 2 => .long (J i k)
  | 3 => if R i k = 0 then .null else .ref (ad h0 b (R i k))
  | _ => if R i k = 0 then .null else .ref (ad h0 b (i + of))
noncomputable def flds (h0 b : Nat) (I : Im) (J : Jm) (R : Rm) (i ci : Nat) : List Value := (List.range (clN ci)).map fun k => fvl h0 b I J R i (fkd ci k) (fof ci k) k
noncomputable def arE (h0 b : Nat) (I : Im) (J : Jm) (R : Rm) (a t : Nat) : (Nat → Int32) ⊕ (Nat → Int64) ⊕ (Nat → UInt32) ⊕ (Nat → UInt64) ⊕ (Nat → Option Nat) := match t with
  | 0 => .inl (I a)
  | 1 => .inr (.inl (J a))
  | 2 => .inl (I a)
  | _ => .inr (.inr (.inr (.inr fun j => if R a j = 0 then none else some (ad h0 b (R a j)))))
noncomputable def celE (ca : Nat → ClassId) (h0 b : Nat) (I : Im) (J : Jm) (R : Rm) (i : Nat) : va_E := if (shl.getD (i - 1) (999, 0)).1 < 100 then .inr ((shl.getD (i - 1) (999, 0)).1, flds h0 b I J R i (shl.getD (i - 1) (999, 0)).1) else .inl (ca ((shl.getD (i - 1) (999, 0)).1 - 100), (shl.getD (i - 1) (999, 0)).2, arE h0 b I J R i ((shl.getD (i - 1) (999, 0)).1 - 100))
noncomputable def wd (ca : Nat → ClassId) (h0 b n : Nat) (I : Im) (J : Jm) (R : Rm) : va_W := (List.range n).map fun i => (h0 + i, celE ca h0 b I J R (i + 1))
noncomputable def ntys (ca : Nat → ClassId) : List (ClassId × FieldType) := [(ca 0, aty 0), (ca 1, aty 1), (ca 2, aty 2), (ca 3, aty 3), (ca 4, aty 4), (ca 5, aty 5)]
/-- what the tables say beyond the words -/
noncomputable def NN (U : State) : Prop := (∀ q ∈ nestW, va_Nw (.methodLinkNest q.1 q.2.1 q.2.2 "BreadScribes") U) ∧ ∀ t, t < 3 → va_AO (elC t) U
theorem NN.warm {s U : State} (hW : s.WarmedH U.vm) (h : NN s) : NN U := ⟨fun q hq => va_Nw.warmM hW (h.1 q hq), fun t ht => (h.2 t ht).moved hW.alike⟩
theorem ad_pos {h0 b a : Nat} (h : 0 < a) : ad h0 b a = h0 + (a - 1) := by
  cases a with
  | zero => omega
  | succ k => rfl
theorem wd_get {ca : Nat → ClassId} {h0 b n : Nat} {I : Im} {J : Jm} {R : Rm} {a : Nat} (h1 : 0 < a) (h2 : a ≤ n) : (wd ca h0 b n I J R)[a - 1]? = some (ad h0 b a, celE ca h0 b I J R a) := by
  have e : a - 1 + 1 = a := by omega
  simp only [wd, List.getElem?_map, List.getElem?_range (show a - 1 < n by omega), Option.map_some, e]
  rw [ad_pos h1]
theorem wd_at {ca : Nat → ClassId} {h0 b n : Nat} {I : Im} {J : Jm} {R : Rm} {k : Nat} {q : Nat × va_E} (h : (wd ca h0 b n I J R)[k]? = some q) : k < n ∧ q = (h0 + k, celE ca h0 b I J R (k + 1)) := by
  simp only [wd, List.getElem?_map] at h
  by_cases hk : k < n
  · rw [List.getElem?_range hk] at h
    exact ⟨hk, (Option.some.inj h).symm⟩
  · rw [List.getElem?_eq_none (by simp; omega)] at h
    cases h
theorem wd_set {ca : Nat → ClassId} {h0 b n : Nat} {I I' : Im} {J J' : Jm} {R R' : Rm} {a : Nat} {e : va_E} (h1 : 0 < a) (h2 : a ≤ n) (he : celE ca h0 b I' J' R' a = e) (ho : ∀ i, i ≠ a → celE ca h0 b I' J' R' i = celE ca h0 b I J R i) :
    (wd ca h0 b n I J R).set (a - 1) (ad h0 b a, e) = wd ca h0 b n I' J' R' := by
  apply List.ext_getElem?
  intro k
  rw [List.getElem?_set]
  by_cases hk : a - 1 = k
  · subst hk
    have hl : a - 1 < (wd ca h0 b n I J R).length := by simp [wd]; omega
    rw [if_pos rfl, if_pos hl, wd_get h1 h2, he]
  · rw [if_neg hk]
    simp only [wd, List.getElem?_map]
    by_cases hn : k < n
    · rw [List.getElem?_range hn]
      simp only [Option.map_some]
      rw [ho (k + 1) (by omega)]
    · rw [List.getElem?_eq_none (by simp; omega)]
      rfl
theorem wd_add {ca : Nat → ClassId} {h0 b n : Nat} {I I' : Im} {J J' : Jm} {R R' : Rm} {e : va_E} (he : celE ca h0 b I' J' R' (n + 1) = e) (ho : ∀ i, i ≠ n + 1 → celE ca h0 b I' J' R' i = celE ca h0 b I J R i) :
    wd ca h0 b n I J R ++ [(h0 + n, e)] = wd ca h0 b (n + 1) I' J' R' := by
  simp only [wd, List.range_succ, List.map_append, List.map_cons, List.map_nil]
  rw [he]
  congr 1
  apply List.map_congr_left
  intro i hi
  have := List.mem_range.mp hi
  rw [ho (i + 1) (by omega)]
theorem wd_D {ca : Nat → ClassId} {h0 b n : Nat} {I : Im} {J : Jm} {R : Rm} {A : Nat → Prop} (hA : ∀ q, h0 ≤ q → A q) : va_D A (wd ca h0 b n I J R) := by
  refine ⟨fun i j p q hp hq e => ?_, fun k q hk => ?_⟩
  · obtain ⟨-, rfl⟩ := wd_at hp
    obtain ⟨-, rfl⟩ := wd_at hq
    simp at e
    omega
  · obtain ⟨-, rfl⟩ := wd_at hk
    exact hA _ (Nat.le_add_right _ _)
theorem celE_o {ca : Nat → ClassId} {h0 b : Nat} {I : Im} {J : Jm} {R : Rm} {i ci : Nat} (h : (shl.getD (i - 1) (999, 0)).1 = ci) (hc : ci < 100) : celE ca h0 b I J R i = .inr (ci, flds h0 b I J R i ci) := by
  unfold celE
  rw [h, if_pos hc]
end PT1x0
