section PT1x0
theorem cSum_cv {h0 b : Nat} (st : List Value) : ((st.map (cv h0 b)).map fun v => v.category).sum = cSum st := by
  unfold cSum
  rw [List.map_map]
  congr 1
  apply List.map_congr_left
  intro v _
  exact cv_cat h0 b v
/-- how many places the first n cells have -/
noncomputable def sl : Nat → Nat
  | 0 => 0
  | n + 1 => sl n + (if (shl.getD n (999, 0)).1 < 100 then clN (shl.getD n (999, 0)).1 else (shl.getD n (999, 0)).2)
theorem sl_mono {a k : Nat} : sl a ≤ sl (a + k) := by
  induction k with
  | zero => exact Nat.le_refl _
  | succ k ih => exact Nat.le_trans ih (Nat.le_add_right _ _)
theorem sl_le {a c : Nat} (h : a ≤ c) : sl a ≤ sl c := by
  obtain ⟨k, rfl⟩ := Nat.le.dest h
  exact sl_mono
/-- the text in the Reader's constructor, and what the JDK's code of String reads -/
noncomputable def rd_by : List Int32 := [111, 100, 100, 115, 32, 115, 116, 111, 114, 101, 32, 116, 105, 109, 101, 115, 32, 109, 97, 110, 32, 100, 117, 101, 32, 98, 121, 32, 104, 97, 115, 32, 107, 110, 111, 119, 110, 32, 99, 117, 116, 32, 115, 112, 108, 105, 116, 32, 103, 105, 118, 101, 32, 116, 97, 107, 101, 32, 98, 97, 107, 101, 32, 97, 110, 121, 32, 119, 104, 101, 110, 32, 101, 118, 101, 110, 32, 104, 111, 108, 100, 115, 32, 108, 97, 99, 107, 115, 32, 108, 111, 111, 112, 32, 101, 110, 100, 32, 115, 116, 111, 112]
noncomputable def SKp (h0 : Nat) (U : State) : Prop := ∃ (tx : String) (aK aV : Nat) (byt : List Int32), byt = rd_by ∧ vk_R RX6 58 tx aK U ∧ vk_S 1 [102] [byt] (fun _ => aK) (fun _ => aV) (fun q => h0 ≤ q) U U.heap ∧ va_Z "java/lang/String" "COMPACT_STRINGS" "Z" (.int 1) (fun q => h0 ≤ q) U U.heap ∧ va_Zq "jdk/internal/util/Preconditions" "SIOOBE_FORMATTER" "Ljava/util/function/BiFunction;" (fun q => h0 ≤ q) U U.heap
theorem SKp.next {h0 : Nat} {s U : State} (hW : s.WarmedH U.vm) (hq : ∀ a : Nat, a < s.heap.size → ¬ h0 ≤ a → U.heap[a]? = s.heap[a]?) (h : SKp h0 s) : SKp h0 U := by
  obtain ⟨tx, aK, aV, byt, hy, h1, h2, h3, h4⟩ := h
  exact ⟨tx, aK, aV, byt, hy, vk_R.warm hW h1, (vk_S.moved hW.alike h2).kept hq, (va_Z.moved hW.alike h3).kept hq, (va_Zq.moved hW.alike h4).kept hq⟩
/-- the world as the state has it -/
noncomputable def Wok (D : va_G) (ca : Nat → ClassId) (h0 b n : Nat) (I : Im) (J : Jm) (R : Rm) (U : State) : Prop := U.heap.size = h0 + n ∧ va_P D ncl (wd ca h0 b n I J R) U.heap ∧ va_K D ncl (ntys ca) U ∧ (NN U ∧ SKp h0 U)
noncomputable abbrev St3 : Type := Im × Jm × Rm
noncomputable def mPost (D : va_G) (ca : Nat → ClassId) (h0 b n' : Nat) (rk kr : Nat) (R : Rm) (Q : Qt) (A : Nat → Prop) : Array Value → State → Outcome → State → Prop := match rk with
  | 0 => va_Qv (fun u : St3 => (kr = 1 → u.2.2 = R) ∧ Q 0 0 u.1 u.2.1 u.2.2) (fun u t => t.heap.size = h0 + n' ∧ va_P D ncl (wd ca h0 b n' u.1 u.2.1 u.2.2) t.heap) A
  | 1 => va_Qi (fun (x : Int32) (u : St3) => (kr = 1 → u.2.2 = R) ∧ Q x 0 u.1 u.2.1 u.2.2) (fun u t => t.heap.size = h0 + n' ∧ va_P D ncl (wd ca h0 b n' u.1 u.2.1 u.2.2) t.heap) A
  | 2 => va_Qi (fun (x : Int32) (u : St3) => (x = 0 ∨ x = 1) ∧ (kr = 1 → u.2.2 = R) ∧ Q x 0 u.1 u.2.1 u.2.2) (fun u t => t.heap.size = h0 + n' ∧ va_P D ncl (wd ca h0 b n' u.1 u.2.1 u.2.2) t.heap) A
  | _ => va_Ql (fun (x : Int64) (u : St3) => (kr = 1 → u.2.2 = R) ∧ Q 0 x u.1 u.2.1 u.2.2) (fun u t => t.heap.size = h0 + n' ∧ va_P D ncl (wd ca h0 b n' u.1 u.2.1 u.2.2) t.heap) A
noncomputable def rmD (d al ms : Nat) : Room := { frames := d, cells := al, slots := ms, locals := 64 * d }
noncomputable def mFree (ca : Nat → ClassId) (h0 b n : Nat) (I : Im) (J : Jm) (R : Rm) : Nat → Prop := va_A (wd ca h0 b n I J R) (h0 + n)
theorem mFree_ge {ca : Nat → ClassId} {h0 b n : Nat} {I : Im} {J : Jm} {R : Rm} {q : Nat} : mFree ca h0 b n I J R q ↔ h0 ≤ q := by
  constructor
  · rintro (⟨k, e, h⟩ | h)
    · obtain ⟨-, h2⟩ := wd_at h
      cases h2
      omega
    · omega
  · intro h
    by_cases hq : q < h0 + n
    · refine Or.inl ⟨q - h0, celE ca h0 b I J R (q - h0 + 1), ?_⟩
      have := wd_get (ca := ca) (h0 := h0) (b := b) (n := n) (I := I) (J := J) (R := R) (a := q - h0 + 1) (by omega) (by omega)
      rw [show q - h0 + 1 - 1 = q - h0 by omega, show ad h0 b (q - h0 + 1) = q by show h0 + (q - h0) = q; omega] at this
      exact this
    · exact Or.inr (by omega)
noncomputable def wsM (q : Mt) : List Cond := qW q :: wsG
/-- what the contract of a method says, at depth d, of all calls that the small machine goes through -/
noncomputable def MetD (l : Launch) (d : Nat) : Prop := ∀ (D : va_G) (ca : Nat → ClassId) (h0 b mi n : Nat) (as : List Value) (I : Im) (J : Jm) (R : Rm) (Q : Qt), mi < nMth → (qPh (mQ mi) = 1 → Fl R ∧ n = nAll) → AM d mi n as I J R Q →
  Met l (mQ mi).2.1 (wsM (mQ mi)) (rmD d (qAl (mQ mi)) (sl (n + qAl (mQ mi)) - sl n)) (va_Pc (as.map (cv h0 b)) (fun U => Wok D ca h0 b n I J R U))
    (mPost D ca h0 b (n + qAl (mQ mi)) (qRk (mQ mi)) (qKr (mQ mi)) R Q (mFree ca h0 b n I J R)) (qAl (mQ mi)) (sl (n + qAl (mQ mi)) - sl n) (mFree ca h0 b n I J R)
end PT1x0
