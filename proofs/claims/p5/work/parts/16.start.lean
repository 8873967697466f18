/-! ===== the law's start: all that is left is a walk of the small machine ===== -/
theorem arr_prim {args : Array Value} {s : State} {ty : FieldType} (h : (Cond.arrayClass ty).before args s = true) (hr : ∀ C, ty ≠ .object C) : ∃ cA : ClassId, ArrOfT s cA ty ∧ va_RA s cA ty := by
  obtain ⟨cA, kA, comp, h1, h2, h3⟩ := Cond.arrayClass_spec h
  refine ⟨cA, fun N z => ⟨fun k h => (by cases h), kA, h2, comp, h3⟩, ?_⟩
  cases ty with
  | object C => exact absurd rfl (hr C)
  | _ => exact h1
theorem arr_obj {args : Array Value} {s : State} {C : String} (h : (Cond.arrayOver (.object C)).before args s = true) : ∃ cA : ClassId, ArrOfT s cA (.object C) ∧ va_RA s cA (.object C) := by
  obtain ⟨comp, cA, kA, h1, h2, h3, h4, h5⟩ := Cond.arrayOver_spec h
  exact ⟨cA, fun N z => ⟨fun k h => (by cases h), kA, h3, comp, h4⟩, kA, comp, h3, h4, h1, h5⟩
theorem ncl_at {k : Nat} {q : vw_C} (h : ncl[k]? = some q) : k < 13 ∧ q = (clC k, clT k, clN k) := by
  have hk : k < 13 := (List.getElem?_eq_some_iff.mp h).1
  rw [ncl_get k hk] at h
  exact ⟨hk, (Option.some.inj h).symm⟩
set_option maxHeartbeats 4000000 in
theorem start_of {p : Program} {e : Env} {s : State} {m : MethodId} {below : List Frame} {meth : Method} {c : Code} (l : Launch) {b L : Nat} {xs : Nat → Int32} (C0 : lw_At p s m meth c b L xs) {d : Nat} (hd : d ≤ 1000)
    (hAW : ∀ (I : Im) (J : Jm) (R : Rm), AW (AM d) false true L xs 2 112 kL_law (fun n x _ _ _ _ => x = 1 ∧ n ≤ 112) 0 0 [(0, .ref 0)] [] I J R) : W p l e room_1 s m #[Value.ref b] below meth c s.heap [] 0 0 (lw_Z below #[Value.ref b] s) (entryFrame m ([Value.ref b] : List Value).toArray 4) := by
  obtain ⟨hx, hb, hr, hml, hown, hts, hX, hbl, hlocks, hgv⟩ := id C0
  have hk : ∀ k : Nat, ∃ q : ClassId × (Nat → Nat), k < 13 → u_Kn s (clC k) (clT k) (clN k) q.1 q.2 := by
    intro k
    by_cases hk : k < 13
    · obtain ⟨cC, iS, h⟩ := u_known (C := clC k) (T := clT k) (N := clN k) (n := clN k) hts (fun w h => wsG_law (ucl k hk w h)) (hts _ (inst_all k hk))
      exact ⟨(cC, iS), fun _ => h⟩
    · exact ⟨(0, fun _ => 0), fun h => absurd h hk⟩
  obtain ⟨D, hD⟩ : ∃ D : va_G, ∀ k, k < 13 → u_Kn s (clC k) (clT k) (clN k) (D.1 k) (D.2 k) := ⟨(fun k => (Classical.choose (hk k)).1, fun k => (Classical.choose (hk k)).2), fun k h => Classical.choose_spec (hk k) h⟩
  obtain ⟨a0, ha0⟩ := arr_prim (hts _ acm_int) (fun C h => by cases h)
  obtain ⟨a1, ha1⟩ := arr_prim (hts _ acm_long) (fun C h => by cases h)
  obtain ⟨a2, ha2⟩ := arr_prim (hts _ acm_byte) (fun C h => by cases h)
  obtain ⟨a3, ha3⟩ := arr_obj (hts _ aom_0)
  obtain ⟨a4, ha4⟩ := arr_obj (hts _ aom_1)
  obtain ⟨a5, ha5⟩ := arr_obj (hts _ aom_2)
  obtain ⟨ca, hca⟩ : ∃ ca : Nat → ClassId, ca 0 = a0 ∧ ca 1 = a1 ∧ ca 2 = a2 ∧ ca 3 = a3 ∧ ca 4 = a4 ∧ ca 5 = a5 := ⟨fun k => match k with
    | 0 => a0
    | 1 => a1
    | 2 => a2
    | 3 => a3
    | 4 => a4
    | _ => a5, rfl, rfl, rfl, rfl, rfl, rfl⟩
  obtain ⟨rfl, rfl, rfl, rfl, rfl, rfl⟩ := hca
  have hK : va_K D ncl (ntys ca) s := by
    refine ⟨fun k q h => ?_, fun k q h => ?_⟩
    · obtain ⟨h1, rfl⟩ := ncl_at h
      exact hD k h1
    · match k, h with
      | 0, h => cases h; exact ha0
      | 1, h => cases h; exact ha1
      | 2, h => cases h; exact ha2
      | 3, h => cases h; exact ha3
      | 4, h => cases h; exact ha4
      | 5, h => cases h; exact ha5
      | k + 6, h => simp [ntys] at h
  have hNN : NN s := by
    refine ⟨fun q hq => va_Nw.of rfl (hts _ (nest_mem q hq)), fun t ht => ?_⟩
    rcases (show t = 0 ∨ t = 1 ∨ t = 2 by omega) with rfl | rfl | rfl
    · exact va_AO.of (hts _ aom_0)
    · exact va_AO.of (hts _ aom_1)
    · exact va_AO.of (hts _ aom_2)
  have hsl : sl 112 - sl 0 ≤ 7302250 := by decide +kernel
  have hC : Ctx p room_1 s m #[Value.ref b] meth c RL code 4 0 lw_tbl D ca s.heap.size b 0 112 L (fun q => s.heap.size ≤ q) true xs :=
    ⟨hx, hb, hml, hown, hts, fun w hw => wsG_law hw, hK, hNN, fun q h => h, rfl, (fun h => by cases h), ⟨by decide, hsl⟩, ⟨by decide, by decide⟩, fun _ => ⟨hX, hbl, Nat.not_le.mpr hbl⟩⟩
  have hRet : RetOk p l e room_1 s m #[Value.ref b] below meth c (lw_Z below #[Value.ref b] s) code D ca s.heap.size b 0 (fun q => s.heap.size ≤ q) 2 (fun n x _ _ _ _ => x = 1 ∧ n ≤ 112) := by
    intro pc n I J R H locs ls hn hP hS
    refine ⟨fun h => (by cases h), fun _ x _ hdg hq => ?_, fun h => (by cases h)⟩
    obtain ⟨rfl, hle⟩ := hq
    refine va_forget hS.2.2 (W.widen (k := 600000) (n := 7302250) ?_ ?_ (lw_ret hx hb hr hlocks hdg))
    · omega
    · exact Nat.le_trans (Nat.sub_le_sub_right (sl_le hle) _) hsl
  have key := hAW (fun _ _ => 0) (fun _ _ => 0) (fun _ _ => 0) _ ⟨fun en hen n lv st I J R h => step_ok (isl := true) (xs := xs) (L := L) hC (met_all l d) ⟨by show d + 1 ≤ 2048; omega, by show 64 * (d + 1) ≤ 84000; omega⟩ qRk_le hRet (law_okE en hen) (law_need en hen) h, fun pc n ks lv st I J R h => PW_pk h⟩
  have hl := lv_entry ([.ref b]) (n := 4) (Nat.le_of_ble_eq_true rfl)
  rw [lg_entry_eq]
  have hP0 : va_P D ncl (wd ca s.heap.size b 0 (fun _ _ => 0) (fun _ _ => 0) (fun _ _ => 0)) s.heap := fun k q h => by
    obtain ⟨h1, -⟩ := wd_at h
    omega
  exact key s.heap [] _ (Nat.le_refl 0) (fun q => by cases q) hP0 va_S.rf hl
