/-! ===== the law's loop, its start ===== -/
set_option maxRecDepth 100000 in
theorem law_loop {Q : Nat → Qt} {P : Kt} {L : Nat} {xs : Nat → Int32} (hc : Cl (AM 640) false true L xs 2 112 kL_law Q P) (hL : L ≤ 3584) (hQ : ∀ (I : Im) (J : Jm) (R : Rm), Q 112 1 0 I J R) : ∀ (m : Nat) (v3 : Int32) (I : Im) (J : Jm) (R : Rm), Bd I → RI R → Fl R → RLz I → R3 I J → RM I J R → True → W9 I R → 0 ≤ v3.toInt → v3.toInt ≤ 3591 → 3600 - v3.toInt < (m : Int) → P 18 112 [(0, .ref 0), (1, .ref 1), (2, .ref 97), (3, .int v3)] [] I J R := by
  intro m
  induction m with
  | zero => intro v3 I J R hB hR hF hL0 hR3 hRM hFQ hW9 h0 h1 hm; exact absurd hm (by omega)
  | succ m ih =>
    intro v3 I J R hB hR hF hRL hR3 hRM hFQ hW9 h0 h1 hm
    have eL : (Int32.ofNat L).toInt = (L : Int) := nI_toInt (by omega)
    have e7 : ((Int32.ofNat L) - 7 : Int32).toInt = (L : Int) - 7 := ti_sub eL (show (7 : Int32).toInt = 7 from rfl) (by omega)
    refine ls_18 hc v3 I J R ⟨fun _ => ⟨Or.inr rfl, hQ _ _ _⟩, fun c => ?_⟩
    have h7 : v3.toInt + 7 ≤ (L : Int) := by
      have := ci_nlt e7 rfl c
      omega
    have hN : ∀ (I : Im) (J : Jm) (R : Rm), Bd I → RI R → Fl R → RLz I → R3 I J → RM I J R → True → W9 I R → P 1889 112 [(0, .ref 0), (1, .ref 1), (2, .ref 97), (3, .int v3)] [] I J R := fun I J R hB hR hF hRL hR3 hRM hFQ hW9 => by
      have e3 : (v3 + 7 : Int32).toInt = v3.toInt + 7 := ti_add rfl (show (7 : Int32).toInt = 7 from rfl) (by omega)
      exact ls_1889 hc v3 I J R (ih (v3 + 7) I J R hB hR hF hRL hR3 hRM hFQ hW9 (by omega) (by omega) (by omega))
    refine ⟨vp_of (a := v3.toInt) rfl h0 (by omega), ?_⟩
    exact ⟨fun _ => lc_0 hc hL hB hR hF hRL.1 hRL.2.1 hRL.2.2.1 hRL.2.2.2 hR3 hRM hFQ hW9 h0 h7 hN, fun _ => ⟨fun _ => lc_1 hc hL hB hR hF hRL.1 hRL.2.1 hRL.2.2.1 hRL.2.2.2 hR3 hRM hFQ hW9 h0 h7 hN, fun _ => ⟨fun _ => lc_2 hc hL hB hR hF hRL.1 hRL.2.1 hRL.2.2.1 hRL.2.2.2 hR3 hRM hFQ hW9 h0 h7 hN, fun _ => ⟨fun _ => lc_3 hc hL hB hR hF hRL.1 hRL.2.1 hRL.2.2.1 hRL.2.2.2 hR3 hRM hFQ hW9 h0 h7 hN, fun _ => ⟨fun _ => lc_4 hc hL hB hR hF hRL.1 hRL.2.1 hRL.2.2.1 hRL.2.2.2 hR3 hRM hFQ hW9 h0 h7 hN, fun _ => ⟨fun _ => lc_5 hc hL hB hR hF hRL.1 hRL.2.1 hRL.2.2.1 hRL.2.2.2 hR3 hRM hFQ hW9 h0 h7 hN, fun _ => ⟨fun _ => lc_6 hc hL hB hR hF hRL.1 hRL.2.1 hRL.2.2.1 hRL.2.2.2 hR3 hRM hFQ hW9 h0 h7 hN, fun _ => ⟨fun _ => lc_7 hc hL hB hR hF hRL.1 hRL.2.1 hRL.2.2.1 hRL.2.2.2 hR3 hRM hFQ hW9 h0 h7 hN, fun _ => ⟨fun _ => lc_8 hc hL hB hR hF hRL.1 hRL.2.1 hRL.2.2.1 hRL.2.2.2 hR3 hRM hFQ hW9 h0 h7 hN, fun _ => ⟨fun _ => lc_9 hc hL hB hR hF hRL.1 hRL.2.1 hRL.2.2.1 hRL.2.2.2 hR3 hRM hFQ hW9 h0 h7 hN, fun _ => ⟨fun _ => lc_10 hc hL hB hR hF hRL.1 hRL.2.1 hRL.2.2.1 hRL.2.2.2 hR3 hRM hFQ hW9 h0 h7 hN, fun _ => ⟨fun _ => lc_11 hc hL hB hR hF hRL.1 hRL.2.1 hRL.2.2.1 hRL.2.2.2 hR3 hRM hFQ hW9 h0 h7 hN, fun _ => ⟨fun _ => lc_12 hc hL hB hR hF hRL.1 hRL.2.1 hRL.2.2.1 hRL.2.2.2 hR3 hRM hFQ hW9 h0 h7 hN, fun _ => ⟨fun _ => lc_13 hc hL hB hR hF hRL.1 hRL.2.1 hRL.2.2.1 hRL.2.2.2 hR3 hRM hFQ hW9 h0 h7 hN, fun _ => ⟨fun _ => lc_14 hc hL hB hR hF hRL.1 hRL.2.1 hRL.2.2.1 hRL.2.2.2 hR3 hRM hFQ hW9 h0 h7 hN, fun _ => ⟨fun _ => lc_15 hc hL hB hR hF hRL.1 hRL.2.1 hRL.2.2.1 hRL.2.2.2 hR3 hRM hFQ hW9 h0 h7 hN, fun _ => ⟨fun _ => lc_16 hc hL hB hR hF hRL.1 hRL.2.1 hRL.2.2.1 hRL.2.2.2 hR3 hRM hFQ hW9 h0 h7 hN, fun _ => ⟨fun _ => lc_17 hc hL hB hR hF hRL.1 hRL.2.1 hRL.2.2.1 hRL.2.2.2 hR3 hRM hFQ hW9 h0 h7 hN, fun _ => ⟨fun _ => lc_18 hc hL hB hR hF hRL.1 hRL.2.1 hRL.2.2.1 hRL.2.2.2 hR3 hRM hFQ hW9 h0 h7 hN, fun _ => ⟨fun _ => lc_19 hc hL hB hR hF hRL.1 hRL.2.1 hRL.2.2.1 hRL.2.2.2 hR3 hRM hFQ hW9 h0 h7 hN, fun _ => ⟨fun _ => lc_20 hc hL hB hR hF hRL.1 hRL.2.1 hRL.2.2.1 hRL.2.2.2 hR3 hRM hFQ hW9 h0 h7 hN, fun _ => ⟨fun _ => lc_21 hc hL hB hR hF hRL.1 hRL.2.1 hRL.2.2.1 hRL.2.2.2 hR3 hRM hFQ hW9 h0 h7 hN, fun _ => ⟨fun _ => lc_22 hc hL hB hR hF hRL.1 hRL.2.1 hRL.2.2.1 hRL.2.2.2 hR3 hRM hFQ hW9 h0 h7 hN, fun _ => ⟨fun _ => lc_23 hc hL hB hR hF hRL.1 hRL.2.1 hRL.2.2.1 hRL.2.2.2 hR3 hRM hFQ hW9 h0 h7 hN, fun _ => ⟨fun _ => lc_24 hc hL hB hR hF hRL.1 hRL.2.1 hRL.2.2.1 hRL.2.2.2 hR3 hRM hFQ hW9 h0 h7 hN, fun _ => ⟨fun _ => lc_25 hc hL hB hR hF hRL.1 hRL.2.1 hRL.2.2.1 hRL.2.2.2 hR3 hRM hFQ hW9 h0 h7 hN, fun _ => ⟨fun _ => lc_26 hc hL hB hR hF hRL.1 hRL.2.1 hRL.2.2.1 hRL.2.2.2 hR3 hRM hFQ hW9 h0 h7 hN, fun _ => ⟨fun _ => lc_27 hc hL hB hR hF hRL.1 hRL.2.1 hRL.2.2.1 hRL.2.2.2 hR3 hRM hFQ hW9 h0 h7 hN, fun _ => ⟨fun _ => lc_28 hc hL hB hR hF hRL.1 hRL.2.1 hRL.2.2.1 hRL.2.2.2 hR3 hRM hFQ hW9 h0 h7 hN, fun _ => ⟨fun _ => lc_29 hc hL hB hR hF hRL.1 hRL.2.1 hRL.2.2.1 hRL.2.2.2 hR3 hRM hFQ hW9 h0 h7 hN, fun _ => ⟨fun _ => lc_30 hc hL hB hR hF hRL.1 hRL.2.1 hRL.2.2.1 hRL.2.2.2 hR3 hRM hFQ hW9 h0 h7 hN, fun _ => ⟨fun _ => lc_31 hc hL hB hR hF hRL.1 hRL.2.1 hRL.2.2.1 hRL.2.2.2 hR3 hRM hFQ hW9 h0 h7 hN, fun _ => ⟨fun _ => lc_32 hc hL hB hR hF hRL.1 hRL.2.1 hRL.2.2.1 hRL.2.2.2 hR3 hRM hFQ hW9 h0 h7 hN, fun _ => ⟨fun _ => lc_33 hc hL hB hR hF hRL.1 hRL.2.1 hRL.2.2.1 hRL.2.2.2 hR3 hRM hFQ hW9 h0 h7 hN, fun _ => ⟨fun _ => lc_34 hc hL hB hR hF hRL.1 hRL.2.1 hRL.2.2.1 hRL.2.2.2 hR3 hRM hFQ hW9 h0 h7 hN, fun _ => ⟨fun _ => lc_35 hc hL hB hR hF hRL.1 hRL.2.1 hRL.2.2.1 hRL.2.2.2 hR3 hRM hFQ hW9 h0 h7 hN, fun _ => ⟨fun _ => lc_36 hc hL hB hR hF hRL.1 hRL.2.1 hRL.2.2.1 hRL.2.2.2 hR3 hRM hFQ hW9 h0 h7 hN, fun _ => ⟨fun _ => lc_37 hc hL hB hR hF hRL.1 hRL.2.1 hRL.2.2.1 hRL.2.2.2 hR3 hRM hFQ hW9 h0 h7 hN, fun _ => ⟨fun _ => lc_38 hc hL hB hR hF hRL.1 hRL.2.1 hRL.2.2.1 hRL.2.2.2 hR3 hRM hFQ hW9 h0 h7 hN, fun _ => ⟨fun _ => lc_39 hc hL hB hR hF hRL.1 hRL.2.1 hRL.2.2.1 hRL.2.2.2 hR3 hRM hFQ hW9 h0 h7 hN, fun _ => ⟨fun _ => lc_40 hc hL hB hR hF hRL.1 hRL.2.1 hRL.2.2.1 hRL.2.2.2 hR3 hRM hFQ hW9 h0 h7 hN, fun _ => ⟨fun _ => lc_41 hc hL hB hR hF hRL.1 hRL.2.1 hRL.2.2.1 hRL.2.2.2 hR3 hRM hFQ hW9 h0 h7 hN, fun _ => ⟨fun _ => lc_42 hc hL hB hR hF hRL.1 hRL.2.1 hRL.2.2.1 hRL.2.2.2 hR3 hRM hFQ hW9 h0 h7 hN, fun _ => ⟨fun _ => lc_43 hc hL hB hR hF hRL.1 hRL.2.1 hRL.2.2.1 hRL.2.2.2 hR3 hRM hFQ hW9 h0 h7 hN, fun _ => ⟨fun _ => lc_44 hc hL hB hR hF hRL.1 hRL.2.1 hRL.2.2.1 hRL.2.2.2 hR3 hRM hFQ hW9 h0 h7 hN, fun _ => ⟨fun _ => lc_45 hc hL hB hR hF hRL.1 hRL.2.1 hRL.2.2.1 hRL.2.2.2 hR3 hRM hFQ hW9 h0 h7 hN, fun _ => ⟨fun _ => lc_46 hc hL hB hR hF hRL.1 hRL.2.1 hRL.2.2.1 hRL.2.2.2 hR3 hRM hFQ hW9 h0 h7 hN, fun _ => ⟨fun _ => lc_47 hc hL hB hR hF hRL.1 hRL.2.1 hRL.2.2.1 hRL.2.2.2 hR3 hRM hFQ hW9 h0 h7 hN, fun _ => ⟨fun _ => lc_48 hc hL hB hR hF hRL.1 hRL.2.1 hRL.2.2.1 hRL.2.2.2 hR3 hRM hFQ hW9 h0 h7 hN, fun _ => hN _ _ _ hB hR hF hRL hR3 hRM hFQ hW9⟩⟩⟩⟩⟩⟩⟩⟩⟩⟩⟩⟩⟩⟩⟩⟩⟩⟩⟩⟩⟩⟩⟩⟩⟩⟩⟩⟩⟩⟩⟩⟩⟩⟩⟩⟩⟩⟩⟩⟩⟩⟩⟩⟩⟩⟩⟩⟩⟩
theorem law_aw {L : Nat} {xs : Nat → Int32} (hL : L ≤ 3584) : AW (AM 640) false true L xs 2 112 kL_law (fun n x _ _ _ _ => x = 1 ∧ n ≤ 112) 0 0 [(0, .ref 0)] [] (fun _ _ => 0) (fun _ _ => 0) (fun _ _ => 0) := by
  intro P hc
  refine ls_0 hc _ _ _ ?_
  refine ct_X11_init_1 BZ.start.z (fun I1 J1 R1 hB1 _ hK1 _ hZ1 _ hJ1 => ?_)
  have hK2 : RK lk_X11_init_1 (zR R1 97) := hK1.z rfl
  have hZ2 : KI zk_X11_init_1 (zI I1 97) := hZ1.z rfl
  refine ct_X12_init_97 hB1.z hK2 hZ2 (JZ.z hJ1.1 rfl) (J5.z hJ1.2 rfl) (fun I2 J2 R2 hB2 hF2 hK3 hRL hR3 hM0 hS0 => ?_)
  have hK : RK lkA R2 := RK.app hK3 (hK2.fr hF2 rfl)
  have hRM : RM I2 J2 R2 := by
    obtain ⟨m1, m2, m3, m4, m5, -⟩ := hM0
    have e7 : R2 1 7 = 9 := hK.at rfl
    unfold RM
    rw [e7]
    refine ⟨⟨m1.trans m3.symm, m2.trans m4.symm, fun k hk hi => ?_⟩, fun j hj hm => ?_⟩
    · rw [m3, show (0 : Int32).toInt = 0 from rfl] at hi; omega
    · rw [m5, show (0 : Int32).toInt = 0 from rfl] at hm; omega
  exact law_loop hc hL (fun _ _ _ => ⟨rfl, Nat.le_refl _⟩) 4000 0 I2 J2 R2 hB2 (ri_of hK) (fl_of hK) ⟨hRL.1, hRL.2.1, hRL.2.2.1, trivial⟩ hR3 hRM trivial (W9.start (hK.at rfl) (hK.at rfl) hS0 hM0.2.2.2.2.1) (by decide) (by decide) (by decide)
set_option maxHeartbeats 4000000 in
theorem start_of0 {p : Program} {e : Env} {s : State} {m : MethodId} {below : List Frame} {meth : Method} {c : Code} (l : Launch) {b L : Nat} {xs : Nat → Int32} (C0 : lw_At p s m meth c b L xs) {d : Nat} (hd : d ≤ 1000)
    (hAW : AW (AM d) false true L xs 2 112 kL_law (fun n x _ _ _ _ => x = 1 ∧ n ≤ 112) 0 0 [(0, .ref 0)] [] (fun _ _ => 0) (fun _ _ => 0) (fun _ _ => 0)) : W p l e room_1 s m #[Value.ref b] below meth c s.heap [] 0 0 (lw_Z below #[Value.ref b] s) (entryFrame m ([Value.ref b] : List Value).toArray 4) := by
  obtain ⟨hx, hb, hr, hml, hown, hts, hX, hbl, hlocks, hgv⟩ := id C0
  have hk : ∀ k : Nat, ∃ q : ClassId × (Nat → Nat), k < 13 → u_Kn s (clC k) (clT k) (clN k) q.1 q.2 := by
    intro k
    by_cases hk : k < 13
    · obtain ⟨cC, iS, h⟩ := u_known (C := clC k) (T := clT k) (N := clN k) (n := clN k) hts (fun w h => wsG_law (ucl k hk w h)) (hts _ (inst_all k hk))
      exact ⟨(cC, iS), fun _ => h⟩
    · exact ⟨(0, fun _ => 0), fun h => absurd h hk⟩
  obtain ⟨D, hD⟩ : ∃ D : va_G, ∀ k, k < 13 → u_Kn s (clC k) (clT k) (clN k) (D.1 k) (D.2 k) := ⟨(fun k => (Classical.choose (hk k)).1, fun k => (Classical.choose (hk k)).2), fun k h => Classical.choose_spec (hk k) h⟩
  obtain ⟨a0, ha0⟩ := arr_prim (hts _ acm_int) (fun C h => by cases h)
  obtain ⟨a1, ha1⟩ := arr_prim (hts _ acm_long) (fun C h => by cases h)
  obtain ⟨a2, ha2⟩ := arr_prim (hts _ acm_byte) (fun C h => by cases h)
  obtain ⟨a3, ha3⟩ := arr_obj (hts _ aom_0)
  obtain ⟨a4, ha4⟩ := arr_obj (hts _ aom_1)
  obtain ⟨a5, ha5⟩ := arr_obj (hts _ aom_2)
  obtain ⟨ca, hca⟩ : ∃ ca : Nat → ClassId, ca 0 = a0 ∧ ca 1 = a1 ∧ ca 2 = a2 ∧ ca 3 = a3 ∧ ca 4 = a4 ∧ ca 5 = a5 := ⟨fun k => match k with
    | 0 => a0
    | 1 => a1
    | 2 => a2
    | 3 => a3
    | 4 => a4
    | _ => a5, rfl, rfl, rfl, rfl, rfl, rfl⟩
  obtain ⟨rfl, rfl, rfl, rfl, rfl, rfl⟩ := hca
  have hK : va_K D ncl (ntys ca) s := by
    refine ⟨fun k q h => ?_, fun k q h => ?_⟩
    · obtain ⟨h1, rfl⟩ := ncl_at h
      exact hD k h1
    · match k, h with
      | 0, h => cases h; exact ha0
      | 1, h => cases h; exact ha1
      | 2, h => cases h; exact ha2
      | 3, h => cases h; exact ha3
      | 4, h => cases h; exact ha4
      | 5, h => cases h; exact ha5
      | k + 6, h => simp [ntys] at h
  have hNN : NN s := by
    refine ⟨fun q hq => va_Nw.of rfl (hts _ (nest_mem q hq)), fun t ht => ?_⟩
    rcases (show t = 0 ∨ t = 1 ∨ t = 2 by omega) with rfl | rfl | rfl
    · exact va_AO.of (hts _ aom_0)
    · exact va_AO.of (hts _ aom_1)
    · exact va_AO.of (hts _ aom_2)
  have hSK : SKp s.heap.size s := skp_start C0
  have hsl : sl 112 - sl 0 ≤ 7302250 := by decide +kernel
  have hC : Ctx p room_1 s m #[Value.ref b] meth c RL code 4 0 lw_tbl D ca s.heap.size b 0 112 L (fun q => s.heap.size ≤ q) true xs :=
    ⟨hx, hb, hml, hown, hts, fun w hw => wsG_law hw, hK, ⟨hNN, hSK, fun q h => h⟩, fun q h => h, rfl, (fun h => by cases h), ⟨by decide, hsl⟩, ⟨by decide, by decide⟩, fun _ => ⟨hX, hbl, Nat.not_le.mpr hbl⟩⟩
  have hRet : RetOk p l e room_1 s m #[Value.ref b] below meth c (lw_Z below #[Value.ref b] s) code D ca s.heap.size b 0 (fun q => s.heap.size ≤ q) 2 (fun n x _ _ _ _ => x = 1 ∧ n ≤ 112) := by
    intro pc n I J R H locs ls hn hP hS
    refine ⟨fun h => (by cases h), fun _ x _ hdg hq => ?_, fun h => (by cases h)⟩
    obtain ⟨rfl, hle⟩ := hq
    refine va_forget hS.2.2 (W.widen (k := 600000) (n := 7302250) ?_ ?_ (lw_ret hx hb hr hlocks hdg))
    · omega
    · exact Nat.le_trans (Nat.sub_le_sub_right (sl_le hle) _) hsl
  have key := hAW _ ⟨fun en hen n lv st I J R h => step_ok (isl := true) (xs := xs) (L := L) hC (met_all l (met_reader l) d) ⟨by show d + 1 ≤ 2048; omega, by show 64 * (d + 1) ≤ 84000; omega⟩ qRk_le hRet (law_okE en hen) (law_need en hen) h, fun pc n ks lv st I J R h => PW_pk h⟩
  have hl := lv_entry ([.ref b]) (n := 4) (Nat.le_of_ble_eq_true rfl)
  rw [lg_entry_eq]
  have hP0 : va_P D ncl (wd ca s.heap.size b 0 (fun _ _ => 0) (fun _ _ => 0) (fun _ _ => 0)) s.heap := fun k q h => by
    obtain ⟨h1, -⟩ := wd_at h
    omega
  exact key s.heap [] _ (Nat.le_refl 0) (fun q => by cases q) hP0 va_S.rf hl
theorem whole_start {p : Program} {e : Env} {s : State} {m : MethodId} {below : List Frame} {meth : Method} {c : Code} (l : Launch) (hflags : l.flags = flags0) {b L : Nat} {xs : Nat → Int32} (hL : L ≤ 3584) (C0 : lw_At p s m meth c b L xs) : W p l e room_1 s m #[Value.ref b] below meth c s.heap [] 0 0 (lw_Z below #[Value.ref b] s) (entryFrame m ([Value.ref b] : List Value).toArray 4) :=
  start_of0 l C0 (d := 640) (by decide) (law_aw hL)
