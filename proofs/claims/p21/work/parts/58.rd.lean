/-! ===== the Reader's constructor keeps its contract ===== -/
theorem rd_three {o : Nat} (h : isO o o 6 = true) : o = 3 := by
  obtain ⟨h1, -, h3⟩ := isO_spec h
  by_cases hq : o - 1 < 112
  · have all : ∀ k, k < 112 → (shl.getD k (999, 0)).1 = 6 → k = 2 := by decide +kernel
    have := all (o - 1) hq h3
    omega
  · have hl : shl.length = 112 := by decide +kernel
    rw [List.getD_eq_getElem?_getD, List.getElem?_eq_none (by omega)] at h3
    cases h3
theorem metd0 (l : Launch) : MetD l 0 := fun _ _ _ _ _ _ _ _ _ _ _ _ _ hM => hM.elim
set_option maxRecDepth 100000 in
theorem rs_85 {Q : Nat → Qt} {P : Kt} (hc : Cl (AM 0) false false 0 (fun _ => 0) 0 5 kRd Q P) (v1 v2 : Int32) (I : Im) (J : Jm) (R : Rm) (h : P 86 5 [(0, .ref 3), (1, .int v1), (2, .int v2)] [.int v2] I J R) : P 85 5 [(0, .ref 3), (1, .int v1), (2, .int v2)] [] I J R :=
  run_at (AM_m 0) hc (stops := [(86, [0, 1, 2])]) (k := 3) h
set_option maxRecDepth 100000 in
theorem rs_91 {Q : Nat → Qt} {P : Kt} (hc : Cl (AM 0) false false 0 (fun _ => 0) 0 5 kRd Q P) (v1 v2 : Int32) (I : Im) (J : Jm) (R : Rm) (h : ((102 : Int32) ≤ v2 → Q 5 0 0 I J R) ∧ (¬ (102 : Int32) ≤ v2 → P 94 5 [(0, .ref 3), (1, .int v1), (2, .int v2)] [] I J R)) : P 91 5 [(0, .ref 3), (1, .int v1), (2, .int v2)] [.int 102, .int v2] I J R :=
  run_at (AM_m 0) hc (stops := [(94, [0, 1, 2])]) (k := 5) h
set_option maxRecDepth 100000 in
theorem rs_100 {Q : Nat → Qt} {P : Kt} (hc : Cl (AM 0) false false 0 (fun _ => 0) 0 5 kRd Q P) (v1 v2 x : Int32) (I : Im) (J : Jm) (R : Rm)
    (h : (¬ x = 32 → ((21 : Int32) < v1 → P 85 5 [(0, .ref 3), (1, .int v1), (2, .int (v2 + 1))] [] I J R) ∧ (¬ (21 : Int32) < v1 → (¬ R 3 2 = 0 ∧ (¬ R 3 2 = 0 ∧ (vp_in v1 22 ∧ (vp_in v1 22 ∧ P 85 5 [(0, .ref 3), (1, .int v1), (2, .int (v2 + 1))] [] I (uJ J 5 v1.toNatClampNeg (J 5 v1.toNatClampNeg * 32 + (x - 97 + 1).toInt64)) R)))))) ∧ (x = 32 → P 85 5 [(0, .ref 3), (1, .int (v1 + 1)), (2, .int (v2 + 1))] [] I J R)) : P 100 5 [(0, .ref 3), (1, .int v1), (2, .int v2)] [.int x] I J R :=
  run_at (AM_m 0) hc (stops := [(85, [0, 1, 2])]) (k := 40) h
noncomputable def rdI (I : Im) : Im := uI (uI (uI (uI (uI (uI (uI (uI (uI (uI (zI (uI (zI I 4) 3 1 0) 5) 3 3 0) 3 4 0) 3 5 0) 3 6 0) 3 7 0) 3 8 0) 3 9 (-1)) 3 11 0) 3 12 0) 3 13 (-1)
noncomputable def rdJ (J : Jm) : Jm := uJ (zJ (zJ J 4) 5) 3 10 0
noncomputable def rdR (R : Rm) : Rm := uR (zR (uR (zR R 4) 3 0 4) 5) 3 2 5
set_option maxRecDepth 100000 in
theorem rs_0 {Q : Nat → Qt} {P : Kt} (hc : Cl (AM 0) false false 0 (fun _ => 0) 0 5 kRd Q P) (I : Im) (J : Jm) (R : Rm)
    (h : P 85 5 [(0, .ref 3), (1, .int 1), (2, .int 0)] [] (rdI I) (rdJ J) (rdR R)) : P 0 3 [(0, .ref 3)] [] I J R :=
  run_at (AM_m 0) hc (stops := [(85, [0, 1, 2])]) (k := 60) ⟨rfl, rfl, Or.inl rfl, h⟩
/-- the words of the text, as numbers, by its letters -/
noncomputable def rdC (i : Nat) : Int32 := rd_by.getD i 0 &&& 255
noncomputable def rdN : Nat → Nat
  | 0 => 1
  | i + 1 => if rdC i = 32 then rdN i + 1 else rdN i
noncomputable def rdA : Nat → Nat → Int64
  | 0, _ => 0
  | i + 1, k => if rdC i = 32 then rdA i k else (if k = rdN i then rdA i k * 32 + (rdC i - 97 + 1).toInt64 else rdA i k)
set_option maxRecDepth 100000 in
theorem rdN_in : ∀ i, i < 103 → 1 ≤ rdN i ∧ rdN i ≤ 21 := by decide +kernel
set_option maxRecDepth 100000 in
theorem rdA_rsv : ∀ k, k < 22 → rdA 102 k = rsv.getD k 0 := by decide +kernel
theorem rd_loop {Q : Nat → Qt} {P : Kt} (hc : Cl (AM 0) false false 0 (fun _ => 0) 0 5 kRd Q P) {I : Im} {J0 : Jm} {R : Rm} (hR : ¬ R 3 2 = 0)
    (hL : ∀ (v1 v2 : Int32) (J : Jm), P 91 5 [(0, .ref 3), (1, .int v1), (2, .int v2)] [.int 102, .int v2] I J R → P 86 5 [(0, .ref 3), (1, .int v1), (2, .int v2)] [.int v2] I J R)
    (hC : ∀ (v1 v2 : Int32) (J : Jm), ¬ v2 < 0 → v2 < 102 → P 100 5 [(0, .ref 3), (1, .int v1), (2, .int v2)] [.int (rd_by.getD v2.toNatClampNeg 0 &&& 255)] I J R → P 94 5 [(0, .ref 3), (1, .int v1), (2, .int v2)] [] I J R)
    (hQ : ∀ J : Jm, (∀ i, i ≠ 5 → J i = J0 i) → (∀ k, k < 22 → J 5 k = rsv.getD k 0) → Q 5 0 0 I J R) : ∀ (m i : Nat) (J : Jm), i + m = 102 → (∀ i, i ≠ 5 → J i = J0 i) → (∀ k, k < 22 → J 5 k = rdA i k) → P 85 5 [(0, .ref 3), (1, .int (nI (rdN i))), (2, .int (nI i))] [] I J R := by
  intro m
  induction m with
  | zero =>
    intro i J hi hJ hA
    obtain rfl : i = 102 := by omega
    exact rs_85 hc _ _ _ _ _ (hL _ _ _ (rs_91 hc _ _ _ _ _ ⟨fun _ => hQ J hJ (fun k hk => by rw [hA k hk]; exact rdA_rsv k hk), fun c => absurd (by decide) c⟩))
  | succ m ih =>
    intro i J hi hJ hA
    have hn := rdN_in i (by omega)
    refine rs_85 hc _ _ _ _ _ (hL _ _ _ (rs_91 hc _ _ _ _ _ ⟨fun c => absurd c (nI_ge (a := i) (b := 102) (by omega) (by omega)), fun _ => ?_⟩))
    refine hC _ _ _ (nI_pos (by omega)) (nI_lt (a := i) (b := 102) (by omega) (by omega)) (rs_100 hc _ _ _ _ _ _ ?_)
    rw [nI_clamp (by omega), nI_clamp (by omega), ← nI_succ, ← nI_succ]
    change (¬ rdC i = 32 → _) ∧ (rdC i = 32 → _)
    have hv : vp_in (nI (rdN i)) 22 := vp_of (nI_toInt (by omega)) (by omega) (by omega)
    refine ⟨fun c => ⟨fun c2 => absurd c2 (nI_nlt (a := 21) (b := rdN i) (by omega) (by omega)), fun _ => ⟨hR, hR, hv, hv, ?_⟩⟩, fun c => ?_⟩
    · have e1 : rdN (i + 1) = rdN i := by
        show (if rdC i = 32 then rdN i + 1 else rdN i) = rdN i
        rw [if_neg c]
      have := ih (i + 1) (uJ J 5 (rdN i) (J 5 (rdN i) * 32 + (rdC i - 97 + 1).toInt64)) (by omega) (fun j hj => (uJ_ne hj).trans (hJ j hj)) (fun k hk => by
        show _ = (if rdC i = 32 then rdA i k else (if k = rdN i then rdA i k * 32 + (rdC i - 97 + 1).toInt64 else rdA i k))
        rw [if_neg c]
        by_cases q : k = rdN i
        · subst q; rw [if_pos rfl, ← hA _ hk]; simp [uJ, vp_updL]
        · rw [if_neg q, ← hA _ hk]; simp [uJ, vp_updL, q])
      rw [e1] at this; exact this
    · have e1 : rdN (i + 1) = rdN i + 1 := by
        show (if rdC i = 32 then rdN i + 1 else rdN i) = rdN i + 1
        rw [if_pos c]
      have := ih (i + 1) J (by omega) hJ (fun k hk => by
        show _ = (if rdC i = 32 then rdA i k else (if k = rdN i then rdA i k * 32 + (rdC i - 97 + 1).toInt64 else rdA i k))
        rw [if_pos c]; exact hA k hk)
      rw [e1] at this; exact this
set_option maxRecDepth 100000 in
theorem dx_86 : decode cX6_init 86 = .ok (.ldc 58, 2) := by decide +kernel
set_option maxRecDepth 100000 in
theorem dx_88 : decode cX6_init 88 = .ok (.invokevirtual 60, 3) := by decide +kernel
set_option maxRecDepth 100000 in
theorem dx_94 : decode cX6_init 94 = .ok (.ldc 58, 2) := by decide +kernel
set_option maxRecDepth 100000 in
theorem dx_96 : decode cX6_init 96 = .ok (.iload_n 2, 1) := by decide +kernel
set_option maxRecDepth 100000 in
theorem dx_97 : decode cX6_init 97 = .ok (.invokevirtual 66, 3) := by decide +kernel
theorem rd_row : mQ mReader = (kX6_init, yX6_init, cX6_init, none, [4, 0, 2, 0, 0, 6, 1, 1, 1]) := rfl
set_option maxHeartbeats 4000000 in
theorem met_reader (l : Launch) : MetR l := by
  intro d D ca h0 b n as I J R Q h
  obtain ⟨o, rfl, hO, ⟨hA1, hA2, hA3, hA4, hno⟩, hQ⟩ := h
  obtain rfl : n = o := by omega
  obtain rfl := rd_three hO
  rw [rd_row]
  show Met l yX6_init (Cond.code yX6_init cX6_init 4 none :: wsG) (rmD (d + 6) 2 (sl (3 + 2) - sl 3)) (va_Pc [.ref (ad h0 b 3)] (fun U => Wok D ca h0 b 3 I J R U)) (mPost D ca h0 b (3 + 2) 0 0 R Q (mFree ca h0 b 3 I J R)) 2 (sl (3 + 2) - sl 3) (mFree ca h0 b 3 I J R)
  refine Met.ofW (cc := cX6_init) (maxL := 4) (ret := none) (by decide) rfl ?_
  intro p e s m args below meth c s₁ B hml hv
  obtain ⟨rfl, hsz, hP, hK, hNN, hSK⟩ := hv
  have hx := B.exec
  have hb := B.bytes
  have hr := B.returns
  have hts := atoms_spec (ws := Cond.code yX6_init cX6_init 4 none :: wsG) B.pre
  have hown : s.vm.findClass RX6 = some m.cls := findClass_of_methodNamed B.named
  have hlocks := B.notSynchronized
  have hA : ∀ q : Nat, h0 ≤ q → mFree ca h0 b 3 I J R q := fun q h => mFree_ge.mpr h
  have hIn : ∀ w ∈ wsG, w ∈ (Cond.code yX6_init cX6_init 4 none :: wsG) := fun w hw => List.mem_cons_of_mem _ hw
  have hC : Ctx p (rmD (d + 6) 2 (sl (3 + 2) - sl 3)) s m ([.ref (ad h0 b 3)] : List Value).toArray meth c RX6 cX6_init 4 1 (Cond.code yX6_init cX6_init 4 none :: wsG) D ca h0 b 3 5 0 (mFree ca h0 b 3 I J R) false (fun _ => 0) :=
    ⟨hx, hb, hml, hown, hts, hIn, hK, ⟨hNN, hSK, fun q h => mFree_ge.mp h⟩, hA, hsz, fun _ => (name_of_methodNamed B.named B.method).1, ⟨Nat.le_refl _, Nat.le_refl _⟩, ⟨by show 1 ≤ d + 6; omega, by show 64 ≤ 64 * (d + 6); omega⟩, fun q => by cases q⟩
  have hS0 : va_S (mFree ca h0 b 3 I J R) s.heap s.heap [] := va_S.rf
  have hRet : RetOk p l e (rmD (d + 6) 2 (sl (3 + 2) - sl 3)) s m ([.ref (ad h0 b 3)] : List Value).toArray below meth c (MQ below (mPost D ca h0 b (3 + 2) 0 0 R Q (mFree ca h0 b 3 I J R)) ([.ref (ad h0 b 3)] : List Value).toArray s 2 (sl (3 + 2) - sl 3) (mFree ca h0 b 3 I J R)) cX6_init D ca h0 b 3 (mFree ca h0 b 3 I J R) 0 (fun n' x y I' J' R' => n' = 5 ∧ Q x y I' J' R') := by
    intro pc n' I' J' R' H locs ls hn hP' hS'
    refine ⟨fun hk hdg hq => ?_, fun hk => by omega, fun hk => by omega⟩
    obtain ⟨rfl, hq⟩ := hq
    refine W_cs2 (n := 3) (al := 2) hsz hP' hS' (fun hz => ?_)
    exact W.vret hx hb hr (fun t ht hW => ⟨⟨(I', J', R'), rfl, ⟨(fun z => by cases z), hq⟩, by rw [ht]; exact hz, by rw [ht]; exact hP'⟩, hS'.F ht⟩) hS'.2.2 hdg
  have hc : Cl (AM 0) false false 0 (fun _ => 0) 0 5 kRd (fun n' x y I' J' R' => n' = 5 ∧ Q x y I' J' R') (PW p l e (rmD (d + 6) 2 (sl (3 + 2) - sl 3)) s m ([.ref (ad h0 b 3)] : List Value).toArray below meth c (MQ below (mPost D ca h0 b (3 + 2) 0 0 R Q (mFree ca h0 b 3 I J R)) ([.ref (ad h0 b 3)] : List Value).toArray s 2 (sl (3 + 2) - sl 3) (mFree ca h0 b 3 I J R)) 4 D ca h0 b 3 (mFree ca h0 b 3 I J R) false) :=
    ⟨fun en hen n' lv st I' J' R' h => step_ok (isl := false) (xs := fun _ => 0) (L := 0) hC (metd0 l) ⟨by show 0 + 1 ≤ d + 6; omega, by show 64 * (0 + 1) ≤ 64 * (d + 6); omega⟩ qRk_le hRet (rd_okE en hen) (rd_need en hen) h, fun pc n' ks lv st I' J' R' h => PW_pk h⟩
  obtain ⟨tx, aK, aV, byt0, hby, hk1, hk2, hk3, hk4⟩ := hSK
  subst hby
  have hU0 : ∀ (H : Heap) (locs : List Loc), va_S (mFree ca h0 b 3 I J R) s.heap H locs → ∀ U : State, U.heap = H → s.WarmedH U.vm → SKc aK aV rd_by U := by
    intro H locs hS U hU hW
    have hq : ∀ a : Nat, a < s.heap.size → ¬ h0 ≤ a → U.heap[a]? = s.heap[a]? := fun a h1 h2 => by rw [hU]; exact hS.2.1 a h1 (fun z => h2 (mFree_ge.mp z))
    exact ⟨((vk_S.moved hW.alike hk2).kept hq).narrow (fun _ z => z.elim), ((va_Z.moved hW.alike hk3).kept hq).narrow (fun _ z => z.elim), ((va_Zq.moved hW.alike hk4).kept hq).narrow (fun _ z => z.elim)⟩
  have hk2' : vk_S 1 [102] [rd_by] (fun _ => aK) (fun _ => aV) (mFree ca h0 b 3 I J R) s s.heap := hk2.narrow (fun q z => mFree_ge.mp z)
  have key := rs_0 hc I J R (rd_loop hc (I := rdI I) (J0 := rdJ J) (R := rdR R) (show ¬ (5 : Nat) = 0 by decide) ?_ ?_ ?_ 102 0 (rdJ J) (by decide) (fun _ _ => rfl) (fun _ _ => rfl))
  · have hl := lv_entry ([.ref (ad h0 b 3)] : List Value) (n := 4) (Nat.le_of_ble_eq_true rfl)
    rw [lg_entry_eq]
    exact key s.heap [] _ (Nat.le_refl 3) (fun q => by cases q) hP hS0 hl
  · intro v1 v2 J1 h H locs ls hn hph hP hS hl
    refine va_ldcS hx hb hown hk1 dx_86 ?_
    refine va_calli (va_runV (As := []) (b := aK) (rest := [.int v2]) ⟨hx, hb, hml, hown, hts⟩ (m_length l (aK := aK) (aV := aV) (byt := rd_by))
      (cwV 0 hts (by unfold wsV; exact good_app (good_list hIn wv_length) (wsY_good hIn wc_length)) rfl rfl rfl ⟨rfl, by decide +kernel⟩ ⟨by show 2 + 1 ≤ d + 6; omega, by show 8 + (1 + 11) + 64 * 2 ≤ 64 * (d + 6); omega⟩)
      ⟨SKc.blind, vk_recv (i := 0) hk2' (by decide) hS, fun U hU hW => ⟨rfl, hU0 H locs hS U hU hW⟩⟩ rfl rfl hl.1 rfl (Nat.le_of_ble_eq_true rfl) dx_88 ⟨?_, ?_⟩) hS (fun _ _ h => h.elim) (fun _ h => h.elim) (fun x u t H1 locs1 ht hal hp hB hz hk hS1 => ?_)
    · show 5 - 3 + 0 ≤ 2; omega
    · exact Nat.le_refl _
    · subst hp
      exact h H1 locs1 ls hn hph (hP.kept (fun k x hx => hk x.1 (hP k x hx).lt (fun z => z))) hS1 hl
  · intro v1 v2 J1 hv0 hv1 h H locs ls hn hph hP hS hl
    refine va_ldcS hx hb hown hk1 dx_94 ?_
    refine lv_iload_n hx hb dx_96 (i := 2) (x := v2) rfl (lv_gt (v := .int v2) hl rfl (by intro q; cases q)) ?_
    refine va_calli (va_runV (As := [.int v2]) (b := aK) (rest := []) ⟨hx, hb, hml, hown, hts⟩ (m_charAt l (aK := aK) (aV := aV) (byt := rd_by) hv0 hv1)
      (cwV 1 hts (by unfold wsV; exact good_app (good_list hIn wv_charAt) (wsY_good hIn wc_charAt)) rfl rfl rfl ⟨rfl, by decide +kernel⟩ ⟨by show 4 + 1 ≤ d + 6; omega, by show 8 + (2 + 11) + 64 * 4 ≤ 64 * (d + 6); omega⟩)
      ⟨SKc.blind, vk_recv (i := 0) hk2' (by decide) hS, fun U hU hW => ⟨rfl, hU0 H locs hS U hU hW⟩⟩ rfl rfl hl.1 rfl (Nat.le_of_ble_eq_true rfl) dx_97 ⟨?_, ?_⟩) hS (fun _ _ h => h.elim) (fun _ h => h.elim) (fun x u t H1 locs1 ht hal hp hB hz hk hS1 => ?_)
    · show 5 - 3 + 0 ≤ 2; omega
    · exact Nat.le_refl _
    · subst hp
      exact h H1 locs1 ls hn hph (hP.kept (fun k x hx => hk x.1 (hP k x hx).lt (fun z => z))) hS1 hl
  · intro J1 hJ hA
    refine ⟨rfl, hQ (rdI I) J1 (rdR R) (fun i h1 h2 h3 => ?_) (fun i h1 h2 h3 => ?_) (fun i h1 h2 h3 => ?_) ⟨fun k => rfl, rfl, rfl, rfl, rfl, rfl, rfl, rfl, rfl, rfl, rfl, ?_, rfl, rfl, rfl, hA⟩⟩
    · simp only [rdI, uI_ne h1, zI_ne h2, zI_ne h3]
    · rw [hJ i h3]
      simp only [rdJ, uJ_ne h1, zJ_ne h2, zJ_ne h3]
    · simp only [rdR, uR_ne h1, zR_ne h2, zR_ne h3]
    · rw [hJ 3 (by decide)]
      rfl
