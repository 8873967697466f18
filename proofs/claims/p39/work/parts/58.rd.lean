section PT17x0
/-! ===== the Reader's constructor keeps its contract ===== -/
theorem rd_three {o : Nat} (h : isO o o 6 = true) : o = 3 := by
  obtain ⟨h1, -, h3⟩ := isO_spec h
  by_cases hq : o - 1 < 112
  · have all : ∀ k, k < 112 → (shl.getD k (999, 0)).1 = 6 → k = 2 := by decide +kernel
    have := all (o - 1) hq h3
    omega
  · rw [sh_out (by omega)] at h3
    cases h3
theorem metd0 (l : Launch) : MetD l 0 := fun _ _ _ _ _ _ _ _ _ _ _ _ _ hM => hM.elim
set_option maxRecDepth 100000 in
theorem rs_85 {Q : Nat → Qt} {P : Kt} (hc : Cl (AM 0) false false 0 (fun _ => 0) 0 5 kRd Q P) (v1 v2 : Int32) (I : Im) (J : Jm) (R : Rm) (h : P 86 5 [(0, .ref 3), (1, .int v1), (2, .int v2)] [.int v2] I J R) : P 85 5 [(0, .ref 3), (1, .int v1), (2, .int v2)] [] I J R :=
  run_at (AM_m 0) hc (stops := [(86, [0, 1, 2])]) (k := 3) h
set_option maxRecDepth 100000 in
theorem rs_91 {Q : Nat → Qt} {P : Kt} (hc : Cl (AM 0) false false 0 (fun _ => 0) 0 5 kRd Q P) (v1 v2 : Int32) (I : Im) (J : Jm) (R : Rm) (h : ((102 : Int32) ≤ v2 → Q 5 0 0 I J R) ∧ (¬ (102 : Int32) ≤ v2 → P 94 5 [(0, .ref 3), (1, .int v1), (2, .int v2)] [] I J R)) : P 91 5 [(0, .ref 3), (1, .int v1), (2, .int v2)] [.int 102, .int v2] I J R :=
  run_at (AM_m 0) hc (stops := [(94, [0, 1, 2])]) (k := 5) h
set_option maxRecDepth 100000 in
theorem rs_100 {Q : Nat → Qt} {P : Kt} (hc : Cl (AM 0) false false 0 (fun _ => 0) 0 5 kRd Q P) (v1 v2 x : Int32) (I : Im) (J : Jm) (R : Rm)
    (h : (¬ x = 32 → ((21 : Int32) < v1 → P 85 5 [(0, .ref 3), (1, .int v1), (2, .int (v2 + 1))] [] I J R) ∧ (¬ (21 : Int32) < v1 → (¬ R 3 2 = 0 ∧ (¬ R 3 2 = 0 ∧ (vp_in v1 22 ∧ (vp_in v1 22 ∧ P 85 5 [(0, .ref 3), (1, .int v1), (2, .int (v2 + 1))] [] I (uJ J 5 v1.toNatClampNeg (J 5 v1.toNatClampNeg * 32 + (x - 97 + 1).toInt64)) R)))))) ∧ (x = 32 → P 85 5 [(0, .ref 3), (1, .int (v1 + 1)), (2, .int (v2 + 1))] [] I J R)) : P 100 5 [(0, .ref 3), (1, .int v1), (2, .int v2)] [.int x] I J R :=
  run_at (AM_m 0) hc (stops := [(85, [0, 1, 2])]) (k := 40) h
noncomputable def rdI (I : Im) : Im := uI (uI (uI (uI (uI (uI (uI (uI (uI (uI (zI (uI (zI I 4) 3 1 0) 5) 3 3 0) 3 4 0) 3 5 0) 3 6 0) 3 7 0) 3 8 0) 3 9 (-1)) 3 11 0) 3 12 0) 3 13 (-1)
noncomputable def rdJ (J : Jm) : Jm := uJ (zJ (zJ J 4) 5) 3 10 0
noncomputable def rdR (R : Rm) : Rm := uR (zR (uR (zR R 4) 3 0 4) 5) 3 2 5
set_option maxRecDepth 100000 in
theorem rs_0 {Q : Nat → Qt} {P : Kt} (hc : Cl (AM 0) false false 0 (fun _ => 0) 0 5 kRd Q P) (I : Im) (J : Jm) (R : Rm)
    (h : P 85 5 [(0, .ref 3), (1, .int 1), (2, .int 0)] [] (rdI I) (rdJ J) (rdR R)) : P 0 3 [(0, .ref 3)] [] I J R :=
  run_at (AM_m 0) hc (stops := [(85, [0, 1, 2])]) (k := 60) ⟨rfl, rfl, Or.inl rfl, h⟩
/-- the words of the text, as numbers, by its letters -/
noncomputable def rdC (i : Nat) : Int32 := rd_by.getD i 0 &&& 255
noncomputable def rdN : Nat → Nat
  | 0 => 1
  | i + 1 => if rdC i = 32 then rdN i + 1 else rdN i
noncomputable def rdA : Nat → Nat → Int64
  | 0, _ => 0
  | i + 1, k => if rdC i = 32 then rdA i k else (if k = rdN i then rdA i k * 32 + (rdC i - 97 + 1).toInt64 else rdA i k)
set_option maxRecDepth 100000 in
theorem rdN_in : ∀ i, i < 103 → 1 ≤ rdN i ∧ rdN i ≤ 21 := by decide +kernel
set_option maxRecDepth 100000 in
theorem rdA_rsv : ∀ k, k < 22 → rdA 102 k = rsv.getD k 0 := by decide +kernel
theorem rd_loop {Q : Nat → Qt} {P : Kt} (hc : Cl (AM 0) false false 0 (fun _ => 0) 0 5 kRd Q P) {I : Im} {J0 : Jm} {R : Rm} (hR : ¬ R 3 2 = 0)
    (hL : ∀ (v1 v2 : Int32) (J : Jm), P 91 5 [(0, .ref 3), (1, .int v1), (2, .int v2)] [.int 102, .int v2] I J R → P 86 5 [(0, .ref 3), (1, .int v1), (2, .int v2)] [.int v2] I J R)
    (hC : ∀ (v1 v2 : Int32) (J : Jm), ¬ v2 < 0 → v2 < 102 → P 100 5 [(0, .ref 3), (1, .int v1), (2, .int v2)] [.int (rd_by.getD v2.toNatClampNeg 0 &&& 255)] I J R → P 94 5 [(0, .ref 3), (1, .int v1), (2, .int v2)] [] I J R)
    (hQ : ∀ J : Jm, (∀ i, i ≠ 5 → J i = J0 i) → (∀ k, k < 22 → J 5 k = rsv.getD k 0) → Q 5 0 0 I J R) : ∀ (m i : Nat) (J : Jm), i + m = 102 → (∀ i, i ≠ 5 → J i = J0 i) → (∀ k, k < 22 → J 5 k = rdA i k) → P 85 5 [(0, .ref 3), (1, .int (nI (rdN i))), (2, .int (nI i))] [] I J R := by
  intro m
  induction m with
  | zero =>
    intro i J hi hJ hA
    obtain rfl : i = 102 := by omega
    exact rs_85 hc _ _ _ _ _ (hL _ _ _ (rs_91 hc _ _ _ _ _ ⟨fun _ => hQ J hJ (fun k hk => by rw [hA k hk]; exact rdA_rsv k hk), fun c => absurd (by decide) c⟩))
  | succ m ih =>
    intro i J hi hJ hA
    have hn := rdN_in i (by omega)
    refine rs_85 hc _ _ _ _ _ (hL _ _ _ (rs_91 hc _ _ _ _ _ ⟨fun c => absurd c (nI_ge (a := i) (b := 102) (by omega) (by omega)), fun _ => ?_⟩))
    refine hC _ _ _ (nI_pos (by omega)) (nI_lt (a := i) (b := 102) (by omega) (by omega)) (rs_100 hc _ _ _ _ _ _ ?_)
    rw [nI_clamp (by omega), nI_clamp (by omega), ← nI_succ, ← nI_succ]
    change (¬ rdC i = 32 → _) ∧ (rdC i = 32 → _)
    have hv : vp_in (nI (rdN i)) 22 := vp_of (nI_toInt (by omega)) (by omega) (by omega)
    refine ⟨fun c => ⟨fun c2 => absurd c2 (nI_nlt (a := 21) (b := rdN i) (by omega) (by omega)), fun _ => ⟨hR, hR, hv, hv, ?_⟩⟩, fun c => ?_⟩
    · have e1 : rdN (i + 1) = rdN i := by
        show (if rdC i = 32 then rdN i + 1 else rdN i) = rdN i
        rw [if_neg c]
      have := ih (i + 1) (uJ J 5 (rdN i) (J 5 (rdN i) * 32 + (rdC i - 97 + 1).toInt64)) (by omega) (fun j hj => (uJ_ne hj).trans (hJ j hj)) (fun k hk => by
        show _ = (if rdC i = 32 then rdA i k else (if k = rdN i then rdA i k * 32 + (rdC i - 97 + 1).toInt64 else rdA i k))
        rw [if_neg c]
        by_cases q : k = rdN i
        · subst q; rw [if_pos rfl, ← hA _ hk]; simp [uJ, vp_updL]
        · rw [if_neg q, ← hA _ hk]; simp [uJ, vp_updL, q])
      rw [e1] at this; exact this
    · have e1 : rdN (i + 1) = rdN i + 1 := by
        show (if rdC i = 32 then rdN i + 1 else rdN i) = rdN i + 1
        rw [if_pos c]
      have := ih (i + 1) J (by omega) hJ (fun k hk => by
        show _ = (if rdC i = 32 then rdA i k else (if k = rdN i then rdA i k * 32 + (rdC i - 97 + 1).toInt64 else rdA i k))
        rw [if_pos c]; exact hA k hk)
      rw [e1] at this; exact this
set_option maxRecDepth 100000 in
theorem dx_86 : decode cX6_init 86 = .ok (.ldc 58, 2) := by decide +kernel
set_option maxRecDepth 100000 in
theorem dx_88 : decode cX6_init 88 = .ok (.invokevirtual 60, 3) := by decide +kernel
set_option maxRecDepth 100000 in
theorem dx_94 : decode cX6_init 94 = .ok (.ldc 58, 2) := by decide +kernel
set_option maxRecDepth 100000 in
theorem dx_96 : decode cX6_init 96 = .ok (.iload_n 2, 1) := by decide +kernel
set_option maxRecDepth 100000 in
theorem dx_97 : decode cX6_init 97 = .ok (.invokevirtual 66, 3) := by decide +kernel
theorem rd_row : mQ mReader = (kX6_init, yX6_init, cX6_init, none, [4, 0, 2, 0, 0, 6, 1, 1, 1]) := rfl
set_option maxHeartbeats 4000000 in
theorem met_reader (l : Launch) : MetR l := by
  intro d D ca h0 b n as I J R Q h
  obtain ⟨o, rfl, hO, ⟨hA1, hA2, hA3, hA4, hno⟩, hQ⟩ := h
  obtain rfl : n = o := by omega
  obtain rfl := rd_three hO
  rw [rd_row]
  show Met l yX6_init (Cond.code yX6_init cX6_init 4 none :: wsG) (rmD (d + 6) 2 (sl (3 + 2) - sl 3)) (va_Pc [.ref (ad h0 b 3)] (fun U => Wok D ca h0 b 3 I J R U)) (mPost D ca h0 b (3 + 2) 0 0 R Q (mFree ca h0 b 3 I J R)) 2 (sl (3 + 2) - sl 3) (mFree ca h0 b 3 I J R)
  refine Met.ofW (cc := cX6_init) (maxL := 4) (ret := none) (by decide) rfl ?_
  intro p e s m args below meth c s₁ B hml hv
  obtain ⟨rfl, hsz, hP, hK, hNN, hSK⟩ := hv
  have hx := B.exec
  have hb := B.bytes
  have hr := B.returns
  have hts := atoms_spec (ws := Cond.code yX6_init cX6_init 4 none :: wsG) B.pre
  have hown : s.vm.findClass RX6 = some m.cls := findClass_of_methodNamed B.named
  have hlocks := B.notSynchronized
  have hA : ∀ q : Nat, h0 ≤ q → mFree ca h0 b 3 I J R q := fun q h => mFree_ge.mpr h
  have hIn : ∀ w ∈ wsG, w ∈ (Cond.code yX6_init cX6_init 4 none :: wsG) := fun w hw => List.mem_cons_of_mem _ hw
  have hC : Ctx p (rmD (d + 6) 2 (sl (3 + 2) - sl 3)) s m ([.ref (ad h0 b 3)] : List Value).toArray meth c RX6 cX6_init 4 1 (Cond.code yX6_init cX6_init 4 none :: wsG) D ca h0 b 3 5 0 (mFree ca h0 b 3 I J R) false (fun _ => 0) :=
    ⟨hx, hb, hml, hown, hts, hIn, hK, ⟨hNN, hSK, fun q h => mFree_ge.mp h⟩, hA, hsz, fun _ => (name_of_methodNamed B.named B.method).1, ⟨Nat.le_refl _, Nat.le_refl _⟩, ⟨by show 1 ≤ d + 6; omega, by show 64 ≤ 64 * (d + 6); omega⟩, fun q => by cases q⟩
  have hS0 : va_S (mFree ca h0 b 3 I J R) s.heap s.heap [] := va_S.rf
  have hRet : RetOk p l e (rmD (d + 6) 2 (sl (3 + 2) - sl 3)) s m ([.ref (ad h0 b 3)] : List Value).toArray below meth c (MQ below (mPost D ca h0 b (3 + 2) 0 0 R Q (mFree ca h0 b 3 I J R)) ([.ref (ad h0 b 3)] : List Value).toArray s 2 (sl (3 + 2) - sl 3) (mFree ca h0 b 3 I J R)) cX6_init D ca h0 b 3 (mFree ca h0 b 3 I J R) 0 (fun n' x y I' J' R' => n' = 5 ∧ Q x y I' J' R') := by
    intro pc n' I' J' R' H locs ls hn hP' hS'
    refine ⟨fun hk hdg hq => ?_, fun hk => by omega, fun hk => by omega⟩
    obtain ⟨rfl, hq⟩ := hq
    refine W_cs2 (n := 3) (al := 2) hsz hP' hS' (fun hz => ?_)
    exact W.vret hx hb hr (fun t ht hW => ⟨⟨(I', J', R'), rfl, ⟨(fun z => by cases z), hq⟩, by rw [ht]; exact hz, by rw [ht]; exact hP'⟩, hS'.F ht⟩) hS'.2.2 hdg
  have hc : Cl (AM 0) false false 0 (fun _ => 0) 0 5 kRd (fun n' x y I' J' R' => n' = 5 ∧ Q x y I' J' R') (PW p l e (rmD (d + 6) 2 (sl (3 + 2) - sl 3)) s m ([.ref (ad h0 b 3)] : List Value).toArray below meth c (MQ below (mPost D ca h0 b (3 + 2) 0 0 R Q (mFree ca h0 b 3 I J R)) ([.ref (ad h0 b 3)] : List Value).toArray s 2 (sl (3 + 2) - sl 3) (mFree ca h0 b 3 I J R)) 4 D ca h0 b 3 (mFree ca h0 b 3 I J R) false) :=
    ⟨fun en hen n' lv st I' J' R' h => step_ok (isl := false) (xs := fun _ => 0) (L := 0) hC (metd0 l) ⟨by show 0 + 1 ≤ d + 6; omega, by show 64 * (0 + 1) ≤ 64 * (d + 6); omega⟩ qRk_le hRet (rd_okE en hen) (rd_need en hen) h, fun pc n' ks lv st I' J' R' h => PW_pk h⟩
  obtain ⟨tx, aK, aV, byt0, hby, hk1, hk2, hk3, hk4⟩ := hSK
  subst hby
  have hU0 : ∀ (H : Heap) (locs : List Loc), va_S (mFree ca h0 b 3 I J R) s.heap H locs → ∀ U : State, U.heap = H → s.WarmedH U.vm → SKc aK aV rd_by U := by
    intro H locs hS U hU hW
    have hq : ∀ a : Nat, a < s.heap.size → ¬ h0 ≤ a → U.heap[a]? = s.heap[a]? := fun a h1 h2 => by rw [hU]; exact hS.2.1 a h1 (fun z => h2 (mFree_ge.mp z))
    exact ⟨((vk_S.moved hW.alike hk2).kept hq).narrow (fun _ z => z.elim), ((va_Z.moved hW.alike hk3).kept hq).narrow (fun _ z => z.elim), ((va_Zq.moved hW.alike hk4).kept hq).narrow (fun _ z => z.elim)⟩
  have hk2' : vk_S 1 [102] [rd_by] (fun _ => aK) (fun _ => aV) (mFree ca h0 b 3 I J R) s s.heap := hk2.narrow (fun q z => mFree_ge.mp z)
  have key := rs_0 hc I J R (rd_loop hc (I := rdI I) (J0 := rdJ J) (R := rdR R) (show ¬ (5 : Nat) = 0 by decide) ?_ ?_ ?_ 102 0 (rdJ J) (by decide) (fun _ _ => rfl) (fun _ _ => rfl))
  · have hl := lv_entry ([.ref (ad h0 b 3)] : List Value) (n := 4) (Nat.le_of_ble_eq_true rfl)
    rw [lg_entry_eq]
    exact key s.heap [] _ (Nat.le_refl 3) (fun q => by cases q) hP hS0 hl
  · intro v1 v2 J1 h H locs ls hn hph hP hS hl
    refine va_ldcS hx hb hown hk1 dx_86 ?_
    refine va_calli (va_runV (As := []) (b := aK) (rest := [.int v2]) ⟨hx, hb, hml, hown, hts⟩ (m_length l (aK := aK) (aV := aV) (byt := rd_by))
      (cwV 0 hts (by unfold wsV; exact good_app (good_list hIn wv_length) (wsY_good hIn wc_length)) rfl rfl rfl ⟨rfl, by decide +kernel⟩ ⟨by show 2 + 1 ≤ d + 6; omega, by show 8 + (1 + 11) + 64 * 2 ≤ 64 * (d + 6); omega⟩)
      ⟨SKc.blind, vk_recv (i := 0) hk2' (by decide) hS, fun U hU hW => ⟨rfl, hU0 H locs hS U hU hW⟩⟩ rfl rfl hl.1 rfl (Nat.le_of_ble_eq_true rfl) dx_88 ⟨?_, ?_⟩) hS (fun _ _ h => h.elim) (fun _ h => h.elim) (fun x u t H1 locs1 ht hal hp hB hz hk hS1 => ?_)
    · show 5 - 3 + 0 ≤ 2; omega
    · exact Nat.le_refl _
    · subst hp
      exact h H1 locs1 ls hn hph (hP.kept (fun k x hx => hk x.1 (hP k x hx).lt (fun z => z))) hS1 hl
  · intro v1 v2 J1 hv0 hv1 h H locs ls hn hph hP hS hl
    refine va_ldcS hx hb hown hk1 dx_94 ?_
    refine lv_iload_n hx hb dx_96 (i := 2) (x := v2) rfl (lv_gt (v := .int v2) hl rfl (by intro q; cases q)) ?_
    refine va_calli (va_runV (As := [.int v2]) (b := aK) (rest := []) ⟨hx, hb, hml, hown, hts⟩ (m_charAt l (aK := aK) (aV := aV) (byt := rd_by) hv0 hv1)
      (cwV 1 hts (by unfold wsV; exact good_app (good_list hIn wv_charAt) (wsY_good hIn wc_charAt)) rfl rfl rfl ⟨rfl, by decide +kernel⟩ ⟨by show 4 + 1 ≤ d + 6; omega, by show 8 + (2 + 11) + 64 * 4 ≤ 64 * (d + 6); omega⟩)
      ⟨SKc.blind, vk_recv (i := 0) hk2' (by decide) hS, fun U hU hW => ⟨rfl, hU0 H locs hS U hU hW⟩⟩ rfl rfl hl.1 rfl (Nat.le_of_ble_eq_true rfl) dx_97 ⟨?_, ?_⟩) hS (fun _ _ h => h.elim) (fun _ h => h.elim) (fun x u t H1 locs1 ht hal hp hB hz hk hS1 => ?_)
    · show 5 - 3 + 0 ≤ 2; omega
    · exact Nat.le_refl _
    · subst hp
      exact h H1 locs1 ls hn hph (hP.kept (fun k x hx => hk x.1 (hP k x hx).lt (fun z => z))) hS1 hl
  · intro J1 hJ hA
    refine ⟨rfl, hQ (rdI I) J1 (rdR R) (fun i h1 h2 h3 => ?_) (fun i h1 h2 h3 => ?_) (fun i h1 h2 h3 => ?_) ⟨fun k => rfl, rfl, rfl, rfl, rfl, rfl, rfl, rfl, rfl, rfl, rfl, ?_, rfl, rfl, rfl, hA⟩⟩
    · simp only [rdI, uI_ne h1, zI_ne h2, zI_ne h3]
    · rw [hJ i h3]
      simp only [rdJ, uJ_ne h1, zJ_ne h2, zJ_ne h3]
    · simp only [rdR, uR_ne h1, zR_ne h2, zR_ne h3]
    · rw [hJ 3 (by decide)]
      rfl
end PT17x0
section PT17x1
noncomputable def RA (a b : Int32) : Int := 100 * (a.toInt - b.toInt)
noncomputable def RB (a b c : Int32) : Int := 100 * (a.toInt - b.toInt) - 60 + c.toInt
theorem ra_nn6 {a b : Int32} (h : b.toInt ≤ a.toInt) : 0 ≤ RA a b := by unfold RA; omega
theorem rb_nn6 {a b c : Int32} (h : b.toInt < a.toInt) (h2 : 0 ≤ c.toInt) : 0 ≤ RB a b c := by unfold RB; omega
theorem rb_lt60 {a b c : Int32} (h : c.toInt ≤ 30) : RB a b c < RA a b := by unfold RA RB; omega
theorem rb_lt6 {a b c e : Int32} (h : e.toInt < c.toInt) : RB a b e < RB a b c := by unfold RB; omega
theorem ra_lt6 {a b c e : Int32} (h : e.toInt = b.toInt + 1) (hc : 0 ≤ c.toInt) : RA a e < RB a b c := by unfold RA RB; omega
theorem ms_lt6 {a b : Int} {n : Nat} (h1 : a < b) (h2 : b < ((n + 1 : Nat) : Int)) : a < (n : Int) := by omega
theorem ra_ub62 (a b : Int32) : RA a b < ((900000000000 : Nat) : Int) := by have := i32 a; have := i32 b; unfold RA; omega
theorem in4 {v2 v4 : Int32} (h3 : 0 ≤ v4.toInt) (h4 : v4.toInt < v2.toInt) : (v4 + 1 : Int32).toInt = v4.toInt + 1 := ti_add rfl rfl (by have := i32 v2; omega)
theorem le30 {a : Int} (h : a ≤ 30) : a < ((31 : Nat) : Int) := by omega
theorem le1 {a : Int} (h : 1 ≤ a) : 0 ≤ a := by omega
theorem dc_v6 {v6 : Int32} (h6 : 1 ≤ v6.toInt) : (v6 + (-1) : Int32).toInt = v6.toInt + (-1) := ti_add rfl rfl (by have := i32 v6; omega)
theorem rn_dc6 {M : Im} {v3 v5 v6 : Int32} (h : RN M v3 v5 v6) (h6 : 1 ≤ v6.toInt) (hne : (M 108 v6.toNatClampNeg).toInt = (M 108 v3.toNatClampNeg).toInt - 1 → CO v3 v6 → False) : RN M v3 v5 (v6 + (-1)) := by
  rcases h with z | ⟨z, e, e1, e2, e0, e3, e4⟩
  · exact Or.inl z
  · have y : ¬ e = v6 := fun q => by subst q; exact hne e3 e4
    have y2 : ¬ e.toInt = v6.toInt := fun w => y (Int32.toInt_inj.mp w)
    have y3 : e.toInt ≤ v6.toInt + (-1) := by clear e3 e4 hne; omega
    exact Or.inr ⟨z, e, e1, (by rw [dc_v6 h6]; exact y3), e0, e3, e4⟩
theorem rn_nw6 {M : Im} {v3 v6 : Int32} (h6 : 1 ≤ v6.toInt) (h7 : v6.toInt ≤ 30) (h : (M 108 v6.toNatClampNeg).toInt = (M 108 v3.toNatClampNeg).toInt - 1) : RN M v3 v6 (v6 + (-1)) := Or.inl ⟨h6, h7, h⟩
theorem iv_dc6 {v2 v3 v4 v6 : Int32} (h : 1 ≤ v3.toInt ∧ v3.toInt ≤ 30 ∧ 0 ≤ v4.toInt ∧ v4.toInt < v2.toInt ∧ 0 ≤ v6.toInt ∧ v6.toInt ≤ 30 ∧ 0 ≤ RB v2 v4 v6) (h6 : 1 ≤ v6.toInt) : 1 ≤ v3.toInt ∧ v3.toInt ≤ 30 ∧ 0 ≤ v4.toInt ∧ v4.toInt < v2.toInt ∧ 0 ≤ (v6 + (-1) : Int32).toInt ∧ (v6 + (-1) : Int32).toInt ≤ 30 ∧ 0 ≤ RB v2 v4 (v6 + (-1)) := by
  obtain ⟨a1, a2, a3, a4, a5, a6, -⟩ := h
  have z : 0 ≤ (v6 + (-1) : Int32).toInt := (by rw [dc_v6 h6]; omega)
  exact ⟨a1, a2, a3, a4, z, (by clear z; rw [dc_v6 h6]; omega), rb_nn6 a4 z⟩
theorem ms_dc6 {v2 v4 v6 : Int32} {n : Nat} (h6 : 1 ≤ v6.toInt) (hm : RB v2 v4 v6 < ((n + 1 : Nat) : Int)) : RB v2 v4 (v6 + (-1)) < (n : Int) := ms_lt6 (rb_lt6 (by clear hm; rw [dc_v6 h6]; omega)) hm
theorem rd_ps6 {M : Im} {v2 v4 v3 : Int32} (h : RD M v2 v4 v3) (hlt : v4.toInt < v2.toInt) : 1 ≤ (M 108 v3.toNatClampNeg).toInt := by unfold RD at h; omega
theorem RE1 {a b : Int32} (h : ¬ a = b - 1) (hb : 1 ≤ b.toInt) : a.toInt = b.toInt - 1 → False := fun q => ci_ne rfl (ti_sub rfl (show (1 : Int32).toInt = 1 from rfl) (by have := i32 b; omega)) h q
theorem RE2 {a b : Int32} (h : a = b - 1) (hb : 1 ≤ b.toInt) : a.toInt = b.toInt - 1 := ci_eq rfl (ti_sub rfl (show (1 : Int32).toInt = 1 from rfl) (by have := i32 b; omega)) h
theorem rn_gt6 {M : Im} {v3 v5 v6 : Int32} (h : RN M v3 v5 v6) (h6 : v6.toInt < 1) : 1 ≤ v5.toInt ∧ v5.toInt ≤ 30 ∧ (M 108 v5.toNatClampNeg).toInt = (M 108 v3.toNatClampNeg).toInt - 1 := by
  rcases h with z | ⟨_, e, e1, e2, _⟩
  · exact z
  · omega
theorem rd_nx6 {M : Im} {v2 v4 v3 v5 : Int32} (h : RD M v2 v4 v3) (h4 : (v4 + 1 : Int32).toInt = v4.toInt + 1) (h5 : (M 108 v5.toNatClampNeg).toInt = (M 108 v3.toNatClampNeg).toInt - 1) : RD M v2 (v4 + 1) v5 := by
  unfold RD at h ⊢
  rw [h4, h5]
  omega
theorem iv_nx6 {v2 v4 v5 : Int32} (h1 : 1 ≤ v5.toInt) (h2 : v5.toInt ≤ 30) (h3 : 0 ≤ v4.toInt) (h4 : v4.toInt < v2.toInt) (z : (v4 + 1 : Int32).toInt = v4.toInt + 1) : 1 ≤ v5.toInt ∧ v5.toInt ≤ 30 ∧ 0 ≤ (v4 + 1 : Int32).toInt ∧ (v4 + 1 : Int32).toInt ≤ v2.toInt ∧ 0 ≤ RA v2 (v4 + 1) :=
  ⟨h1, h2, by rw [z]; omega, by rw [z]; omega, ra_nn6 (by rw [z]; omega)⟩
set_option maxHeartbeats 2000000 in
theorem sp_X12_reachAt {d : Nat} {Q : Qt} {v1 : Int32} {v2 : Int32} {I : Im} {J : Jm} {R : Rm} (hB0 : Bd I) (hR0 : RI R) (hQ : ∀ (x : Int32) (y : Int64) (I2 : Im) (J2 : Jm), Bd I2 → (Fr pT I I2) → Q x y I2 J2 R) : AM (d + 5) 292 112 [.ref 97, .int v1, .int v2] I J R Q := by
  have i_v1 := i32 v1
  have i_v2 := i32 v2
  refine am_X12_reachAt (fun P hc => ?_)
  have L : ∀ n : Nat, (∀ (v3 : Int32) (v4 : Int32) (M : Im) (JM : Jm), Bd M → Fr pT I M → (RQ M) → (RD M v2 v4 v3) → (1 ≤ v3.toInt ∧ v3.toInt ≤ 30 ∧ 0 ≤ v4.toInt ∧ v4.toInt ≤ v2.toInt ∧ 0 ≤ RA v2 v4) → RA v2 v4 < (n : Int) → P 59 112 [(0, .ref 97), (2, .int v2), (3, .int v3), (4, .int v4)] [] M JM R) ∧ (∀ (v3 : Int32) (v4 : Int32) (v5 : Int32) (v6 : Int32) (M : Im) (JM : Jm), Bd M → Fr pT I M → (RQ M) → (RD M v2 v4 v3) → (RN M v3 v5 v6) → (1 ≤ v3.toInt ∧ v3.toInt ≤ 30 ∧ 0 ≤ v4.toInt ∧ v4.toInt < v2.toInt ∧ 0 ≤ v6.toInt ∧ v6.toInt ≤ 30 ∧ 0 ≤ RB v2 v4 v6) → RB v2 v4 v6 < (n : Int) → P 72 112 [(0, .ref 97), (2, .int v2), (3, .int v3), (4, .int v4), (5, .int v5), (6, .int v6)] [] M JM R) := by
    intro n
    induction n with
    | zero =>
      exact ⟨fun v3 v4 M J _ _ _ _ hi hm => absurd hm (by omega), fun v3 v4 v5 v6 M J _ _ _ _ _ hi hm => absurd hm (by omega)⟩
    | succ n ih =>
      refine ⟨?_, ?_⟩
      · skip
        intro v3 v4 M JM hB hf hq_0 hq_1 hi hm
        have i_v2 := i32 v2
        have i_v3 := i32 v3
        have i_v4 := i32 v4
        refine sg_X12_reachAt_59 hc _ _ _ _ _ _ ?_
        refine ⟨fun c1 => ?_, fun c1 => ?_⟩
        · skip
          have d2 : ((v2.toInt) : Int) ≤ (v4.toInt) := ci_le rfl rfl c1
          exact hQ _ _ _ _ hB hf
        · skip
          have d3 : ((v4.toInt) : Int) < (v2.toInt) := ci_nle rfl rfl c1
          have z6 : (30 : Int32).toInt = 30 := rfl
          have hv4 : RQ M := hq_0
          have hv5 : RD M v2 v4 v3 := hq_1
          have hv6 : RN M v3 ((-1) : Int32) (30 : Int32) := (Or.inr ⟨rfl, by have z2 := hq_1; unfold RD at z2; obtain ⟨e, e1, e2, e3, e4⟩ := hq_0 v3 (by omega) (by omega) (by omega); exact ⟨e, e1, by have z : ((30 : Int32)).toInt = 30 := rfl; omega, e2, e3, e4⟩⟩)
          exact ih.2 _ _ _ _ _ _ hB hf hv4 hv5 hv6 ⟨by omega, by omega, by omega, by omega, by omega, by omega, rb_nn6 (by omega) (by omega)⟩ (ms_lt6 (rb_lt60 (by omega)) hm)
      · intro v3 v4 v5 v6 M JM hB hf hq_0 hq_1 hq_2 hi hm
        refine sg_X12_reachAt_72 hc _ _ _ _ _ _ _ _ ?_
        have hp3 := rd_ps6 hq_1 hi.2.2.2.1
        refine ⟨fun c7 => ?_, fun c7 => ?_⟩
        · have d8 : v6.toInt < 1 := ci_lt rfl rfl c7
          obtain ⟨w1, w2, w3⟩ := rn_gt6 hq_2 d8
          have z4 : (v4 + 1 : Int32).toInt = v4.toInt + 1 := in4 hi.2.2.1 hi.2.2.2.1
          exact ih.1 _ _ _ _ hB hf hq_0 (rd_nx6 hq_1 z4 w3) (iv_nx6 w1 w2 hi.2.2.1 hi.2.2.2.1 z4) (ms_lt6 (ra_lt6 z4 hi.2.2.2.2.1) hm)
        · have d11 : 1 ≤ v6.toInt := ci_nlt rfl rfl c7
          refine ⟨vp_of (a := v6.toInt) rfl hi.2.2.2.2.1 (le30 hi.2.2.2.2.2.1), vp_of (a := v3.toInt) rfl (le1 hi.1) (le30 hi.2.1), fun c12 => ?_, fun c12 => ?_⟩
          · exact ih.2 _ _ _ _ _ _ hB hf hq_0 hq_1 (rn_dc6 hq_2 d11 (fun q _ => RE1 c12 hp3 q)) (iv_dc6 hi d11) (ms_dc6 d11 hm)
          · refine sp_X12_comesOf hB hR0 ⟨hi.1, hi.2.1⟩ ⟨d11, hi.2.2.2.2.2.1⟩ (fun x20 y25 I21 J22 hB23 p24 o26 => ?_)
            obtain ⟨heI21, p24⟩ := p24
            subst heI21
            refine ⟨fun c28 => ?_, fun c28 => ?_⟩
            · have d29 : x20.toInt = 0 := ci_eq rfl rfl c28
              exact ih.2 _ _ _ _ _ _ hB hf hq_0 hq_1 (rn_dc6 hq_2 d11 (fun _ q => p24.1 d29 q)) (iv_dc6 hi d11) (ms_dc6 d11 hm)
            · exact ih.2 _ _ _ _ _ _ hB hf hq_0 hq_1 (rn_nw6 d11 hi.2.2.2.2.2.1 (RE2 c12 hp3)) (iv_dc6 hi d11) (ms_dc6 d11 hm)
  refine sg_X12_reachAt_0 hc _ _ _ _ _ ?_
  have hB37 : Bd (uI I 97 1 0) := Bd.o0 hB0 io9_112_97_12 (by decide) bd9_12_1
  have hB38 : Bd (uI (uI I 97 1 0) 97 0 0) := Bd.o0 hB37 io9_112_97_12 (by decide) bd9_12_0
  have f38 : Fr pT I (uI (uI I 97 1 0) 97 0 0) := ((Fr.refl pT I).o (by decide) (by decide)).o (by decide) (by decide)
  refine w_X12_isSlice ?_
  refine w_X12_isIn ?_
  refine ⟨fun c39 => ?_, fun c39 => ?_⟩
  · skip
    rw [lg_cmp_lt] at c39
    have d40 : ((v1.toInt) : Int) < (1) := cl_lt (tl_i2l rfl) rfl c39
    refine ⟨Or.inl rfl, ?_⟩
    intro o41
    refine ⟨Or.inl rfl, ?_⟩
    intro o42
    refine ⟨fun c43 => ?_, fun c43 => ?_⟩
    · exact absurd c43 (by decide)
    · skip
      refine w_X12_refuse ?_
      have hB44 : Bd (uI (uI (uI I 97 1 0) 97 0 0) 97 0 2) := Bd.o0 hB38 io9_112_97_12 (by decide) bd9_12_0
      exact hQ _ _ _ _ hB44 (f38.o (by decide) (by decide))
  · skip
    rw [lg_cmp_lt] at c39
    have d45 : ((1) : Int) ≤ (v1.toInt) := cl_nlt (tl_i2l rfl) rfl c39
    refine ⟨fun c46 => ?_, fun c46 => ?_⟩
    · skip
      rw [lg_cmp_gt] at c46
      have d47 : ((30) : Int) < (v1.toInt) := cl_lt rfl (tl_i2l rfl) c46
      refine ⟨Or.inl rfl, ?_⟩
      intro o48
      refine ⟨Or.inl rfl, ?_⟩
      intro o49
      refine ⟨fun c50 => ?_, fun c50 => ?_⟩
      · exact absurd c50 (by decide)
      · skip
        refine w_X12_refuse ?_
        have hB51 : Bd (uI (uI (uI I 97 1 0) 97 0 0) 97 0 2) := Bd.o0 hB38 io9_112_97_12 (by decide) bd9_12_0
        exact hQ _ _ _ _ hB51 (f38.o (by decide) (by decide))
    · skip
      rw [lg_cmp_gt] at c46
      have d52 : ((v1.toInt) : Int) ≤ (30) := cl_nlt rfl (tl_i2l rfl) c46
      refine ⟨Or.inr rfl, ?_⟩
      intro o53
      refine ⟨Or.inr rfl, ?_⟩
      intro o54
      refine ⟨fun c55 => ?_, fun c55 => ?_⟩
      · skip
        refine sp_X12_reachFrom hB38 hR0 (fun x56 y61 I57 J58 hB59 p60 => ?_)
        have i62 := i32 x56
        refine ⟨fun c63 => ?_, fun c63 => ?_⟩
        · skip
          have d64 : ((x56.toInt) : Int) < (0) := ci_lt rfl rfl c63
          refine w_X12_refuse ?_
          have hB65 : Bd (uI I57 97 0 8) := Bd.o0 hB59 io9_112_97_12 (by decide) bd9_12_0
          exact hQ _ _ _ _ hB65 ((Fr.tr f38 p60.1 (fun _ _ => trivial)).o (by decide) (by decide))
        · skip
          have d66 : ((0) : Int) ≤ (x56.toInt) := ci_nlt rfl rfl c63
          refine ⟨vp_of (a := x56.toInt) rfl (by omega) (by omega), ?_⟩
          refine w_X12_isIn ?_
          refine ⟨fun c67 => ?_, fun c67 => ?_⟩
          · skip
            rw [lg_cmp_lt] at c67
            have d68 : ((v2.toInt) : Int) < (0) := cl_lt (tl_i2l rfl) rfl c67
            refine ⟨Or.inl rfl, ?_⟩
            intro o69
            refine ⟨fun c70 => ?_, fun c70 => ?_⟩
            · exact absurd c70 (by decide)
            · skip
              refine w_X12_refuse ?_
              have hB71 : Bd (uI I57 97 0 8) := Bd.o0 hB59 io9_112_97_12 (by decide) bd9_12_0
              exact hQ _ _ _ _ hB71 ((Fr.tr f38 p60.1 (fun _ _ => trivial)).o (by decide) (by decide))
          · skip
            rw [lg_cmp_lt] at c67
            have d72 : ((0) : Int) ≤ (v2.toInt) := cl_nlt (tl_i2l rfl) rfl c67
            refine ⟨fun c73 => ?_, fun c73 => ?_⟩
            · skip
              rw [lg_cmp_gt] at c73
              have i74 := i32 ((I57 108 (Int32.toNatClampNeg x56)))
              have d75 : (((I57 108 (Int32.toNatClampNeg x56)).toInt) : Int) < (v2.toInt) := cl_lt (tl_i2l rfl) (tl_i2l rfl) c73
              refine ⟨Or.inl rfl, ?_⟩
              intro o76
              refine ⟨fun c77 => ?_, fun c77 => ?_⟩
              · exact absurd c77 (by decide)
              · skip
                refine w_X12_refuse ?_
                have hB78 : Bd (uI I57 97 0 8) := Bd.o0 hB59 io9_112_97_12 (by decide) bd9_12_0
                exact hQ _ _ _ _ hB78 ((Fr.tr f38 p60.1 (fun _ _ => trivial)).o (by decide) (by decide))
            · skip
              rw [lg_cmp_gt] at c73
              have i79 := i32 ((I57 108 (Int32.toNatClampNeg x56)))
              have d80 : ((v2.toInt) : Int) ≤ ((I57 108 (Int32.toNatClampNeg x56)).toInt) := cl_nlt (tl_i2l rfl) (tl_i2l rfl) c73
              refine ⟨Or.inr rfl, ?_⟩
              intro o81
              refine ⟨fun c82 => ?_, fun c82 => ?_⟩
              · skip
                have z4 : (0 : Int32).toInt = 0 := rfl
                have hv83 : RQ I57 := p60.2.2
                have hv84 : RD I57 v2 (0 : Int32) x56 := (by have z0 : (0 : Int32).toInt = 0 := rfl; unfold RD; omega)
                exact (L 900000000000).1 _ _ _ _ hB59 (Fr.tr f38 p60.1 (fun _ _ => trivial)) hv83 hv84 ⟨by omega, by omega, by omega, by omega, ra_nn6 (by omega)⟩ (ra_ub62 v2 0)
              · exact absurd c82 (by decide)
      · exact absurd c55 (by decide)
end PT17x1
