section PT1x3
section SND3
variable {p : Program} {l : Launch} {e : Env} {rm : Room} {s : State} {m : MethodId} {args : Array Value} {below : List Frame} {meth : Method} {c : Code} {Qw : State → Prop}
variable {own : String} {cc : ByteArray} {nL ini : Nat} {Ts : List Cond} {D : va_G} {ca : Nat → ClassId} {h0 b n0 nend L : Nat} {A : Nat → Prop} {ph isl : Bool} {xs : Nat → Int32}
set_option maxHeartbeats 4000000 in
/-- a call -/
theorem call_ok (C : Ctx p rm s m args meth c own cc nL ini Ts D ca h0 b n0 nend L A isl xs) {d : Nat} (IH : MetD l d) (hd : d + 1 ≤ rm.frames ∧ 64 * (d + 1) ≤ rm.locals) {pc n kind mi na rk al ci ph1 kr : Nat} {i : Jvm.ClassFile.Instr} {lv : Lv} {st : List Value} {I : Im} {J : Jm} {R : Rm}
    (hdg : decode cc pc = .ok (i, 3)) (hw : ∀ w ∈ needE own (pc, i, 3, [kind, mi, na, rk, al, ci, ph1, kr], [], 0), w ∈ wsG)
    (hok : okCall (mQ mi) na rk al ci ph1 kr = true) (hmi : mi < nMth) (hrk3 : qRk (mQ mi) ≤ 3)
    (hkind : ((∃ j, i = .invokevirtual j) ∧ kind = 0 ∧ (mQ mi).2.1.cls = clC ci ∧ qIns (mQ mi) = 1 ∧ ci < 13) ∨ ((∃ j, i = .invokestatic j ∧ (kind = 11 → (own, j, (mQ mi).2.1) ∈ nestW)) ∧ (kind = 1 ∨ kind = 11) ∧ qIns (mQ mi) = 0) ∨ ((∃ j, i = .invokespecial j ∧ (kind = 12 → (own, j, (mQ mi).2.1) ∈ nestW)) ∧ (kind = 2 ∨ kind = 12) ∧ qIns (mQ mi) = 1 ∧ (mQ mi).2.1.name = "<init>" ∧ (mQ mi).2.2.2.1 = none))
    (h : cal (AM d) ph nend (PW p l e rm s m args below meth c Qw nL D ca h0 b n0 A ph) pc n lv st I J R kind mi na rk al ci ph1 kr) : PW p l e rm s m args below meth c Qw nL D ca h0 b n0 A ph pc n lv st I J R := by
  intro H locs ls hn hph hP hS hl
  obtain ⟨e1, e2, e3, e4, e5, e6, e7⟩ := okCall_spec hok
  unfold cal at h
  cases hc : ((Nat.ble na st.length && (Nat.ble (n + al) nend && (Nat.ble (cSum (st.drop na)) 8 && (bif ph then Nat.beq kr 1 && Nat.beq al 0 else true)))) && (bif Nat.beq kind 1 || Nat.beq kind 11 then true else rcv n ci ((st.take na).reverse))) with
  | false => rw [hc] at h; exact h.elim
  | true =>
    rw [hc] at h
    obtain ⟨hF, hM⟩ : (qPh (mQ mi) = 1 → Fl R ∧ n = nAll) ∧ AM d mi n (st.take na).reverse I J R (fun x y I' J' R' => bf rk x (PW p l e rm s m args below meth c Qw nL D ca h0 b n0 A ph (pc + 3) (n + al) lv (psh rk x y (st.drop na)) I' J' (bif Nat.beq kr 1 then R else R'))) := by
      dsimp only [cond_true] at h
      cases hb1 : (Nat.beq ph1 1 && !ph) with
      | true => rw [hb1] at h; exact ⟨fun _ => h.1, h.2⟩
      | false =>
        rw [hb1] at h
        refine ⟨fun q => ?_, h⟩
        rw [e3, q] at hb1
        cases hp : ph with
        | true => exact hph hp
        | false => rw [hp] at hb1; exact absurd hb1 (by decide)
    simp only [Bool.and_eq_true] at hc
    obtain ⟨⟨c1, c2, c3, c4⟩, c5⟩ := hc
    have c1 := Nat.le_of_ble_eq_true c1
    have c2 := Nat.le_of_ble_eq_true c2
    have c3 := Nat.le_of_ble_eq_true c3
    have hpk : ph = true → kr = 1 ∧ al = 0 := by
      intro q
      rw [q] at c4
      simp only [cond_true, Bool.and_eq_true] at c4
      exact ⟨Nat.eq_of_beq_eq_true c4.1, Nat.eq_of_beq_eq_true c4.2⟩
    have hFl := hF
    obtain ⟨as, has⟩ : ∃ as, as = (st.take na).reverse := ⟨_, rfl⟩
    rw [← has] at hM c5
    have hst : st = as.reverse ++ st.drop na := by rw [has, List.reverse_reverse, List.take_append_drop]
    have hlen : as.length = na := by rw [has, List.length_reverse, List.length_take]; omega
    have met := IH D ca h0 b mi n as I J R _ hmi hFl hM
    refine W_sz C.2.2.2.2.2.2.2.2.2.1 hn hP hS (fun hsz => ?_)
    refine aft_ok (q := mQ mi) (rk := rk) (al := al) (kr := kr) (st := st.drop na) (a := (as.map (cv h0 b)).toArray) C (by omega) hn hph hpk hP hS hl hsz ?_
    obtain ⟨hx, hb, hml, hown, hts, hG, hK, hNN, hA, hs0, hini, hroom, -⟩ := C
    have hqw : qW (mQ mi) ∈ wsG := cw_all mi hmi
    have hm1 : sl (n + al) ≤ sl nend := sl_le c2
    have hm2 : sl n0 ≤ sl n := sl_le hn
    have hm3 : sl n ≤ sl (n + al) := sl_mono
    have hroom2 : (n - n0) + al ≤ rm.cells ∧ (sl n - sl n0) + (sl (n + al) - sl n) ≤ rm.slots := by omega
    have hrm : (rmD d al (sl (n + al) - sl n)).frames + 1 ≤ rm.frames ∧ 8 + (qL (mQ mi) + 11) + (rmD d al (sl (n + al) - sl n)).locals ≤ rm.locals := ⟨hd.1, by show 8 + (qL (mQ mi) + 11) + 64 * d ≤ rm.locals; omega⟩
    have hU : ∀ U : State, U.heap = H → s.WarmedH U.vm → va_Pc (as.map (cv h0 b)) (fun U => Wok D ca h0 b n I J R U) (as.map (cv h0 b)).toArray U := fun U hU hW => ⟨rfl, by rw [hU]; exact hsz, by rw [hU]; exact hP, va_K.moved hW.alike hK, NN.warm hW hNN.1, SKp.next hW (fun a h1 h2 => by rw [hU]; exact hS.2.1 a h1 (fun z => h2 (hNN.2.2 a z))) hNN.2.1⟩
    have hwd : 2 * (F0 m pc ls (st.map (cv h0 b))).monitorRoom + (((st.drop na).map (cv h0 b)).map fun v => v.category).sum ≤ 8 := by
      have := cSum_cv (h0 := h0) (b := b) (st.drop na)
      rw [this]
      show 2 * 0 + _ ≤ 8
      omega
    have hstk : st.map (cv h0 b) = (as.map (cv h0 b)).reverse ++ (st.drop na).map (cv h0 b) := by
      conv => lhs; rw [hst]
      rw [List.map_append, List.map_reverse]
    rw [e1, e2, e4] at *
    rcases hkind with ⟨⟨j, rfl⟩, hk0, hcls, hins, hci⟩ | ⟨⟨j, rfl, hnst⟩, hk0, hins⟩ | ⟨⟨j, rfl, hnst⟩, hk0, hins, hnm, hret⟩
    · subst hk0
      cases as with
      | nil => exact absurd c5 (by simp [rcv])
      | cons v as1 =>
        cases v with
        | ref o =>
          have ho : isO n o ci = true := c5
          have hlen1 : (as1.map (cv h0 b)).length = na - qIns (mQ mi) := by rw [hins, List.length_map]; simp at hlen; omega
          have hstk2 : st.map (cv h0 b) = (as1.map (cv h0 b)).reverse ++ .ref (ad h0 b o) :: (st.drop na).map (cv h0 b) := by rw [hstk]; simp [cv]
          exact va_runV (As := as1.map (cv h0 b)) (b := ad h0 b o) (rest := (st.drop na).map (cv h0 b)) ⟨hx, hb, hml, hown, hts⟩ met
            (cwV (na - qIns (mQ mi)) hts (by unfold wsV; exact good_app (good_list hG (fun w hw2 => hw w hw2)) (wsM_good hG hqw)) rfl rfl rfl ⟨hcls, e6⟩ hrm)
            ⟨Wok.blind, va_recv hK hP (ncl_get ci hci) (wd_obj ho hci), fun U hU1 hW => hU U hU1 hW⟩ rfl hlen1 hl.1 hstk2 hwd hdg hroom2
        | _ => exact absurd c5 (by simp [rcv])
    · have hlen1 : (as.map (cv h0 b)).length = na - qIns (mQ mi) := by rw [hins, List.length_map]; omega
      rcases hk0 with rfl | rfl
      · exact va_runS (As := as.map (cv h0 b)) (rest := (st.drop na).map (cv h0 b)) ⟨hx, hb, hml, hown, hts⟩ met
          (va_cwS (na - qIns (mQ mi)) hts (by unfold va_wsS; exact good_app (good_list hG (fun w hw2 => hw w hw2)) (wsM_good hG hqw)) rfl rfl rfl e6 hrm)
          ⟨Wok.blind, fun U hU1 hW => hU U hU1 hW⟩ rfl hlen1 hl.1 hstk hwd hdg hroom2
      · exact va_runSN (As := as.map (cv h0 b)) (rest := (st.drop na).map (cv h0 b)) (host := "BreadScribes") ⟨hx, hb, hml, hown, hts⟩ met
          ⟨va_cnB (na - qIns (mQ mi)) hts (wsM_good hG hqw) rfl rfl rfl (hNN.1.1 _ (hnst rfl)) (hts _ (hG _ (hw _ (by first | (simp [needE]; done) | exact List.mem_cons_self)))) e6 hrm, hts _ (hG _ (hw _ (by first | (simp [needE]; done) | exact List.mem_cons_self))), trivial⟩
          ⟨Wok.blind, fun U hU1 hW => hU U hU1 hW⟩ rfl hlen1 hl.1 hstk hwd hdg hroom2
    · cases as with
      | nil => exact absurd c5 (by rcases hk0 with rfl | rfl <;> simp [rcv])
      | cons v as1 =>
        cases v with
        | ref o =>
          have hlen1 : (as1.map (cv h0 b)).length = na - qIns (mQ mi) := by rw [hins, List.length_map]; simp at hlen; omega
          have hstk2 : st.map (cv h0 b) = (as1.map (cv h0 b)).reverse ++ .ref (ad h0 b o) :: (st.drop na).map (cv h0 b) := by rw [hstk]; simp [cv]
          have hwm : wsM (mQ mi) = Cond.code (mQ mi).2.1 (mQ mi).2.2.1 (qL (mQ mi)) none :: wsG := by unfold wsM qW; rw [hret]
          rcases hk0 with rfl | rfl
          · exact va_runI (As := as1.map (cv h0 b)) (b := ad h0 b o) (rest := (st.drop na).map (cv h0 b)) ⟨hx, hb, hml, hown, hts⟩ met
              (cwI (na - qIns (mQ mi)) hts (wsM_good hG hqw) hwm rfl rfl (hts _ (hG _ (hw _ (by first | (simp [needE]; done) | exact List.mem_cons_self)))) (hts _ (hG _ (hw _ (by first | (simp [needE]; done) | exact List.mem_cons_self)))) (hts _ (hG _ (hw _ (by first | (simp [needE]; done) | exact List.mem_cons_self)))) hnm e6 hrm)
              ⟨Wok.blind, fun U hU1 hW => hU U hU1 hW⟩ rfl hlen1 hl.1 hstk2 hwd hdg hroom2
          · exact va_runIN (As := as1.map (cv h0 b)) (b := ad h0 b o) (rest := (st.drop na).map (cv h0 b)) (host := "BreadScribes") ⟨hx, hb, hml, hown, hts⟩ met
              ⟨va_cnB (na - qIns (mQ mi)) hts (wsM_good hG hqw) hwm rfl rfl (hNN.1.1 _ (hnst rfl)) (hts _ (hG _ (hw _ (by first | (simp [needE]; done) | exact List.mem_cons_self)))) e6 hrm, hnm, hts _ (hG _ (hw _ (by first | (simp [needE]; done) | exact List.mem_cons_self)))⟩
              ⟨Wok.blind, fun U hU1 hW => hU U hU1 hW⟩ rfl hlen1 hl.1 hstk2 hwd hdg hroom2
        | _ => exact absurd c5 (by rcases hk0 with rfl | rfl <;> simp [rcv])
end SND3
end PT1x3
