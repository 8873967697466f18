/-! ===== every method keeps its contract, at every depth ===== -/
theorem qRk_le : ∀ mi, mi < nMth → qRk (mQ mi) ≤ 3 := by decide +kernel
theorem W_cs2 {p : Program} {l : Launch} {e : Env} {rm : Room} {s : State} {m : MethodId} {args : Array Value} {below : List Frame} {meth : Method} {c : Code} {Qw : State → Prop} {D : va_G} {ca : Nat → ClassId} {h0 b n al : Nat} {A : Nat → Prop} {I : Im} {J : Jm} {R : Rm} {H : Heap} {locs : List Loc} {g : JFrame} (hs : s.heap.size = h0 + n) (hP : va_P D ncl (wd ca h0 b (n + al) I J R) H) (hS : va_S A s.heap H locs) (k : H.size = h0 + (n + al) → W p l e rm s m args below meth c H locs al (sl (n + al) - sl n) Qw g) : W p l e rm s m args below meth c H locs al (sl (n + al) - sl n) Qw g := by
  have h := W_sz (n0 := n) (p := p) (l := l) (e := e) (rm := rm) (m := m) (args := args) (below := below) (meth := meth) (c := c) (g := g) (Qw := Qw) hs (Nat.le_add_right n al) hP hS (fun z => by rw [Nat.add_sub_cancel_left]; exact k z)
  rwa [Nat.add_sub_cancel_left] at h
theorem pk_mem {q : Nat × Value} {lv : Lv} : ∀ {ks : List Nat}, q ∈ pk ks lv → q ∈ lv := by
  intro ks
  induction ks with
  | nil => intro h; cases h
  | cons i r ih =>
    intro h
    unfold pk at h
    split at h
    · exact ih h
    · rename_i v hv
      rcases List.mem_cons.mp h with rfl | h
      · exact lgt_mem rfl hv
      · exact ih h
theorem PW_pk {p : Program} {l : Launch} {e : Env} {rm : Room} {s : State} {m : MethodId} {args : Array Value} {below : List Frame} {meth : Method} {c : Code} {Qw : State → Prop} {nL : Nat} {D : va_G} {ca : Nat → ClassId} {h0 b n0 : Nat} {A : Nat → Prop} {ph : Bool} {pc n : Nat} {ks : List Nat} {lv : Lv} {st : List Value} {I : Im} {J : Jm} {R : Rm} (h : PW p l e rm s m args below meth c Qw nL D ca h0 b n0 A ph pc n (pk ks lv) st I J R) : PW p l e rm s m args below meth c Qw nL D ca h0 b n0 A ph pc n lv st I J R := by
  intro H locs ls hn hph hP hS hl
  refine h H locs ls hn hph hP hS ⟨hl.1, hl.2.1, fun q hq => ?_⟩
  obtain ⟨w, hw, rfl⟩ := List.mem_map.mp hq
  exact hl.2.2 _ (List.mem_map.mpr ⟨w, pk_mem hw, rfl⟩)
/-- the contract of the one method with a text in it, at every depth from 6 on -/
noncomputable def MetR (l : Launch) : Prop := ∀ (d : Nat) (D : va_G) (ca : Nat → ClassId) (h0 b n : Nat) (as : List Value) (I : Im) (J : Jm) (R : Rm) (Q : Qt), hReader n as I J R Q →
  Met l (mQ mReader).2.1 (wsM (mQ mReader)) (rmD (d + 6) (qAl (mQ mReader)) (sl (n + qAl (mQ mReader)) - sl n)) (va_Pc (as.map (cv h0 b)) (fun U => Wok D ca h0 b n I J R U))
    (mPost D ca h0 b (n + qAl (mQ mReader)) (qRk (mQ mReader)) (qKr (mQ mReader)) R Q (mFree ca h0 b n I J R)) (qAl (mQ mReader)) (sl (n + qAl (mQ mReader)) - sl n) (mFree ca h0 b n I J R)
set_option maxHeartbeats 4000000 in
theorem met_all (l : Launch) (hMR : MetR l) : ∀ d, MetD l d := by
  intro d
  induction d with
  | zero => intro D ca h0 b mi n as I J R Q hmi hF hM; exact hM.elim
  | succ d IH =>
    intro D ca h0 b mi n as I J R Q hmi hF hM
    unfold AM at hM
    cases hrd : Nat.beq mi mReader with
    | true =>
      rw [hrd] at hM
      have hq := Nat.eq_of_beq_eq_true hrd
      rw [hq]
      dsimp only [cond_true] at hM
      cases hd5 : Nat.ble 5 d with
      | false => rw [hd5] at hM; exact hM.elim
      | true =>
        rw [hd5] at hM
        obtain ⟨d2, rfl⟩ := Nat.le.dest (Nat.le_of_ble_eq_true hd5)
        rw [show 5 + d2 + 1 = d2 + 6 by omega]
        exact hMR d2 D ca h0 b n as I J R Q hM
    | false =>
      rw [hrd] at hM
      obtain ⟨hlen, hAW⟩ := hM
      obtain ⟨okE1, okW, okP, okI, ok0, ok1, ok2, ok3⟩ := ok_all mi hmi
      have hrk := qRk_le mi hmi
      refine Met.ofW (cc := (mQ mi).2.2.1) (maxL := qL (mQ mi)) (ret := (mQ mi).2.2.2.1) okP rfl ?_
      intro p e s m args below meth c s₁ B hml hv
      obtain ⟨rfl, hsz, hP, hK, hNN⟩ := hv
      have hx := B.exec
      have hb := B.bytes
      have hr := B.returns
      have hts := atoms_spec (ws := wsM (mQ mi)) B.pre
      have hown : s.vm.findClass (mQ mi).2.1.cls = some m.cls := findClass_of_methodNamed B.named
      have hlocks := B.notSynchronized
      have hA : ∀ q : Nat, h0 ≤ q → mFree ca h0 b n I J R q := fun q h => mFree_ge.mpr h
      have hC : Ctx p (rmD (d + 1) (qAl (mQ mi)) (sl (n + qAl (mQ mi)) - sl n)) s m (as.map (cv h0 b)).toArray meth c (mQ mi).2.1.cls (mQ mi).2.2.1 (qL (mQ mi)) (qIni (mQ mi)) (wsM (mQ mi)) D ca h0 b n (n + qAl (mQ mi)) 0 (mFree ca h0 b n I J R) false (fun _ => 0) :=
        ⟨hx, hb, hml, hown, hts, fun w hw => List.mem_cons_of_mem _ hw, hK, ⟨hNN.1, hNN.2, fun q h => mFree_ge.mp h⟩, hA, hsz, fun hi => by rw [(name_of_methodNamed B.named B.method).1]; exact okI hi, ⟨by show n + qAl (mQ mi) - n ≤ qAl (mQ mi); omega, Nat.le_refl _⟩, ⟨by show 1 ≤ d + 1; omega, by show 64 ≤ 64 * (d + 1); omega⟩, fun q => by cases q⟩
      have hS0 : va_S (mFree ca h0 b n I J R) s.heap s.heap [] := va_S.rf
      have hRet : RetOk p l e (rmD (d + 1) (qAl (mQ mi)) (sl (n + qAl (mQ mi)) - sl n)) s m (as.map (cv h0 b)).toArray below meth c (MQ below (mPost D ca h0 b (n + qAl (mQ mi)) (qRk (mQ mi)) (qKr (mQ mi)) R Q (mFree ca h0 b n I J R)) (as.map (cv h0 b)).toArray s (qAl (mQ mi)) (sl (n + qAl (mQ mi)) - sl n) (mFree ca h0 b n I J R)) (mQ mi).2.2.1 D ca h0 b n (mFree ca h0 b n I J R) (qRk (mQ mi)) (fun n' x y I' J' R' => n' = n + qAl (mQ mi) ∧ (qKr (mQ mi) = 1 → R' = R) ∧ Q x y I' J' R') := by
        intro pc n' I' J' R' H locs ls hn hP' hS'
        refine ⟨fun hk hdg hq => ?_, fun hk x hx01 hdg hq => ?_, fun hk x hdg hq => ?_⟩
        · obtain ⟨rfl, hkr, hq⟩ := hq
          rw [hk, show n + qAl (mQ mi) - n = qAl (mQ mi) by omega]
          have hr0 := ok0 hk
          refine W_cs2 hsz hP' hS' (fun hz => ?_)
          exact W.vret hx hb (by rw [hr, hr0]) (fun t ht hW => ⟨⟨(I', J', R'), rfl, ⟨hkr, hq⟩, by rw [ht]; exact hz, by rw [ht]; exact hP'⟩, hS'.F ht⟩) hS'.2.2 hdg
        · obtain ⟨rfl, hkr, hq⟩ := hq
          rw [show n + qAl (mQ mi) - n = qAl (mQ mi) by omega]
          rcases hk with hk | hk
          · have hr1 := ok1 hk
            rw [hk]
            refine W_cs2 hsz hP' hS' (fun hz => ?_)
            exact W.iret hx hb (by rw [hr, hr1]) (fun t ht hW => ⟨⟨x, (I', J', R'), rfl, ⟨hkr, hq⟩, by rw [ht]; exact hz, by rw [ht]; exact hP'⟩, hS'.F ht⟩) hS'.2.2 hdg
          · have hr2 := ok2 hk
            have h01 := hx01 hk
            rw [hk]
            refine W_cs2 hsz hP' hS' (fun hz => ?_)
            exact W.zret (ty := .boolean) hx hb (by rw [hr, hr2]) (by rcases h01 with rfl | rfl <;> rfl) (fun t ht hW => ⟨⟨x, (I', J', R'), rfl, ⟨h01, hkr, hq⟩, by rw [ht]; exact hz, by rw [ht]; exact hP'⟩, hS'.F ht⟩) hS'.2.2 hdg
        · obtain ⟨rfl, hkr, hq⟩ := hq
          rw [hk, show n + qAl (mQ mi) - n = qAl (mQ mi) by omega]
          have hr3 := ok3 hk
          refine W_cs2 hsz hP' hS' (fun hz => ?_)
          exact W.lret hx hb (by rw [hr, hr3]) (fun t ht hW => ⟨⟨x, (I', J', R'), rfl, ⟨hkr, hq⟩, by rw [ht]; exact hz, by rw [ht]; exact hP'⟩, hS'.F ht⟩) hS'.2.2 hdg
      have key := hAW _ ⟨fun en hen n' lv st I' J' R' h => step_ok (isl := false) (xs := fun _ => 0) (L := 0) hC IH ⟨Nat.le_refl _, Nat.le_refl _⟩ qRk_le hRet (okE1 en hen) (okW en hen) h, fun pc n' ks lv st I' J' R' h => PW_pk h⟩
      have hl := lv_entry (as.map (cv h0 b)) (n := qL (mQ mi)) (by rw [lg_len]; exact hlen)
      rw [lg_entry_eq]
      rw [← lvm_args] at hl
      have k2 := key s.heap [] _ (Nat.le_refl n) (fun q => hF (Nat.eq_of_beq_eq_true q)) hP hS0 hl
      rw [Nat.sub_self, Nat.sub_self] at k2
      exact k2
