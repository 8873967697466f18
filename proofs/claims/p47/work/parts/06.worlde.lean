section PT1x1
section SND
variable {p : Program} {l : Launch} {e : Env} {rm : Room} {s : State} {m : MethodId} {args : Array Value} {below : List Frame} {meth : Method} {c : Code} {Qw : State → Prop}
variable {own : String} {cc : ByteArray} {nL ini : Nat} {Ts : List Cond} {D : va_G} {ca : Nat → ClassId} {h0 b n0 nend L : Nat} {A : Nat → Prop} {ph isl : Bool} {xs : Nat → Int32}
theorem fst_I {o ci k : Nat} {I : Im} {J : Jm} {R : Rm} {x : Int32} (hk : fkd ci k = 0 ∨ fkd ci k = 1) : (flds h0 b I J R o ci).set k (.int x) = flds h0 b (uI I o k x) J R o ci := by
  unfold flds
  rw [fset]
  apply List.map_congr_left
  intro j _
  by_cases hj : j = k
  · subst hj
    rw [if_pos rfl]
    rcases hk with h | h <;> rw [h] <;> simp [fvl, uI_eq, upd]
  · rw [if_neg hj]
    have : (uI I o k x) o j = I o j := by rw [uI_eq]; simp [upd, hj]
    unfold fvl
    rw [this]
theorem fst_J {o ci k : Nat} {I : Im} {J : Jm} {R : Rm} {x : Int64} (hk : fkd ci k = 2) : (flds h0 b I J R o ci).set k (.long x) = flds h0 b I (uJ J o k x) R o ci := by
  unfold flds
  rw [fset]
  apply List.map_congr_left
  intro j _
  by_cases hj : j = k
  · subst hj
    rw [if_pos rfl, hk]
    simp [fvl, uJ_eq, vp_updL]
  · rw [if_neg hj]
    have : (uJ J o k x) o j = J o j := by rw [uJ_eq]; simp [vp_updL, hj]
    unfold fvl
    rw [this]
theorem fst_R {o ci k v w : Nat} {I : Im} {J : Jm} {R : Rm} (hk : (fkd ci k = 3 ∧ w = v) ∨ (fkd ci k = 4 ∧ w = o + fof ci k)) (hv : ¬ v = 0) : (flds h0 b I J R o ci).set k (.ref (ad h0 b w)) = flds h0 b I J (uR R o k v) o ci := by
  unfold flds
  rw [fset]
  apply List.map_congr_left
  intro j _
  by_cases hj : j = k
  · subst hj
    rw [if_pos rfl]
    have : (uR R o j v) o j = v := by rw [uR_eq]; exact va_up_self _ _ _
    rcases hk with ⟨h, rfl⟩ | ⟨h, rfl⟩ <;> rw [h] <;> simp [fvl, this, hv]
  · rw [if_neg hj]
    have : (uR R o k v) o j = R o j := by rw [uR_eq]; exact va_up_ne _ _ hj
    unfold fvl
    rw [this]
theorem fl_len {o ci : Nat} {I : Im} {J : Jm} {R : Rm} : (flds h0 b I J R o ci).length = clN ci := by simp [flds]
theorem Fl_up {R : Rm} {o k v : Nat} (h : Fl R) (hv : ¬ v = 0) : Fl (uR R o k v) := by
  intro i j hi
  by_cases h1 : i + 1 = o
  · rw [← h1, uR_eq]
    by_cases h2 : j = k
    · subst h2; rw [va_up_self]; exact hv
    · rw [va_up_ne _ _ h2]; exact h i j hi
  · rw [uR_ne h1]; exact h i j hi
/-- a field is written, of any kind -/
theorem fput (C : Ctx p rm s m args meth c own cc nL ini Ts D ca h0 b n0 nend L A isl xs) {pc i n ci k : Nat} {lv : Lv} {I I' : Im} {J J' : Jm} {R R' : Rm} {o : Nat} {v : Value} {r : List Value} (hdg : decode cc pc = .ok (.putfield i, 3)) (hw : Cond.fieldLink own i (clT ci k).1 (clT ci k).2.1 (clT ci k).2.2.1 ∈ wsG) (hci : ci < 13) (hk : k < clN ci)
    (hfin : (clT ci k).2.2.2 = false ∨ ((clT ci k).2.2.2 = true ∧ (clT ci k).1 = own ∧ ini = 1)) (hn0 : narrow (clY ci k) v = v) (hfit : fits (clY ci k) v = true) (ho : isO n o ci = true)
    (hset : (flds h0 b I J R o ci).set k v = flds h0 b I' J' R' o ci) (h1 : ∀ a, a ≠ o → I' a = I a) (h2 : ∀ a, a ≠ o → J' a = J a) (h3 : ∀ a, a ≠ o → R' a = R a) (hF : ph = true → Fl R → Fl R')
    (h : PW p l e rm s m args below meth c Qw nL D ca h0 b n0 A ph (pc + 3) n lv r I' J' R') {H : Heap} {locs : List Loc} {ls : Array Slot} (hn : n0 ≤ n) (hph : ph = true → Fl R ∧ n = nAll) (hP : va_P D ncl (wd ca h0 b n I J R) H) (hS : va_S A s.heap H locs) (hl : lv_has ls nL (lvm h0 b lv)) :
    W p l e rm s m args below meth c H locs (n - n0) (sl n - sl n0) Qw (F0 m pc ls (v :: .ref (ad h0 b o) :: r.map (cv h0 b))) := by
  obtain ⟨hx, hb, hml, hown, hts, hG, hK, hNN, hA, hle, hini, -⟩ := C
  obtain ⟨o1, o2, o3⟩ := isO_spec ho
  have he := wd_get (ca := ca) (h0 := h0) (b := b) (n := n) (I := I) (J := J) (R := R) o1 o2
  rw [celE_o o3 (by omega)] at he
  have hD : va_D A (wd ca h0 b n I J R) := wd_D hA
  have hws : (wd ca h0 b n I J R).set (o - 1) (ad h0 b o, .inr (ci, (flds h0 b I J R o ci).set k v)) = wd ca h0 b n I' J' R' := wd_set o1 o2 (by rw [celE_o o3 (by omega), hset]) (fun i hi => celE_I (h1 i hi) (h2 i hi) (h3 i hi))
  have kk : ∀ (H1 : Heap) (locs1 : List Loc), va_P D ncl ((wd ca h0 b n I J R).set (o - 1) (ad h0 b o, .inr (ci, (flds h0 b I J R o ci).set k v))) H1 → va_D A ((wd ca h0 b n I J R).set (o - 1) (ad h0 b o, .inr (ci, (flds h0 b I J R o ci).set k v))) → va_S A s.heap H1 locs1 → W p l e rm s m args below meth c H1 locs1 (n - n0) (sl n - sl n0) Qw (F0 m (pc + 3) ls (r.map (cv h0 b))) := by
    intro H1 locs1 hP1 _ hS1
    rw [hws] at hP1
    exact h H1 locs1 ls hn (fun q => ⟨hF q (hph q).1, (hph q).2⟩) hP1 hS1 hl
  have hlen : k < (flds h0 b I J R o ci).length := by rw [fl_len]; exact hk
  rcases hfin with hfin | ⟨hfin, hdc, hi1⟩
  · exact va_put hx hb hts (fun w hw => hG w (ucl ci hci w hw)) (clY ci) (clY_ok ci hci) (clNm ci hci) hown hK hP hD hS (o - 1) he (ncl_get ci hci) k hk (hts _ (hG _ hw)) (fun _ h => h) hfin (clY_ok ci hci k hk) hn0 hfit hlen hdg kk
  · exact va_putF hx hb hts (fun w hw => hG w (ucl ci hci w hw)) (clY ci) (clY_ok ci hci) (clNm ci hci) hown hK hP hD hS (o - 1) he (ncl_get ci hci) k hk (hts _ (hG _ hw)) (fun _ h => h) hfin (hini hi1) hdc (clY_ok ci hci k hk) hn0 hfit hlen hdg kk

/-- the size of the heap, which the machine's own book bounds -/
theorem W_sz {I : Im} {J : Jm} {R : Rm} {n : Nat} {H : Heap} {locs : List Loc} {g : JFrame} (hs : s.heap.size = h0 + n0) (hn : n0 ≤ n) (hP : va_P D ncl (wd ca h0 b n I J R) H) (hS : va_S A s.heap H locs) (k : H.size = h0 + n → W p l e rm s m args below meth c H locs (n - n0) (sl n - sl n0) Qw g) : W p l e rm s m args below meth c H locs (n - n0) (sl n - sl n0) Qw g := by
  intro T hT X
  have h1 := X.heapSize
  rw [hT, hs] at h1
  have h2 : h0 + n ≤ H.size := by
    by_cases h : n = n0
    · rw [h, ← hs]; exact hS.1
    · have h3 := (hP (n - 1) _ (wd_get (a := n) (by omega) (Nat.le_refl n))).lt
      rw [show (ad h0 b n, celE ca h0 b I J R n).1 = h0 + (n - 1) from ad_pos (by omega)] at h3
      omega
  exact k (by omega) T hT X
end SND
end PT1x1
