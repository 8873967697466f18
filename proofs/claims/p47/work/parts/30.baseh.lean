section PT3x4
section KVH
variable {bad : Nat → Bool} {okg okp : Nat → Nat → Bool} {dirty : List Nat} {F : Im → Jm → Rm → Prop}
theorem AW_g {M : Mc} (hM : Mono M) (hMg : Mkg bad dirty F M) (hgf : ∀ o ci k, 0 < o → (shl.getD (o - 1) (999, 0)).1 = ci → fkd ci k = 4 → okg ci k = true → bad (o + fof ci k) = false) (hst : StG bad okp F) {ph isl : Bool} {L : Nat} {xs : Nat → Int32} {rk nend : Nat} {code : List En} (hk : ∀ e ∈ code, clG dirty okg okp e.2.1 e.2.2.2.1 = true) {Q : Nat → Qt} {pc n : Nat} {lv : Lv} {st : List Value} {I : Im} {J : Jm} {R : Rm} (hl : kvL bad lv) (hs : kvS bad st) (hr : HRf bad R) (hF : F I J R) (h : AW M ph isl L xs rk nend code Q pc n lv st I J R) : AW M ph isl L xs rk nend code (fun n x y I J R => HRf bad R ∧ F I J R ∧ Q n x y I J R) pc n lv st I J R := by
  intro P hP
  exact h (fun pc n lv st I J R => kvL bad lv → kvS bad st → HRf bad R → F I J R → P pc n lv st I J R)
    ⟨fun e he n lv st I J R q a b c d => hP.1 e he n lv st I J R (stI_g hM hMg hgf hst (fun n x y I J R b c q => ⟨b, c, q⟩) a b c d e.2.1 (hk e he) q), fun pc n ks lv st I J R q a b c d => hP.2 _ _ ks _ _ _ _ _ (q a.k b c d)⟩ hl hs hr hF
/-- no method but the dirty ones writes there: it writes nothing at all, or nothing of that -/
noncomputable def ClT (pl dirty : List Nat) (okg okp : Nat → Nat → Bool) : Prop := ∀ mi, dirty.elem mi = false → pl.elem mi = true ∨ (Nat.beq mi mReader = false ∧ (mQ mi).1.all (fun e => clG dirty okg okp e.2.1 e.2.2.2.1) = true)
theorem ClT.of {pl : List Nat} (h : ∀ mi, mi < nMth → (dirty.elem mi || (pl.elem mi || (!Nat.beq mi mReader && (mQ mi).1.all (fun e => clG dirty okg okp e.2.1 e.2.2.2.1)))) = true) : ClT pl dirty okg okp := by
  intro mi hd
  by_cases hm : mi < nMth
  · have h1 := h mi hm
    rw [hd] at h1
    simp only [Bool.or_eq_true, Bool.and_eq_true, Bool.not_eq_true', Bool.false_eq_true, false_or] at h1
    exact h1
  · have hl : mtab.length = nMth := by decide +kernel
    have e : mQ mi = ([], ⟨"", "", ""⟩, ⟨#[]⟩, none, []) := by
      unfold mQ
      rw [List.getD_eq_getElem?_getD, List.getElem?_eq_none (by omega)]
      rfl
    refine Or.inr ⟨?_, by rw [e]; rfl⟩
    have h58 : mReader < nMth := by decide
    cases hb : Nat.beq mi mReader with
    | false => rfl
    | true => exact absurd (Nat.eq_of_beq_eq_true hb) (by omega)
theorem AM_g {pl : List Nat} (hp : PuT pl) (hcl : ClT pl dirty okg okp) (hgf : ∀ o ci k, 0 < o → (shl.getD (o - 1) (999, 0)).1 = ci → fkd ci k = 4 → okg ci k = true → bad (o + fof ci k) = false) (hst : StG bad okp F) : ∀ d, Mkg bad dirty F (AM d) := by
  intro d
  induction d with
  | zero => intro mi n as I J R Q hd hs hr hF h; exact h.elim
  | succ d ih =>
    intro mi n as I J R Q hd hs hr hF h
    rcases hcl mi hd with hpu | ⟨c1, c2⟩
    · refine AM_m (d + 1) _ _ _ _ _ _ _ _ (fun x y I' J' R' q => ?_) (AM_p hp (d + 1) mi n as I J R Q hpu h)
      obtain ⟨rfl, rfl, rfl, q⟩ := q
      exact ⟨fun _ => rfl, hr, hF, q⟩
    · unfold AM at h ⊢
      rw [c1] at h ⊢
      exact ⟨h.1, AW_m (AM_m d) (fun n x y I' J' R' q => ⟨q.2.2.1, q.2.2.2.1, q.2.2.2.1, q.1, q.2.1, q.2.2.2.2⟩) (AW_g (AM_m d) ih hgf hst (List.all_eq_true.mp c2) (kvL.args as 0 hs) kvS.n hr hF h.2)⟩
/-- what is proved of a clean method is proved with the picture kept -/
theorem AM_w {pl : List Nat} (hp : PuT pl) (hcl : ClT pl dirty okg okp) (hgf : ∀ o ci k, 0 < o → (shl.getD (o - 1) (999, 0)).1 = ci → fkd ci k = 4 → okg ci k = true → bad (o + fof ci k) = false) (hst : StG bad okp F) {d mi n : Nat} {as : List Value} {I : Im} {J : Jm} {R : Rm} {Q : Qt} (hd : dirty.elem mi = false) (hs : kvS bad as) (hr : HRf bad R) (hF : F I J R) (h : AM d mi n as I J R (fun x y I' J' R' => F I' J' R' → Q x y I' J' R')) : AM d mi n as I J R Q :=
  AM_m d _ _ _ _ _ _ _ _ (fun x y I' J' R' q => q.2.2.2 q.2.2.1) (AM_g hp hcl hgf hst d mi n as I J R _ hd hs hr hF h)
end KVH
end PT3x4
section PT3x5
/-! printed by grpE.py: what a method reads, writes, calls: a table, held against the code once -/
noncomputable def okG9 (i : Jvm.ClassFile.Instr) (ax : List Nat) : Bool := match i with
  | .new _ => false
  | .newarray _ => false
  | .anewarray _ => false
  | .aastore => false
  | .getfield _ => match ax with
    | [ci, k, kd, of] => Nat.beq kd (fkd ci k) && (Nat.beq of (fof ci k) && (Nat.blt ci 100 && Nat.blt k 1000))
    | _ => true
  | .putfield _ => match ax with
    | [ci, k, kd, _] => Nat.beq kd (fkd ci k) && (Nat.ble kd 3 && (Nat.blt ci 100 && Nat.blt k 1000))
    | _ => true
  | .invokevirtual _ => match ax with
    | [_, mi, _, _, _, _, _, kr] => Nat.beq kr (qKr (mQ mi))
    | _ => true
  | .invokestatic _ => match ax with
    | [_, mi, _, _, _, _, _, kr] => Nat.beq kr (qKr (mQ mi))
    | _ => true
  | .invokespecial _ => match ax with
    | [_, mi, _, _, _, _, _, kr] => Nat.beq kr (qKr (mQ mi))
    | _ => true
  | _ => true
noncomputable def evG9 (i : Jvm.ClassFile.Instr) (ax : List Nat) : Option Nat := match i with
  | .getfield _ => match ax with
    | [ci, k, kd, _] => bif Nat.beq kd 4 then some (ci * 1000 + k) else none
    | _ => none
  | .putfield _ => match ax with
    | [ci, k, kd, _] => bif Nat.beq kd 3 then none else some (1000000 + (ci * 1000 + k))
    | _ => none
  | .invokevirtual _ => match ax with
    | [_, mi, _, _, _, _, _, _] => some (2000000 + mi)
    | _ => none
  | .invokestatic _ => match ax with
    | [_, mi, _, _, _, _, _, _] => some (2000000 + mi)
    | _ => none
  | .invokespecial _ => match ax with
    | [_, mi, _, _, _, _, _, _] => some (2000000 + mi)
    | _ => none
  | _ => none
noncomputable def clV9 (dirty : List Nat) (okg okp : Nat → Nat → Bool) (v : Nat) : Bool := bif Nat.blt v 1000000 then okg (v / 1000) (v % 1000) else bif Nat.blt v 2000000 then okp ((v - 1000000) / 1000) ((v - 1000000) % 1000) else !dirty.elem (v - 2000000)
theorem clV9_g {dirty : List Nat} {okg okp : Nat → Nat → Bool} {ci k : Nat} (hc : ci < 100) (hk : k < 1000) (h : clV9 dirty okg okp (ci * 1000 + k) = true) : okg ci k = true := by
  unfold clV9 at h
  rw [show Nat.blt (ci * 1000 + k) 1000000 = true from Nat.ble_eq_true_of_le (by omega), show (ci * 1000 + k) / 1000 = ci by omega, show (ci * 1000 + k) % 1000 = k by omega] at h
  exact h
theorem clV9_p {dirty : List Nat} {okg okp : Nat → Nat → Bool} {ci k : Nat} (hc : ci < 100) (hk : k < 1000) (h : clV9 dirty okg okp (1000000 + (ci * 1000 + k)) = true) : okp ci k = true := by
  have h1 : Nat.blt (1000000 + (ci * 1000 + k)) 1000000 = false := by
    cases q : Nat.blt (1000000 + (ci * 1000 + k)) 1000000 with
    | false => rfl
    | true => have := Nat.le_of_ble_eq_true q; omega
  unfold clV9 at h
  rw [h1, show Nat.blt (1000000 + (ci * 1000 + k)) 2000000 = true from Nat.ble_eq_true_of_le (by omega), show (1000000 + (ci * 1000 + k) - 1000000) / 1000 = ci by omega, show (1000000 + (ci * 1000 + k) - 1000000) % 1000 = k by omega] at h
  exact h
theorem clV9_c {dirty : List Nat} {okg okp : Nat → Nat → Bool} {mi : Nat} (h : clV9 dirty okg okp (2000000 + mi) = true) : (!dirty.elem mi) = true := by
  have h1 : Nat.blt (2000000 + mi) 1000000 = false := by
    cases q : Nat.blt (2000000 + mi) 1000000 with
    | false => rfl
    | true => have := Nat.le_of_ble_eq_true q; omega
  have h2 : Nat.blt (2000000 + mi) 2000000 = false := by
    cases q : Nat.blt (2000000 + mi) 2000000 with
    | false => rfl
    | true => have := Nat.le_of_ble_eq_true q; omega
  unfold clV9 at h
  rw [h1, h2, show 2000000 + mi - 2000000 = mi by omega] at h
  exact h
theorem blt9 {a b : Nat} (h : Nat.blt a b = true) : a < b := Nat.le_of_ble_eq_true h
theorem clG_ev {dirty : List Nat} {okg okp : Nat → Nat → Bool} {i : Jvm.ClassFile.Instr} {ax : List Nat} (h1 : okG9 i ax = true) (h2 : ∀ v, evG9 i ax = some v → clV9 dirty okg okp v = true) : clG dirty okg okp i ax = true := by
  cases i with
  | new _ => exact absurd h1 Bool.false_ne_true
  | newarray _ => exact absurd h1 Bool.false_ne_true
  | anewarray _ => exact absurd h1 Bool.false_ne_true
  | aastore => exact absurd h1 Bool.false_ne_true
  | getfield _ =>
    rcases ax with _ | ⟨ci, _ | ⟨k, _ | ⟨kd, _ | ⟨of, _ | ⟨x, r⟩⟩⟩⟩⟩
    · rfl
    · rfl
    · rfl
    · rfl
    · have h3 : (Nat.beq kd (fkd ci k) && (Nat.beq of (fof ci k) && (Nat.blt ci 100 && Nat.blt k 1000))) = true := h1
      have h4 : ∀ v, (bif Nat.beq kd 4 then some (ci * 1000 + k) else none) = some v → clV9 dirty okg okp v = true := h2
      show (Nat.beq kd (fkd ci k) && (Nat.beq of (fof ci k) && (!Nat.beq kd 4 || okg ci k))) = true
      rw [Bool.and_eq_true, Bool.and_eq_true, Bool.and_eq_true] at h3
      rw [h3.1, h3.2.1]
      cases q : Nat.beq kd 4 with
      | false => rfl
      | true =>
        rw [q] at h4
        have := clV9_g (blt9 h3.2.2.1) (blt9 h3.2.2.2) (h4 _ rfl)
        rw [this]; rfl
    · rfl
  | putfield _ =>
    rcases ax with _ | ⟨ci, _ | ⟨k, _ | ⟨kd, _ | ⟨of, _ | ⟨x, r⟩⟩⟩⟩⟩
    · rfl
    · rfl
    · rfl
    · rfl
    · have h3 : (Nat.beq kd (fkd ci k) && (Nat.ble kd 3 && (Nat.blt ci 100 && Nat.blt k 1000))) = true := h1
      have h4 : ∀ v, (bif Nat.beq kd 3 then none else some (1000000 + (ci * 1000 + k))) = some v → clV9 dirty okg okp v = true := h2
      show (Nat.beq kd (fkd ci k) && (Nat.ble kd 3 && (Nat.blt ci 100 && (Nat.beq kd 3 || okp ci k)))) = true
      rw [Bool.and_eq_true, Bool.and_eq_true, Bool.and_eq_true] at h3
      rw [h3.1, h3.2.1, h3.2.2.1]
      cases q : Nat.beq kd 3 with
      | true => rfl
      | false =>
        rw [q] at h4
        have := clV9_p (blt9 h3.2.2.1) (blt9 h3.2.2.2) (h4 _ rfl)
        rw [this]; rfl
    · rfl
  | invokevirtual _ =>
    rcases ax with _ | ⟨a1, _ | ⟨mi, _ | ⟨a3, _ | ⟨a4, _ | ⟨a5, _ | ⟨a6, _ | ⟨a7, _ | ⟨kr, _ | ⟨x, r⟩⟩⟩⟩⟩⟩⟩⟩⟩
    · rfl
    · rfl
    · rfl
    · rfl
    · rfl
    · rfl
    · rfl
    · rfl
    · have h3 : Nat.beq kr (qKr (mQ mi)) = true := h1
      show (!dirty.elem mi && Nat.beq kr (qKr (mQ mi))) = true
      rw [h3, clV9_c (h2 _ rfl)]; rfl
    · rfl
  | invokestatic _ =>
    rcases ax with _ | ⟨a1, _ | ⟨mi, _ | ⟨a3, _ | ⟨a4, _ | ⟨a5, _ | ⟨a6, _ | ⟨a7, _ | ⟨kr, _ | ⟨x, r⟩⟩⟩⟩⟩⟩⟩⟩⟩
    · rfl
    · rfl
    · rfl
    · rfl
    · rfl
    · rfl
    · rfl
    · rfl
    · have h3 : Nat.beq kr (qKr (mQ mi)) = true := h1
      show (!dirty.elem mi && Nat.beq kr (qKr (mQ mi))) = true
      rw [h3, clV9_c (h2 _ rfl)]; rfl
    · rfl
  | invokespecial _ =>
    rcases ax with _ | ⟨a1, _ | ⟨mi, _ | ⟨a3, _ | ⟨a4, _ | ⟨a5, _ | ⟨a6, _ | ⟨a7, _ | ⟨kr, _ | ⟨x, r⟩⟩⟩⟩⟩⟩⟩⟩⟩
    · rfl
    · rfl
    · rfl
    · rfl
    · rfl
    · rfl
    · rfl
    · rfl
    · have h3 : Nat.beq kr (qKr (mQ mi)) = true := h1
      show (!dirty.elem mi && Nat.beq kr (qKr (mQ mi))) = true
      rw [h3, clV9_c (h2 _ rfl)]; rfl
    · rfl
  | _ => rfl
end PT3x5
