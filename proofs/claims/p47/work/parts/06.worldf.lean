section PT1x1
section SND
variable {p : Program} {l : Launch} {e : Env} {rm : Room} {s : State} {m : MethodId} {args : Array Value} {below : List Frame} {meth : Method} {c : Code} {Qw : State → Prop}
variable {own : String} {cc : ByteArray} {nL ini : Nat} {Ts : List Cond} {D : va_G} {ca : Nat → ClassId} {h0 b n0 nend L : Nat} {A : Nat → Prop} {ph isl : Bool} {xs : Nat → Int32}
theorem fpt0 {n : Nat} {ph : Bool} {ci k of : Nat} {st : List Value} {I : Im} {J : Jm} {R : Rm} {K : List Value → Im → Jm → Rm → Prop} (h : fpt n ph ci k 0 of st I J R K) : sRI st fun o x r => bif isO n o ci then K r (uI I o k x) J R else False := h
theorem fpt1 {n : Nat} {ph : Bool} {ci k of : Nat} {st : List Value} {I : Im} {J : Jm} {R : Rm} {K : List Value → Im → Jm → Rm → Prop} (h : fpt n ph ci k 1 of st I J R K) : sRI st fun o x r => bif isO n o ci then (x = 0 ∨ x = 1) ∧ K r (uI I o k x) J R else False := h
theorem fpt2 {n : Nat} {ph : Bool} {ci k of : Nat} {st : List Value} {I : Im} {J : Jm} {R : Rm} {K : List Value → Im → Jm → Rm → Prop} (h : fpt n ph ci k 2 of st I J R K) : sRL st fun o x r => bif isO n o ci then K r I (uJ J o k x) R else False := h
theorem fpt3 {n : Nat} {ph : Bool} {ci k of : Nat} {st : List Value} {I : Im} {J : Jm} {R : Rm} {K : List Value → Im → Jm → Rm → Prop} (h : fpt n ph ci k 3 of st I J R K) : sRR st fun o v r => bif isO n o ci then ¬ v = 0 ∧ K r I J (uR R o k v) else False := h
theorem fpt4 {n : Nat} {ph : Bool} {ci k of : Nat} {st : List Value} {I : Im} {J : Jm} {R : Rm} {K : List Value → Im → Jm → Rm → Prop} (h : fpt n ph ci k 4 of st I J R K) : sRR st fun o v r => bif isO n o ci then (bif ph then False else (bif Nat.beq v (o + of) then K r I J (uR R o k v) else False)) else False := h
theorem fpt5 {n : Nat} {ph : Bool} {ci k kd of : Nat} {st : List Value} {I : Im} {J : Jm} {R : Rm} {K : List Value → Im → Jm → Rm → Prop} (h : fpt n ph ci k (kd + 5) of st I J R K) : False := h
set_option maxHeartbeats 4000000 in
theorem put_ok (C : Ctx p rm s m args meth c own cc nL ini Ts D ca h0 b n0 nend L A isl xs) {pc i n ci k kd of : Nat} {lv : Lv} {st : List Value} {I : Im} {J : Jm} {R : Rm} (hdg : decode cc pc = .ok (.putfield i, 3)) (hw : Cond.fieldLink own i (clT ci k).1 (clT ci k).2.1 (clT ci k).2.2.1 ∈ wsG) (hci : ci < 13) (hk : k < clN ci) 
    (hty : (match kd with
      | 0 => decide (clY ci k = .int ∧ (clT ci k).2.2.2 = false)
      | 1 => decide (clY ci k = .boolean ∧ (clT ci k).2.2.2 = false)
      | 2 => decide (clY ci k = .long ∧ (clT ci k).2.2.2 = false)
      | 3 => isRefTy (clY ci k) && decide ((clT ci k).2.2.2 = false)
      | _ => isRefTy (clY ci k) && (decide ((clT ci k).2.2.2 = true ∧ (clT ci k).1 = own) && Nat.beq ini 1)) = true) (hkd : kd = fkd ci k) (hof : of = fof ci k)
    (h : fpt n ph ci k kd of st I J R (fun r I J R => PW p l e rm s m args below meth c Qw nL D ca h0 b n0 A ph (pc + 3) n lv r I J R)) : PW p l e rm s m args below meth c Qw nL D ca h0 b n0 A ph pc n lv st I J R := by
  intro H locs ls hn hph hP hS hl
  have rN : ∀ (ty : FieldType) (a : Nat), isRefTy ty = true → narrow ty (.ref a) = .ref a ∧ fits ty (.ref a) = true := by
    intro ty a hq
    cases ty <;> first | exact ⟨rfl, rfl⟩ | cases hq
  rcases kd with _ | _ | _ | _ | kd
  · have hty := of_decide_eq_true hty
    replace h := fpt0 h
    unfold sRI at h
    split at h
    · rename_i x o r
      cases ho : isO n o ci with
      | false => rw [ho] at h; exact h.elim
      | true =>
        rw [ho] at h
        exact fput C hdg hw hci hk (Or.inl hty.2) (by rw [hty.1]; rfl) (by rw [hty.1]; rfl) ho (fst_I (Or.inl hkd.symm)) (fun a ha => uI_ne ha) (fun _ _ => rfl) (fun _ _ => rfl) (fun _ q => q) h hn hph hP hS hl
    · exact h.elim
  · have hty := of_decide_eq_true hty
    replace h := fpt1 h
    unfold sRI at h
    split at h
    · rename_i x o r
      cases ho : isO n o ci with
      | false => rw [ho] at h; exact h.elim
      | true =>
        rw [ho] at h
        obtain ⟨hx01, h⟩ := h
        exact fput C hdg hw hci hk (Or.inl hty.2) (by rw [hty.1]; rcases hx01 with rfl | rfl <;> rfl) (by rw [hty.1]; rcases hx01 with rfl | rfl <;> rfl) ho (fst_I (Or.inr hkd.symm)) (fun a ha => uI_ne ha) (fun _ _ => rfl) (fun _ _ => rfl) (fun _ q => q) h hn hph hP hS hl
    · exact h.elim
  · have hty := of_decide_eq_true hty
    replace h := fpt2 h
    unfold sRL at h
    split at h
    · rename_i x o r
      cases ho : isO n o ci with
      | false => rw [ho] at h; exact h.elim
      | true =>
        rw [ho] at h
        exact fput C hdg hw hci hk (Or.inl hty.2) (by rw [hty.1]; rfl) (by rw [hty.1]; rfl) ho (fst_J hkd.symm) (fun _ _ => rfl) (fun a ha => uJ_ne ha) (fun _ _ => rfl) (fun _ q => q) h hn hph hP hS hl
    · exact h.elim
  · simp only [Bool.and_eq_true, decide_eq_true_eq] at hty
    replace h := fpt3 h
    unfold sRR at h
    split at h
    · rename_i v o r
      cases ho : isO n o ci with
      | false => rw [ho] at h; exact h.elim
      | true =>
        rw [ho] at h
        obtain ⟨hv0, h⟩ := h
        exact fput C hdg hw hci hk (Or.inl hty.2) (rN _ _ hty.1).1 (rN _ _ hty.1).2 ho (fst_R (Or.inl ⟨hkd.symm, rfl⟩) hv0) (fun _ _ => rfl) (fun _ _ => rfl) (fun a ha => uR_ne ha) (fun _ q => Fl_up q hv0) h hn hph hP hS hl
    · exact h.elim
  · rcases kd with _ | kd
    · have hty : (isRefTy (clY ci k) && (decide ((clT ci k).2.2.2 = true ∧ (clT ci k).1 = own) && Nat.beq ini 1)) = true := hty
      simp only [Bool.and_eq_true, decide_eq_true_eq] at hty
      replace h := fpt4 h
      unfold sRR at h
      split at h
      · rename_i v o r
        cases ho : isO n o ci with
        | false => rw [ho] at h; exact h.elim
        | true =>
          rw [ho] at h
          cases hph1 : ph with
          | true => rw [hph1] at h; exact h.elim
          | false =>
            rw [hph1] at h
            cases hvo : Nat.beq v (o + of) with
            | false => rw [hvo] at h; exact h.elim
            | true =>
              rw [hvo] at h
              have hv1 := Nat.eq_of_beq_eq_true hvo
              have ho1 := (isO_spec ho).1
              subst hph1
              exact fput C hdg hw hci hk (Or.inr ⟨hty.2.1.1, hty.2.1.2, Nat.eq_of_beq_eq_true hty.2.2⟩) (rN _ _ hty.1).1 (rN _ _ hty.1).2 ho (fst_R (Or.inr ⟨hkd.symm, by rw [hv1, hof]⟩) (by omega)) (fun _ _ => rfl) (fun _ _ => rfl) (fun a ha => uR_ne ha) (fun q => by cases q) h hn (fun q => by cases q) hP hS hl
      · exact h.elim
    · exact (fpt5 h).elim
end SND
end PT1x1
