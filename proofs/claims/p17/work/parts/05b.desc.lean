/-! a method's descriptor, once -/
noncomputable def okP9 (q : Mt) : Prop := q.2.1.cls ≠ "java/lang/invoke/MethodHandle" ∧ q.2.1.cls ≠ "java/lang/invoke/VarHandle" ∧ (parseMethodDescriptor q.2.1.desc).map (fun d => d.parameters.length) = some (qNa q - qIns q)
noncomputable def dsT9 : List (String × Nat) := [("()V", 0), ("(LBreadScribes$Bakery;)V", 1), ("(I)Z", 1), ("(JII)I", 3), ("(J)I", 1), ("()I", 0), ("()J", 0), ("(I)J", 1), ("(I)I", 1), ("(III)I", 3), ("(IIII)I", 4), ("(II)I", 2), ("(LBreadScribes$Bakery;LBreadScribes$Reader;)Z", 2), ("(LBreadScribes$Reader;)I", 1), ("(LBreadScribes$Days;)V", 1), ("(IIII)Z", 4), ("(II)V", 2), ("(LBreadScribes$Days;LBreadScribes$Bakery;LBreadScribes$Reader;)Z", 3), ("(LBreadScribes$Days;LBreadScribes$Reader;)Z", 2), ("(LBreadScribes$Days;LBreadScribes$Bakery;ILBreadScribes$Reader;)Z", 4), ("(LBreadScribes$Bakery;LBreadScribes$Reader;)I", 2), ("(LBreadScribes$Bakery;LBreadScribes$Days;I)V", 3), ("(LBreadScribes$Days;I)I", 2), ("(LBreadScribes$Bakery;LBreadScribes$Days;I)I", 3), ("(LBreadScribes$Bakery;LBreadScribes$Days;I)Z", 3), ("(JIJ)Z", 3), ("(LBreadScribes$Bakery;)Z", 1), ("(LBreadScribes$Bakery;III)Z", 4), ("(LBreadScribes$Bakery;II)Z", 3), ("(LBreadScribes$Bakery;I)Z", 2), ("(II)Z", 2), ("(I)V", 1), ("()Z", 0), ("(IJ)Z", 2), ("(IJI)V", 3), ("(LBreadScribes$Rows;IIJ)Z", 4), ("(IIJ)Z", 3), ("(LBreadScribes$Tray;IIJ)V", 4), ("(LBreadScribes$Tray;IIIJ)I", 5), ("(IJ)J", 2), ("(IJ)V", 2), ("(III)Z", 3), ("(II)J", 2), ("(IIIII)Z", 5), ("(IIIII)I", 5), ("(IZ)Z", 2), ("(IIIIII)I", 6), ("(Z)I", 1), ("(ZI)I", 2), ("(JJ)Z", 2), ("(JJ)J", 2), ("(III)J", 3), ("(JJJ)Z", 3), ("(IIIII)J", 5), ("(J)Z", 1), ("(Z)V", 1), ("(ZII)I", 3), ("(Z)Z", 1), ("(IIIIJI)V", 6), ("(IIJI)Z", 4), ("(IIIIJ)Z", 5), ("(IIIJ)V", 4), ("(IIIJ)J", 4), ("([JJ)V", 2), ("([II)V", 2)]
noncomputable def dsI9 : List Nat := [0, 0, 1, 2, 3, 4, 5, 5, 6, 7, 6, 7, 5, 8, 8, 9, 10, 11, 11, 11, 0, 12, 12, 12, 12, 12, 13, 0, 0, 14, 15, 16, 0, 17, 18, 17, 19, 18, 17, 20, 0, 21, 22, 23, 24, 25, 24, 26, 27, 28, 28, 29, 8, 0, 30, 31, 16, 30, 0, 2, 31, 31, 0, 0, 0, 30, 32, 2, 32, 2, 32, 5, 11, 6, 0, 16, 33, 33, 34, 33, 2, 8, 35, 36, 2, 0, 37, 38, 0, 31, 31, 5, 8, 39, 0, 32, 16, 30, 40, 0, 5, 6, 6, 41, 36, 42, 43, 44, 8, 8, 8, 8, 8, 11, 2, 2, 32, 11, 8, 9, 11, 11, 11, 41, 11, 45, 2, 11, 9, 9, 15, 9, 9, 9, 10, 46, 8, 11, 8, 11, 8, 8, 15, 30, 8, 8, 30, 5, 5, 8, 2, 8, 32, 47, 48, 49, 8, 11, 11, 10, 2, 2, 30, 2, 2, 8, 30, 42, 50, 42, 42, 51, 0, 5, 6, 6, 8, 2, 52, 49, 39, 41, 8, 11, 36, 42, 43, 42, 2, 30, 8, 8, 2, 2, 2, 0, 2, 53, 54, 32, 32, 32, 32, 32, 32, 32, 32, 5, 5, 32, 32, 32, 16, 0, 55, 16, 11, 56, 57, 5, 44, 31, 30, 32, 8, 31, 8, 8, 0, 0, 0, 0, 0, 8, 31, 31, 31, 8, 2, 2, 7, 42, 30, 7, 7, 5, 5, 5, 8, 8, 11, 2, 2, 32, 11, 30, 41, 41, 9, 30, 11, 2, 8, 30, 11, 30, 11, 41, 11, 45, 2, 58, 59, 3, 8, 11, 9, 9, 15, 9, 4, 9, 9, 10, 60, 61, 10, 46, 30, 31, 8, 8, 11, 8, 8, 11, 2, 8, 8, 8, 62, 42, 15, 30, 8, 30, 2, 32, 2, 2, 31, 16, 31, 8, 8, 30, 16, 5, 5, 8, 63, 64]
noncomputable def okD9 (q : Mt) : Bool := dsT9.any (fun p => decide (q.2.1.desc = p.1) && Nat.beq p.2 (qNa q - qIns q)) && decide (q.2.1.cls ≠ "java/lang/invoke/MethodHandle" ∧ q.2.1.cls ≠ "java/lang/invoke/VarHandle")
theorem dsT9_ok : dsT9.all (fun p => decide ((parseMethodDescriptor p.1).map (fun d => d.parameters.length) = some p.2)) = true := by decide +kernel
theorem okD9_s {q : Mt} (h : okD9 q = true) : okP9 q := by
  unfold okD9 at h
  have hA := and_l9 h
  have hc := of_decide_eq_true (and_r9 h)
  obtain ⟨p, hp, h1⟩ := List.any_eq_true.mp hA
  have h2 : q.2.1.desc = p.1 := of_decide_eq_true (and_l9 h1)
  have h3 : p.2 = qNa q - qIns q := Nat.eq_of_beq_eq_true (and_r9 h1)
  have e : (parseMethodDescriptor p.1).map (fun d => d.parameters.length) = some p.2 := of_decide_eq_true (List.all_eq_true.mp dsT9_ok p hp)
  unfold okP9
  rw [h2, ← h3]
  exact ⟨hc.1, hc.2, e⟩
noncomputable def okI9 (q : Mt) (k : Nat) : Bool := match dsT9[k]? with
  | some p => decide (q.2.1.desc = p.1) && Nat.beq p.2 (qNa q - qIns q)
  | none => false
theorem okI9_s {q : Mt} {k : Nat} (h : okI9 q k = true) : dsT9.any (fun p => decide (q.2.1.desc = p.1) && Nat.beq p.2 (qNa q - qIns q)) = true := by
  unfold okI9 at h
  cases hk : dsT9[k]? with
  | none => rw [hk] at h; exact absurd h Bool.false_ne_true
  | some p => rw [hk] at h; exact List.any_eq_true.mpr ⟨p, List.mem_of_getElem? hk, h⟩
set_option maxRecDepth 100000 in
theorem okI9_all : ∀ mi, mi < nMth → (okI9 (mQ mi) (dsI9.getD mi 0) && decide ((mQ mi).2.1.cls ≠ "java/lang/invoke/MethodHandle" ∧ (mQ mi).2.1.cls ≠ "java/lang/invoke/VarHandle")) = true := by decide +kernel
theorem okD9_all (mi : Nat) (h : mi < nMth) : okD9 (mQ mi) = true := by
  have h1 := okI9_all mi h
  unfold okD9
  rw [Bool.and_eq_true]
  exact ⟨okI9_s (and_l9 h1), and_r9 h1⟩
