/-! the tables' words by their places, a list at a time -/
noncomputable def tbC : Nat → List Cond
  | 0 => tables_1_1
  | 1 => tables_1_2
  | 2 => tables_1_3
  | 3 => tables_1_4
  | 4 => tables_1_5
  | 5 => tables_1_6
  | 6 => tables_1_7
  | 7 => tables_1_8
  | 8 => tables_1_9
  | _ => []
theorem tbC_sub : ∀ (c : Nat) (w : Cond), w ∈ tbC c → w ∈ tables_1
  | 0, _, h => (List.mem_append_left _ h)
  | 1, _, h => List.mem_append_right _ ((List.mem_append_left _ h))
  | 2, _, h => List.mem_append_right _ (List.mem_append_right _ ((List.mem_append_left _ h)))
  | 3, _, h => List.mem_append_right _ (List.mem_append_right _ (List.mem_append_right _ ((List.mem_append_left _ h))))
  | 4, _, h => List.mem_append_right _ (List.mem_append_right _ (List.mem_append_right _ (List.mem_append_right _ ((List.mem_append_left _ h)))))
  | 5, _, h => List.mem_append_right _ (List.mem_append_right _ (List.mem_append_right _ (List.mem_append_right _ (List.mem_append_right _ ((List.mem_append_left _ h))))))
  | 6, _, h => List.mem_append_right _ (List.mem_append_right _ (List.mem_append_right _ (List.mem_append_right _ (List.mem_append_right _ (List.mem_append_right _ ((List.mem_append_left _ h)))))))
  | 7, _, h => List.mem_append_right _ (List.mem_append_right _ (List.mem_append_right _ (List.mem_append_right _ (List.mem_append_right _ (List.mem_append_right _ (List.mem_append_right _ ((List.mem_append_left _ h))))))))
  | 8, _, h => List.mem_append_right _ (List.mem_append_right _ (List.mem_append_right _ (List.mem_append_right _ (List.mem_append_right _ (List.mem_append_right _ (List.mem_append_right _ (List.mem_append_right _ (h))))))))
  | _ + 9, _, h => absurd h List.not_mem_nil
theorem tb_in {w : Cond} (c j : Nat) (h : (tbC c)[j]? = some w) : w ∈ tables_1 := tbC_sub c w (List.mem_of_getElem? h)
theorem and_l9 {a b : Bool} (h : (a && b) = true) : a = true := by
  cases a with
  | true => rfl
  | false => exact h
theorem and_r9 {a b : Bool} (h : (a && b) = true) : b = true := by
  cases a with
  | true => exact h
  | false => exact absurd (show false = true from h) Bool.false_ne_true
-- ===== PART A: goes FIRST, ahead of the names: the tables' words, and 'selects' of the private methods out of them =====
/-- a private method of a class that the tables say can be made, by its rows of tables_1 -/
noncomputable def lw_okq (q : MethodName × Nat) : Prop := (q.1.cls ≠ "java/lang/invoke/MethodHandle" ∧ q.1.cls ≠ "java/lang/invoke/VarHandle") ∧ Cond.instantiable q.1.cls q.2 ∈ tables_1 ∧ Cond.privateMethod q.1 ∈ tables_1 ∧ Cond.instanceMethod q.1 ∈ tables_1
noncomputable def lw9 (q : MethodName × Nat) (a b c : Nat × Nat) : Bool := decide (q.1.cls ≠ "java/lang/invoke/MethodHandle" ∧ q.1.cls ≠ "java/lang/invoke/VarHandle") && (decide ((tbC a.1)[a.2]? = some (Cond.instantiable q.1.cls q.2)) && (decide ((tbC b.1)[b.2]? = some (Cond.privateMethod q.1)) && decide ((tbC c.1)[c.2]? = some (Cond.instanceMethod q.1))))
theorem lw9_ok {q : MethodName × Nat} {a b c : Nat × Nat} (h : lw9 q a b c = true) : lw_okq q := by
  unfold lw9 at h
  have h1 := and_r9 h
  have h2 := and_r9 h1
  exact ⟨of_decide_eq_true (and_l9 h), tb_in _ _ (of_decide_eq_true (and_l9 h1)), tb_in _ _ (of_decide_eq_true (and_l9 h2)), tb_in _ _ (of_decide_eq_true (and_r9 h2))⟩
set_option maxRecDepth 100000 in
theorem lw9_all : (lw9 (⟨"BreadScribes", "deny", "(I)Z"⟩, 20) (0, 23) (2, 21) (2, 22) && (lw9 (⟨"BreadScribes", "allow", "()Z"⟩, 20) (0, 23) (2, 32) (2, 33) && (lw9 (⟨"BreadScribes", "placeStatus", "(II)I"⟩, 20) (0, 23) (2, 40) (2, 41) && (lw9 (⟨"BreadScribes", "trayStatus", "(I)I"⟩, 20) (0, 23) (2, 44) (2, 45) && (lw9 (⟨"BreadScribes", "refuse", "(I)I"⟩, 20) (0, 23) (2, 65) (2, 66) && (lw9 (⟨"BreadScribes$Reader", "advance", "()V"⟩, 14) (0, 33) (2, 103) (2, 104) && (lw9 (⟨"BreadScribes$Reader", "readWord", "()V"⟩, 14) (0, 33) (2, 107) (2, 108) && (lw9 (⟨"BreadScribes$Reader", "readNumber", "()V"⟩, 14) (0, 33) (2, 111) (2, 112) && (lw9 (⟨"BreadScribes$BakeryReader", "readOdds", "(LBreadScribes$Bakery;LBreadScribes$Reader;)Z"⟩, 3) (0, 143) (2, 126) (2, 127) && (lw9 (⟨"BreadScribes$Reader", "wrong", "(II)Z"⟩, 14) (0, 33) (2, 138) (2, 139) && (lw9 (⟨"BreadScribes$BakeryReader", "readStore", "(LBreadScribes$Bakery;LBreadScribes$Reader;)Z"⟩, 3) (0, 143) (2, 156) (2, 157) && (lw9 (⟨"BreadScribes$BakeryReader", "readKnown", "(LBreadScribes$Bakery;LBreadScribes$Reader;)Z"⟩, 3) (0, 143) (2, 195) (2, 196) && (lw9 (⟨"BreadScribes", "answer", "(I)I"⟩, 20) (0, 23) (2, 204) (2, 205) && (lw9 (⟨"BreadScribes$DaysReader", "readEnd", "(LBreadScribes$Days;LBreadScribes$Reader;)Z"⟩, 2) (0, 159) (2, 217) (2, 218) && (lw9 (⟨"BreadScribes$DaysReader", "readStep", "(LBreadScribes$Days;LBreadScribes$Bakery;LBreadScribes$Reader;)Z"⟩, 2) (0, 159) (2, 232) (2, 233) && (lw9 (⟨"BreadScribes", "tell", "(JJ)Z"⟩, 20) (0, 23) (3, 71) (3, 72) && (lw9 (⟨"BreadScribes", "placesStatus", "(II)I"⟩, 20) (0, 23) (3, 98) (3, 99) && (lw9 (⟨"BreadScribes$Bakery", "stockAfterCut", "(IIII)I"⟩, 9) (0, 173) (3, 119) (3, 120) && (lw9 (⟨"BreadScribes$Rows", "begin", "(II)V"⟩, 8) (1, 28) (3, 179) (3, 180) && (lw9 (⟨"BreadScribes$Rows", "seekRowsOf", "(IJ)Z"⟩, 8) (1, 28) (3, 184) (3, 185) && (lw9 (⟨"BreadScribes$Rows", "putLast", "(IIJ)Z"⟩, 8) (1, 28) (3, 191) (3, 192) && (lw9 (⟨"BreadScribes$Rows", "meet", "(I)Z"⟩, 8) (1, 28) (3, 198) (3, 199) && (lw9 (⟨"BreadScribes", "answerSize", "(Z)I"⟩, 20) (0, 23) (3, 205) (3, 206) && (lw9 (⟨"BreadScribes", "answerSlice", "(ZI)I"⟩, 20) (0, 23) (3, 213) (3, 214) && (lw9 (⟨"BreadScribes", "slipStatus", "(IIII)I"⟩, 20) (0, 23) (4, 25) (4, 26) && (lw9 (⟨"BreadScribes$Reach", "countSteps", "(I)V"⟩, 3) (1, 82) (4, 54) (4, 55) && (lw9 (⟨"BreadScribes$Reach", "follow", "(II)V"⟩, 3) (1, 82) (4, 63) (4, 64) && (lw9 (⟨"BreadScribes$Sums", "addSlice", "(I)V"⟩, 4) (1, 100) (4, 97) (4, 98) && (lw9 (⟨"BreadScribes$Sums", "winningPlace", "(I)I"⟩, 4) (1, 100) (4, 107) (4, 108) && (lw9 (⟨"BreadScribes$Life", "behindEnd", "(LBreadScribes$Days;I)I"⟩, 9) (1, 121) (4, 143) (4, 144) && (lw9 (⟨"BreadScribes$Life", "behindStep", "(LBreadScribes$Bakery;LBreadScribes$Days;I)I"⟩, 9) (1, 121) (4, 147) (4, 148) && (lw9 (⟨"BreadScribes$Life", "doAny", "(LBreadScribes$Bakery;)Z"⟩, 9) (1, 121) (4, 161) (4, 162) && (lw9 (⟨"BreadScribes$Life", "draw", "(I)I"⟩, 9) (1, 121) (4, 165) (4, 166) && (lw9 (⟨"BreadScribes$Life", "splitUp", "(LBreadScribes$Bakery;II)Z"⟩, 9) (1, 121) (4, 170) (4, 171) && (lw9 (⟨"BreadScribes$Life", "handOver", "(LBreadScribes$Bakery;II)Z"⟩, 9) (1, 121) (4, 175) (4, 176) && (lw9 (⟨"BreadScribes$Life", "act", "(LBreadScribes$Bakery;LBreadScribes$Days;I)Z"⟩, 9) (1, 121) (4, 180) (4, 181) && (lw9 (⟨"BreadScribes$Life", "cutUp", "(LBreadScribes$Bakery;III)Z"⟩, 9) (1, 121) (4, 184) (4, 185) && (lw9 (⟨"BreadScribes$Life", "addLoaves", "(LBreadScribes$Bakery;I)Z"⟩, 9) (1, 121) (4, 190) (4, 191) && (lw9 (⟨"BreadScribesModel", "empties", "(I)V"⟩, 49) (4, 225) (4, 231) (4, 232) && (lw9 (⟨"BreadScribesModel", "no", "(I)Z"⟩, 49) (4, 225) (5, 160) (5, 161) && (lw9 (⟨"BreadScribesModel", "placed", "(II)I"⟩, 49) (4, 225) (5, 168) (5, 169) && (lw9 (⟨"BreadScribesModel", "trayed", "(I)I"⟩, 49) (4, 225) (5, 172) (5, 173) && (lw9 (⟨"BreadScribesModel", "lay", "(I)V"⟩, 49) (4, 225) (5, 192) (5, 193) && (lw9 (⟨"BreadScribesModel", "starts", "(II)Z"⟩, 49) (4, 225) (5, 204) (5, 205) && (lw9 (⟨"BreadScribesModel", "advance", "()V"⟩, 49) (4, 225) (5, 208) (5, 209) && (lw9 (⟨"BreadScribesModel", "look2", "(I)I"⟩, 49) (4, 225) (5, 212) (5, 213) && (lw9 (⟨"BreadScribesModel", "isSignByte", "(I)Z"⟩, 49) (4, 225) (5, 224) (5, 225) && (lw9 (⟨"BreadScribesModel", "readPart", "()V"⟩, 49) (4, 225) (5, 228) (5, 229) && (lw9 (⟨"BreadScribesModel", "isOdds", "()Z"⟩, 49) (4, 225) (5, 232) (5, 233) && (lw9 (⟨"BreadScribesModel", "isWord", "(J)Z"⟩, 49) (4, 225) (5, 239) (6, 0) && (lw9 (⟨"BreadScribesModel", "readOdds", "()V"⟩, 49) (4, 225) (6, 3) (6, 4) && (lw9 (⟨"BreadScribesModel", "fail", "(II)V"⟩, 49) (4, 225) (6, 7) (6, 8) && (lw9 (⟨"BreadScribesModel", "must", "(Z)V"⟩, 49) (4, 225) (6, 11) (6, 12) && (lw9 (⟨"BreadScribesModel", "amiss", "()V"⟩, 49) (4, 225) (6, 15) (6, 16) && (lw9 (⟨"BreadScribesModel", "count", "(II)I"⟩, 49) (4, 225) (6, 19) (6, 20) && (lw9 (⟨"BreadScribesModel", "mayBe", "(II)V"⟩, 49) (4, 225) (6, 23) (6, 24) && (lw9 (⟨"BreadScribesModel", "isStore", "()Z"⟩, 49) (4, 225) (6, 30) (6, 31) && (lw9 (⟨"BreadScribesModel", "readStore", "()V"⟩, 49) (4, 225) (6, 34) (6, 35) && (lw9 (⟨"BreadScribesModel", "isTimes", "()Z"⟩, 49) (4, 225) (6, 41) (6, 42) && (lw9 (⟨"BreadScribesModel", "perhaps", "(Z)Z"⟩, 49) (4, 225) (6, 45) (6, 46) && (lw9 (⟨"BreadScribesModel", "isMan", "()Z"⟩, 49) (4, 225) (6, 49) (6, 50) && (lw9 (⟨"BreadScribesModel", "readMan", "()V"⟩, 49) (4, 225) (6, 53) (6, 54) && (lw9 (⟨"BreadScribesModel", "isName", "()Z"⟩, 49) (4, 225) (6, 57) (6, 58) && (lw9 (⟨"BreadScribesModel", "isKept", "()Z"⟩, 49) (4, 225) (6, 61) (6, 62) && (lw9 (⟨"BreadScribesModel", "isDue", "()Z"⟩, 49) (4, 225) (6, 65) (6, 66) && (lw9 (⟨"BreadScribesModel", "isBy", "()Z"⟩, 49) (4, 225) (6, 69) (6, 70) && (lw9 (⟨"BreadScribesModel", "isHas", "()Z"⟩, 49) (4, 225) (6, 73) (6, 74) && (lw9 (⟨"BreadScribesModel", "isKnown", "()Z"⟩, 49) (4, 225) (6, 77) (6, 78) && (lw9 (⟨"BreadScribesModel", "stepWord", "()I"⟩, 49) (4, 225) (6, 81) (6, 82) && (lw9 (⟨"BreadScribesModel", "testWord", "()I"⟩, 49) (4, 225) (6, 85) (6, 86) && (lw9 (⟨"BreadScribesModel", "isEnd", "()Z"⟩, 49) (4, 225) (6, 89) (6, 90) && (lw9 (⟨"BreadScribesModel", "named", "(I)I"⟩, 49) (4, 225) (6, 93) (6, 94) && (lw9 (⟨"BreadScribesModel", "behindWord", "(ZII)I"⟩, 49) (4, 225) (6, 97) (6, 98) && (lw9 (⟨"BreadScribesModel", "readSlices", "()I"⟩, 49) (4, 225) (6, 101) (6, 102) && (lw9 (⟨"BreadScribesModel", "readKnown", "()V"⟩, 49) (4, 225) (6, 105) (6, 106) && (lw9 (⟨"BreadScribesModel", "isSign", "(I)Z"⟩, 49) (4, 225) (6, 109) (6, 110) && (lw9 (⟨"BreadScribesModel", "isWell", "()Z"⟩, 49) (4, 225) (6, 113) (6, 114) && (lw9 (⟨"BreadScribesModel", "copy", "(II)V"⟩, 49) (4, 225) (6, 117) (6, 118) && (lw9 (⟨"BreadScribesModel", "readStep", "(I)V"⟩, 49) (4, 225) (6, 125) (6, 126) && (lw9 (⟨"BreadScribesModel", "readRest", "(I)V"⟩, 49) (4, 225) (6, 129) (6, 130) && (lw9 (⟨"BreadScribesModel", "readTold", "(I)I"⟩, 49) (4, 225) (6, 133) (6, 134) && (lw9 (⟨"BreadScribesModel", "readTest", "(I)V"⟩, 49) (4, 225) (6, 138) (6, 139) && (lw9 (⟨"BreadScribesModel", "refuse", "(I)I"⟩, 49) (4, 225) (6, 147) (6, 148) && (lw9 (⟨"BreadScribesModel", "held", "()I"⟩, 49) (4, 225) (6, 151) (6, 152) && (lw9 (⟨"BreadScribesModel", "heldSet", "()I"⟩, 49) (4, 225) (6, 155) (6, 156) && (lw9 (⟨"BreadScribesModel", "evenOnes", "()I"⟩, 49) (4, 225) (6, 162) (6, 163) && (lw9 (⟨"BreadScribesModel", "lackOf", "(I)J"⟩, 49) (4, 225) (6, 166) (6, 167) && (lw9 (⟨"BreadScribesModel", "isManAt", "(I)Z"⟩, 49) (4, 225) (6, 192) (6, 193) && (lw9 (⟨"BreadScribesModel", "fraction", "(JJ)Z"⟩, 49) (4, 225) (6, 201) (6, 202) && (lw9 (⟨"BreadScribesModel", "isTray", "(I)Z"⟩, 49) (4, 225) (6, 218) (6, 219) && (lw9 (⟨"BreadScribesModel", "isOver", "(III)Z"⟩, 49) (4, 225) (6, 228) (6, 229) && (lw9 (⟨"BreadScribesModel", "cuts", "(III)Z"⟩, 49) (4, 225) (6, 232) (6, 233) && (lw9 (⟨"BreadScribesModel", "areMore", "(II)Z"⟩, 49) (4, 225) (7, 0) (7, 1) && (lw9 (⟨"BreadScribesModel", "splits", "(II)Z"⟩, 49) (4, 225) (7, 4) (7, 5) && (lw9 (⟨"BreadScribesModel", "bakes", "(I)Z"⟩, 49) (4, 225) (7, 13) (7, 14) && (lw9 (⟨"BreadScribesModel", "gives", "(II)Z"⟩, 49) (4, 225) (7, 21) (7, 22) && (lw9 (⟨"BreadScribesModel", "takes", "(II)Z"⟩, 49) (4, 225) (7, 29) (7, 30) && (lw9 (⟨"BreadScribesModel", "fewestOf", "(JII)I"⟩, 49) (4, 225) (7, 57) (7, 58) && (lw9 (⟨"BreadScribesModel", "laysRows", "(IIJI)Z"⟩, 49) (4, 225) (7, 61) (7, 62) && (lw9 (⟨"BreadScribesModel", "rows", "(IIIIJI)V"⟩, 49) (4, 225) (7, 65) (7, 66) && (lw9 (⟨"BreadScribesModel", "answer", "(I)I"⟩, 49) (4, 225) (7, 69) (7, 70) && (lw9 (⟨"BreadScribesModel", "kindestOf", "(J)I"⟩, 49) (4, 225) (7, 94) (7, 95) && (lw9 (⟨"BreadScribesModel", "whyNoRow", "(IIII)I"⟩, 49) (4, 225) (7, 107) (7, 108) && (lw9 (⟨"BreadScribesModel", "numberOf", "(II)J"⟩, 49) (4, 225) (7, 112) (7, 113) && (lw9 (⟨"BreadScribesModel", "laysSlips", "(IIIJ)V"⟩, 49) (4, 225) (7, 116) (7, 117) && (lw9 (⟨"BreadScribesModel", "isRow", "(IIIIJ)Z"⟩, 49) (4, 225) (7, 120) (7, 121) && (lw9 (⟨"BreadScribesModel", "reachFrom", "(I)I"⟩, 49) (4, 225) (7, 132) (7, 133) && (lw9 (⟨"BreadScribesModel", "laysReach", "(I)V"⟩, 49) (4, 225) (7, 136) (7, 137) && (lw9 (⟨"BreadScribesModel", "fillOf", "(I)I"⟩, 49) (4, 225) (7, 151) (7, 152) && (lw9 (⟨"BreadScribesModel", "plates", "(I)I"⟩, 49) (4, 225) (7, 167) (7, 168) && (lw9 (⟨"BreadScribesModel", "lucks", "(IIIJ)J"⟩, 49) (4, 225) (7, 180) (7, 181) && (lw9 (⟨"BreadScribesModel", "runsDays", "(I)V"⟩, 49) (4, 225) (7, 196) (7, 197) && (lw9 (⟨"BreadScribesModel", "doAll", "(II)V"⟩, 49) (4, 225) (7, 200) (7, 201) && (lw9 (⟨"BreadScribesModel", "doOne", "(I)V"⟩, 49) (4, 225) (7, 204) (7, 205) && (lw9 (⟨"BreadScribesModel", "does", "(I)Z"⟩, 49) (4, 225) (7, 208) (7, 209) && (lw9 (⟨"BreadScribesModel", "isGiven", "(II)Z"⟩, 49) (4, 225) (7, 212) (7, 213) && (lw9 (⟨"BreadScribesModel", "isBaked", "(I)Z"⟩, 49) (4, 225) (7, 216) (7, 217) && (lw9 (⟨"BreadScribesModel", "isAny", "()Z"⟩, 49) (4, 225) (7, 220) (7, 221) && (lw9 (⟨"BreadScribesModel", "draw", "(I)I"⟩, 49) (4, 225) (7, 224) (7, 225) && (lw9 (⟨"BreadScribesModel", "holds", "(I)Z"⟩, 49) (4, 225) (7, 229) (7, 230))))))))))))))))))))))))))))))))))))))))))))))))))))))))))))))))))))))))))))))))))))))))))))))))))))))))))))))))))))))))) = true := by decide +kernel
set_option maxRecDepth 100000 in
theorem lw_p0 : lw_okq (⟨"BreadScribes", "deny", "(I)Z"⟩, 20) := lw9_ok (and_l9 lw9_all)
set_option maxRecDepth 100000 in
theorem lw_p1 : lw_okq (⟨"BreadScribes", "allow", "()Z"⟩, 20) := lw9_ok (and_l9 (and_r9 lw9_all))
set_option maxRecDepth 100000 in
theorem lw_p2 : lw_okq (⟨"BreadScribes", "placeStatus", "(II)I"⟩, 20) := lw9_ok (and_l9 (and_r9 (and_r9 lw9_all)))
set_option maxRecDepth 100000 in
theorem lw_p3 : lw_okq (⟨"BreadScribes", "trayStatus", "(I)I"⟩, 20) := lw9_ok (and_l9 (and_r9 (and_r9 (and_r9 lw9_all))))
set_option maxRecDepth 100000 in
theorem lw_p4 : lw_okq (⟨"BreadScribes", "refuse", "(I)I"⟩, 20) := lw9_ok (and_l9 (and_r9 (and_r9 (and_r9 (and_r9 lw9_all)))))
set_option maxRecDepth 100000 in
theorem lw_p5 : lw_okq (⟨"BreadScribes$Reader", "advance", "()V"⟩, 14) := lw9_ok (and_l9 (and_r9 (and_r9 (and_r9 (and_r9 (and_r9 lw9_all))))))
set_option maxRecDepth 100000 in
theorem lw_p6 : lw_okq (⟨"BreadScribes$Reader", "readWord", "()V"⟩, 14) := lw9_ok (and_l9 (and_r9 (and_r9 (and_r9 (and_r9 (and_r9 (and_r9 lw9_all)))))))
set_option maxRecDepth 100000 in
theorem lw_p7 : lw_okq (⟨"BreadScribes$Reader", "readNumber", "()V"⟩, 14) := lw9_ok (and_l9 (and_r9 (and_r9 (and_r9 (and_r9 (and_r9 (and_r9 (and_r9 lw9_all))))))))
set_option maxRecDepth 100000 in
theorem lw_p8 : lw_okq (⟨"BreadScribes$BakeryReader", "readOdds", "(LBreadScribes$Bakery;LBreadScribes$Reader;)Z"⟩, 3) := lw9_ok (and_l9 (and_r9 (and_r9 (and_r9 (and_r9 (and_r9 (and_r9 (and_r9 (and_r9 lw9_all)))))))))
set_option maxRecDepth 100000 in
theorem lw_p9 : lw_okq (⟨"BreadScribes$Reader", "wrong", "(II)Z"⟩, 14) := lw9_ok (and_l9 (and_r9 (and_r9 (and_r9 (and_r9 (and_r9 (and_r9 (and_r9 (and_r9 (and_r9 lw9_all))))))))))
set_option maxRecDepth 100000 in
theorem lw_p10 : lw_okq (⟨"BreadScribes$BakeryReader", "readStore", "(LBreadScribes$Bakery;LBreadScribes$Reader;)Z"⟩, 3) := lw9_ok (and_l9 (and_r9 (and_r9 (and_r9 (and_r9 (and_r9 (and_r9 (and_r9 (and_r9 (and_r9 (and_r9 lw9_all)))))))))))
set_option maxRecDepth 100000 in
theorem lw_p11 : lw_okq (⟨"BreadScribes$BakeryReader", "readKnown", "(LBreadScribes$Bakery;LBreadScribes$Reader;)Z"⟩, 3) := lw9_ok (and_l9 (and_r9 (and_r9 (and_r9 (and_r9 (and_r9 (and_r9 (and_r9 (and_r9 (and_r9 (and_r9 (and_r9 lw9_all))))))))))))
set_option maxRecDepth 100000 in
theorem lw_p12 : lw_okq (⟨"BreadScribes", "answer", "(I)I"⟩, 20) := lw9_ok (and_l9 (and_r9 (and_r9 (and_r9 (and_r9 (and_r9 (and_r9 (and_r9 (and_r9 (and_r9 (and_r9 (and_r9 (and_r9 lw9_all)))))))))))))
set_option maxRecDepth 100000 in
theorem lw_p13 : lw_okq (⟨"BreadScribes$DaysReader", "readEnd", "(LBreadScribes$Days;LBreadScribes$Reader;)Z"⟩, 2) := lw9_ok (and_l9 (and_r9 (and_r9 (and_r9 (and_r9 (and_r9 (and_r9 (and_r9 (and_r9 (and_r9 (and_r9 (and_r9 (and_r9 (and_r9 lw9_all))))))))))))))
set_option maxRecDepth 100000 in
theorem lw_p14 : lw_okq (⟨"BreadScribes$DaysReader", "readStep", "(LBreadScribes$Days;LBreadScribes$Bakery;LBreadScribes$Reader;)Z"⟩, 2) := lw9_ok (and_l9 (and_r9 (and_r9 (and_r9 (and_r9 (and_r9 (and_r9 (and_r9 (and_r9 (and_r9 (and_r9 (and_r9 (and_r9 (and_r9 (and_r9 lw9_all)))))))))))))))
set_option maxRecDepth 100000 in
theorem lw_p15 : lw_okq (⟨"BreadScribes", "tell", "(JJ)Z"⟩, 20) := lw9_ok (and_l9 (and_r9 (and_r9 (and_r9 (and_r9 (and_r9 (and_r9 (and_r9 (and_r9 (and_r9 (and_r9 (and_r9 (and_r9 (and_r9 (and_r9 (and_r9 lw9_all))))))))))))))))
noncomputable def lw_privs_1 : List (MethodName × Nat) := [(⟨"BreadScribes", "deny", "(I)Z"⟩, 20), (⟨"BreadScribes", "allow", "()Z"⟩, 20), (⟨"BreadScribes", "placeStatus", "(II)I"⟩, 20), (⟨"BreadScribes", "trayStatus", "(I)I"⟩, 20), (⟨"BreadScribes", "refuse", "(I)I"⟩, 20), (⟨"BreadScribes$Reader", "advance", "()V"⟩, 14), (⟨"BreadScribes$Reader", "readWord", "()V"⟩, 14), (⟨"BreadScribes$Reader", "readNumber", "()V"⟩, 14), (⟨"BreadScribes$BakeryReader", "readOdds", "(LBreadScribes$Bakery;LBreadScribes$Reader;)Z"⟩, 3), (⟨"BreadScribes$Reader", "wrong", "(II)Z"⟩, 14), (⟨"BreadScribes$BakeryReader", "readStore", "(LBreadScribes$Bakery;LBreadScribes$Reader;)Z"⟩, 3), (⟨"BreadScribes$BakeryReader", "readKnown", "(LBreadScribes$Bakery;LBreadScribes$Reader;)Z"⟩, 3), (⟨"BreadScribes", "answer", "(I)I"⟩, 20), (⟨"BreadScribes$DaysReader", "readEnd", "(LBreadScribes$Days;LBreadScribes$Reader;)Z"⟩, 2), (⟨"BreadScribes$DaysReader", "readStep", "(LBreadScribes$Days;LBreadScribes$Bakery;LBreadScribes$Reader;)Z"⟩, 2), (⟨"BreadScribes", "tell", "(JJ)Z"⟩, 20)]
theorem lw_r1 : ∀ q ∈ lw_privs_1, lw_okq q := List.forall_mem_cons.mpr ⟨lw_p0, List.forall_mem_cons.mpr ⟨lw_p1, List.forall_mem_cons.mpr ⟨lw_p2, List.forall_mem_cons.mpr ⟨lw_p3, List.forall_mem_cons.mpr ⟨lw_p4, List.forall_mem_cons.mpr ⟨lw_p5, List.forall_mem_cons.mpr ⟨lw_p6, List.forall_mem_cons.mpr ⟨lw_p7, List.forall_mem_cons.mpr ⟨lw_p8, List.forall_mem_cons.mpr ⟨lw_p9, List.forall_mem_cons.mpr ⟨lw_p10, List.forall_mem_cons.mpr ⟨lw_p11, List.forall_mem_cons.mpr ⟨lw_p12, List.forall_mem_cons.mpr ⟨lw_p13, List.forall_mem_cons.mpr ⟨lw_p14, List.forall_mem_cons.mpr ⟨lw_p15, fun _ h => absurd h List.not_mem_nil⟩⟩⟩⟩⟩⟩⟩⟩⟩⟩⟩⟩⟩⟩⟩⟩
set_option maxRecDepth 100000 in
theorem lw_p16 : lw_okq (⟨"BreadScribes", "placesStatus", "(II)I"⟩, 20) := lw9_ok (and_l9 (and_r9 (and_r9 (and_r9 (and_r9 (and_r9 (and_r9 (and_r9 (and_r9 (and_r9 (and_r9 (and_r9 (and_r9 (and_r9 (and_r9 (and_r9 (and_r9 lw9_all)))))))))))))))))
set_option maxRecDepth 100000 in
theorem lw_p17 : lw_okq (⟨"BreadScribes$Bakery", "stockAfterCut", "(IIII)I"⟩, 9) := lw9_ok (and_l9 (and_r9 (and_r9 (and_r9 (and_r9 (and_r9 (and_r9 (and_r9 (and_r9 (and_r9 (and_r9 (and_r9 (and_r9 (and_r9 (and_r9 (and_r9 (and_r9 (and_r9 lw9_all))))))))))))))))))
set_option maxRecDepth 100000 in
theorem lw_p18 : lw_okq (⟨"BreadScribes$Rows", "begin", "(II)V"⟩, 8) := lw9_ok (and_l9 (and_r9 (and_r9 (and_r9 (and_r9 (and_r9 (and_r9 (and_r9 (and_r9 (and_r9 (and_r9 (and_r9 (and_r9 (and_r9 (and_r9 (and_r9 (and_r9 (and_r9 (and_r9 lw9_all)))))))))))))))))))
set_option maxRecDepth 100000 in
theorem lw_p19 : lw_okq (⟨"BreadScribes$Rows", "seekRowsOf", "(IJ)Z"⟩, 8) := lw9_ok (and_l9 (and_r9 (and_r9 (and_r9 (and_r9 (and_r9 (and_r9 (and_r9 (and_r9 (and_r9 (and_r9 (and_r9 (and_r9 (and_r9 (and_r9 (and_r9 (and_r9 (and_r9 (and_r9 (and_r9 lw9_all))))))))))))))))))))
set_option maxRecDepth 100000 in
theorem lw_p20 : lw_okq (⟨"BreadScribes$Rows", "putLast", "(IIJ)Z"⟩, 8) := lw9_ok (and_l9 (and_r9 (and_r9 (and_r9 (and_r9 (and_r9 (and_r9 (and_r9 (and_r9 (and_r9 (and_r9 (and_r9 (and_r9 (and_r9 (and_r9 (and_r9 (and_r9 (and_r9 (and_r9 (and_r9 (and_r9 lw9_all)))))))))))))))))))))
set_option maxRecDepth 100000 in
theorem lw_p21 : lw_okq (⟨"BreadScribes$Rows", "meet", "(I)Z"⟩, 8) := lw9_ok (and_l9 (and_r9 (and_r9 (and_r9 (and_r9 (and_r9 (and_r9 (and_r9 (and_r9 (and_r9 (and_r9 (and_r9 (and_r9 (and_r9 (and_r9 (and_r9 (and_r9 (and_r9 (and_r9 (and_r9 (and_r9 (and_r9 lw9_all))))))))))))))))))))))
set_option maxRecDepth 100000 in
theorem lw_p22 : lw_okq (⟨"BreadScribes", "answerSize", "(Z)I"⟩, 20) := lw9_ok (and_l9 (and_r9 (and_r9 (and_r9 (and_r9 (and_r9 (and_r9 (and_r9 (and_r9 (and_r9 (and_r9 (and_r9 (and_r9 (and_r9 (and_r9 (and_r9 (and_r9 (and_r9 (and_r9 (and_r9 (and_r9 (and_r9 (and_r9 lw9_all)))))))))))))))))))))))
set_option maxRecDepth 100000 in
theorem lw_p23 : lw_okq (⟨"BreadScribes", "answerSlice", "(ZI)I"⟩, 20) := lw9_ok (and_l9 (and_r9 (and_r9 (and_r9 (and_r9 (and_r9 (and_r9 (and_r9 (and_r9 (and_r9 (and_r9 (and_r9 (and_r9 (and_r9 (and_r9 (and_r9 (and_r9 (and_r9 (and_r9 (and_r9 (and_r9 (and_r9 (and_r9 (and_r9 lw9_all))))))))))))))))))))))))
set_option maxRecDepth 100000 in
theorem lw_p24 : lw_okq (⟨"BreadScribes", "slipStatus", "(IIII)I"⟩, 20) := lw9_ok (and_l9 (and_r9 (and_r9 (and_r9 (and_r9 (and_r9 (and_r9 (and_r9 (and_r9 (and_r9 (and_r9 (and_r9 (and_r9 (and_r9 (and_r9 (and_r9 (and_r9 (and_r9 (and_r9 (and_r9 (and_r9 (and_r9 (and_r9 (and_r9 (and_r9 lw9_all)))))))))))))))))))))))))
set_option maxRecDepth 100000 in
theorem lw_p25 : lw_okq (⟨"BreadScribes$Reach", "countSteps", "(I)V"⟩, 3) := lw9_ok (and_l9 (and_r9 (and_r9 (and_r9 (and_r9 (and_r9 (and_r9 (and_r9 (and_r9 (and_r9 (and_r9 (and_r9 (and_r9 (and_r9 (and_r9 (and_r9 (and_r9 (and_r9 (and_r9 (and_r9 (and_r9 (and_r9 (and_r9 (and_r9 (and_r9 (and_r9 lw9_all))))))))))))))))))))))))))
set_option maxRecDepth 100000 in
theorem lw_p26 : lw_okq (⟨"BreadScribes$Reach", "follow", "(II)V"⟩, 3) := lw9_ok (and_l9 (and_r9 (and_r9 (and_r9 (and_r9 (and_r9 (and_r9 (and_r9 (and_r9 (and_r9 (and_r9 (and_r9 (and_r9 (and_r9 (and_r9 (and_r9 (and_r9 (and_r9 (and_r9 (and_r9 (and_r9 (and_r9 (and_r9 (and_r9 (and_r9 (and_r9 (and_r9 lw9_all)))))))))))))))))))))))))))
set_option maxRecDepth 100000 in
theorem lw_p27 : lw_okq (⟨"BreadScribes$Sums", "addSlice", "(I)V"⟩, 4) := lw9_ok (and_l9 (and_r9 (and_r9 (and_r9 (and_r9 (and_r9 (and_r9 (and_r9 (and_r9 (and_r9 (and_r9 (and_r9 (and_r9 (and_r9 (and_r9 (and_r9 (and_r9 (and_r9 (and_r9 (and_r9 (and_r9 (and_r9 (and_r9 (and_r9 (and_r9 (and_r9 (and_r9 (and_r9 lw9_all))))))))))))))))))))))))))))
set_option maxRecDepth 100000 in
theorem lw_p28 : lw_okq (⟨"BreadScribes$Sums", "winningPlace", "(I)I"⟩, 4) := lw9_ok (and_l9 (and_r9 (and_r9 (and_r9 (and_r9 (and_r9 (and_r9 (and_r9 (and_r9 (and_r9 (and_r9 (and_r9 (and_r9 (and_r9 (and_r9 (and_r9 (and_r9 (and_r9 (and_r9 (and_r9 (and_r9 (and_r9 (and_r9 (and_r9 (and_r9 (and_r9 (and_r9 (and_r9 (and_r9 lw9_all)))))))))))))))))))))))))))))
set_option maxRecDepth 100000 in
theorem lw_p29 : lw_okq (⟨"BreadScribes$Life", "behindEnd", "(LBreadScribes$Days;I)I"⟩, 9) := lw9_ok (and_l9 (and_r9 (and_r9 (and_r9 (and_r9 (and_r9 (and_r9 (and_r9 (and_r9 (and_r9 (and_r9 (and_r9 (and_r9 (and_r9 (and_r9 (and_r9 (and_r9 (and_r9 (and_r9 (and_r9 (and_r9 (and_r9 (and_r9 (and_r9 (and_r9 (and_r9 (and_r9 (and_r9 (and_r9 (and_r9 lw9_all))))))))))))))))))))))))))))))
set_option maxRecDepth 100000 in
theorem lw_p30 : lw_okq (⟨"BreadScribes$Life", "behindStep", "(LBreadScribes$Bakery;LBreadScribes$Days;I)I"⟩, 9) := lw9_ok (and_l9 (and_r9 (and_r9 (and_r9 (and_r9 (and_r9 (and_r9 (and_r9 (and_r9 (and_r9 (and_r9 (and_r9 (and_r9 (and_r9 (and_r9 (and_r9 (and_r9 (and_r9 (and_r9 (and_r9 (and_r9 (and_r9 (and_r9 (and_r9 (and_r9 (and_r9 (and_r9 (and_r9 (and_r9 (and_r9 (and_r9 lw9_all)))))))))))))))))))))))))))))))
set_option maxRecDepth 100000 in
theorem lw_p31 : lw_okq (⟨"BreadScribes$Life", "doAny", "(LBreadScribes$Bakery;)Z"⟩, 9) := lw9_ok (and_l9 (and_r9 (and_r9 (and_r9 (and_r9 (and_r9 (and_r9 (and_r9 (and_r9 (and_r9 (and_r9 (and_r9 (and_r9 (and_r9 (and_r9 (and_r9 (and_r9 (and_r9 (and_r9 (and_r9 (and_r9 (and_r9 (and_r9 (and_r9 (and_r9 (and_r9 (and_r9 (and_r9 (and_r9 (and_r9 (and_r9 (and_r9 lw9_all))))))))))))))))))))))))))))))))
noncomputable def lw_privs_2 : List (MethodName × Nat) := [(⟨"BreadScribes", "placesStatus", "(II)I"⟩, 20), (⟨"BreadScribes$Bakery", "stockAfterCut", "(IIII)I"⟩, 9), (⟨"BreadScribes$Rows", "begin", "(II)V"⟩, 8), (⟨"BreadScribes$Rows", "seekRowsOf", "(IJ)Z"⟩, 8), (⟨"BreadScribes$Rows", "putLast", "(IIJ)Z"⟩, 8), (⟨"BreadScribes$Rows", "meet", "(I)Z"⟩, 8), (⟨"BreadScribes", "answerSize", "(Z)I"⟩, 20), (⟨"BreadScribes", "answerSlice", "(ZI)I"⟩, 20), (⟨"BreadScribes", "slipStatus", "(IIII)I"⟩, 20), (⟨"BreadScribes$Reach", "countSteps", "(I)V"⟩, 3), (⟨"BreadScribes$Reach", "follow", "(II)V"⟩, 3), (⟨"BreadScribes$Sums", "addSlice", "(I)V"⟩, 4), (⟨"BreadScribes$Sums", "winningPlace", "(I)I"⟩, 4), (⟨"BreadScribes$Life", "behindEnd", "(LBreadScribes$Days;I)I"⟩, 9), (⟨"BreadScribes$Life", "behindStep", "(LBreadScribes$Bakery;LBreadScribes$Days;I)I"⟩, 9), (⟨"BreadScribes$Life", "doAny", "(LBreadScribes$Bakery;)Z"⟩, 9)]
theorem lw_r2 : ∀ q ∈ lw_privs_2, lw_okq q := List.forall_mem_cons.mpr ⟨lw_p16, List.forall_mem_cons.mpr ⟨lw_p17, List.forall_mem_cons.mpr ⟨lw_p18, List.forall_mem_cons.mpr ⟨lw_p19, List.forall_mem_cons.mpr ⟨lw_p20, List.forall_mem_cons.mpr ⟨lw_p21, List.forall_mem_cons.mpr ⟨lw_p22, List.forall_mem_cons.mpr ⟨lw_p23, List.forall_mem_cons.mpr ⟨lw_p24, List.forall_mem_cons.mpr ⟨lw_p25, List.forall_mem_cons.mpr ⟨lw_p26, List.forall_mem_cons.mpr ⟨lw_p27, List.forall_mem_cons.mpr ⟨lw_p28, List.forall_mem_cons.mpr ⟨lw_p29, List.forall_mem_cons.mpr ⟨lw_p30, List.forall_mem_cons.mpr ⟨lw_p31, fun _ h => absurd h List.not_mem_nil⟩⟩⟩⟩⟩⟩⟩⟩⟩⟩⟩⟩⟩⟩⟩⟩
set_option maxRecDepth 100000 in
theorem lw_p32 : lw_okq (⟨"BreadScribes$Life", "draw", "(I)I"⟩, 9) := lw9_ok (and_l9 (and_r9 (and_r9 (and_r9 (and_r9 (and_r9 (and_r9 (and_r9 (and_r9 (and_r9 (and_r9 (and_r9 (and_r9 (and_r9 (and_r9 (and_r9 (and_r9 (and_r9 (and_r9 (and_r9 (and_r9 (and_r9 (and_r9 (and_r9 (and_r9 (and_r9 (and_r9 (and_r9 (and_r9 (and_r9 (and_r9 (and_r9 (and_r9 lw9_all)))))))))))))))))))))))))))))))))
set_option maxRecDepth 100000 in
theorem lw_p33 : lw_okq (⟨"BreadScribes$Life", "splitUp", "(LBreadScribes$Bakery;II)Z"⟩, 9) := lw9_ok (and_l9 (and_r9 (and_r9 (and_r9 (and_r9 (and_r9 (and_r9 (and_r9 (and_r9 (and_r9 (and_r9 (and_r9 (and_r9 (and_r9 (and_r9 (and_r9 (and_r9 (and_r9 (and_r9 (and_r9 (and_r9 (and_r9 (and_r9 (and_r9 (and_r9 (and_r9 (and_r9 (and_r9 (and_r9 (and_r9 (and_r9 (and_r9 (and_r9 (and_r9 lw9_all))))))))))))))))))))))))))))))))))
set_option maxRecDepth 100000 in
theorem lw_p34 : lw_okq (⟨"BreadScribes$Life", "handOver", "(LBreadScribes$Bakery;II)Z"⟩, 9) := lw9_ok (and_l9 (and_r9 (and_r9 (and_r9 (and_r9 (and_r9 (and_r9 (and_r9 (and_r9 (and_r9 (and_r9 (and_r9 (and_r9 (and_r9 (and_r9 (and_r9 (and_r9 (and_r9 (and_r9 (and_r9 (and_r9 (and_r9 (and_r9 (and_r9 (and_r9 (and_r9 (and_r9 (and_r9 (and_r9 (and_r9 (and_r9 (and_r9 (and_r9 (and_r9 (and_r9 lw9_all)))))))))))))))))))))))))))))))))))
set_option maxRecDepth 100000 in
theorem lw_p35 : lw_okq (⟨"BreadScribes$Life", "act", "(LBreadScribes$Bakery;LBreadScribes$Days;I)Z"⟩, 9) := lw9_ok (and_l9 (and_r9 (and_r9 (and_r9 (and_r9 (and_r9 (and_r9 (and_r9 (and_r9 (and_r9 (and_r9 (and_r9 (and_r9 (and_r9 (and_r9 (and_r9 (and_r9 (and_r9 (and_r9 (and_r9 (and_r9 (and_r9 (and_r9 (and_r9 (and_r9 (and_r9 (and_r9 (and_r9 (and_r9 (and_r9 (and_r9 (and_r9 (and_r9 (and_r9 (and_r9 (and_r9 lw9_all))))))))))))))))))))))))))))))))))))
set_option maxRecDepth 100000 in
theorem lw_p36 : lw_okq (⟨"BreadScribes$Life", "cutUp", "(LBreadScribes$Bakery;III)Z"⟩, 9) := lw9_ok (and_l9 (and_r9 (and_r9 (and_r9 (and_r9 (and_r9 (and_r9 (and_r9 (and_r9 (and_r9 (and_r9 (and_r9 (and_r9 (and_r9 (and_r9 (and_r9 (and_r9 (and_r9 (and_r9 (and_r9 (and_r9 (and_r9 (and_r9 (and_r9 (and_r9 (and_r9 (and_r9 (and_r9 (and_r9 (and_r9 (and_r9 (and_r9 (and_r9 (and_r9 (and_r9 (and_r9 (and_r9 lw9_all)))))))))))))))))))))))))))))))))))))
set_option maxRecDepth 100000 in
theorem lw_p37 : lw_okq (⟨"BreadScribes$Life", "addLoaves", "(LBreadScribes$Bakery;I)Z"⟩, 9) := lw9_ok (and_l9 (and_r9 (and_r9 (and_r9 (and_r9 (and_r9 (and_r9 (and_r9 (and_r9 (and_r9 (and_r9 (and_r9 (and_r9 (and_r9 (and_r9 (and_r9 (and_r9 (and_r9 (and_r9 (and_r9 (and_r9 (and_r9 (and_r9 (and_r9 (and_r9 (and_r9 (and_r9 (and_r9 (and_r9 (and_r9 (and_r9 (and_r9 (and_r9 (and_r9 (and_r9 (and_r9 (and_r9 (and_r9 lw9_all))))))))))))))))))))))))))))))))))))))
set_option maxRecDepth 100000 in
theorem lw_p38 : lw_okq (⟨"BreadScribesModel", "empties", "(I)V"⟩, 49) := lw9_ok (and_l9 (and_r9 (and_r9 (and_r9 (and_r9 (and_r9 (and_r9 (and_r9 (and_r9 (and_r9 (and_r9 (and_r9 (and_r9 (and_r9 (and_r9 (and_r9 (and_r9 (and_r9 (and_r9 (and_r9 (and_r9 (and_r9 (and_r9 (and_r9 (and_r9 (and_r9 (and_r9 (and_r9 (and_r9 (and_r9 (and_r9 (and_r9 (and_r9 (and_r9 (and_r9 (and_r9 (and_r9 (and_r9 (and_r9 lw9_all)))))))))))))))))))))))))))))))))))))))
set_option maxRecDepth 100000 in
theorem lw_p39 : lw_okq (⟨"BreadScribesModel", "no", "(I)Z"⟩, 49) := lw9_ok (and_l9 (and_r9 (and_r9 (and_r9 (and_r9 (and_r9 (and_r9 (and_r9 (and_r9 (and_r9 (and_r9 (and_r9 (and_r9 (and_r9 (and_r9 (and_r9 (and_r9 (and_r9 (and_r9 (and_r9 (and_r9 (and_r9 (and_r9 (and_r9 (and_r9 (and_r9 (and_r9 (and_r9 (and_r9 (and_r9 (and_r9 (and_r9 (and_r9 (and_r9 (and_r9 (and_r9 (and_r9 (and_r9 (and_r9 (and_r9 lw9_all))))))))))))))))))))))))))))))))))))))))
set_option maxRecDepth 100000 in
theorem lw_p40 : lw_okq (⟨"BreadScribesModel", "placed", "(II)I"⟩, 49) := lw9_ok (and_l9 (and_r9 (and_r9 (and_r9 (and_r9 (and_r9 (and_r9 (and_r9 (and_r9 (and_r9 (and_r9 (and_r9 (and_r9 (and_r9 (and_r9 (and_r9 (and_r9 (and_r9 (and_r9 (and_r9 (and_r9 (and_r9 (and_r9 (and_r9 (and_r9 (and_r9 (and_r9 (and_r9 (and_r9 (and_r9 (and_r9 (and_r9 (and_r9 (and_r9 (and_r9 (and_r9 (and_r9 (and_r9 (and_r9 (and_r9 (and_r9 lw9_all)))))))))))))))))))))))))))))))))))))))))
set_option maxRecDepth 100000 in
theorem lw_p41 : lw_okq (⟨"BreadScribesModel", "trayed", "(I)I"⟩, 49) := lw9_ok (and_l9 (and_r9 (and_r9 (and_r9 (and_r9 (and_r9 (and_r9 (and_r9 (and_r9 (and_r9 (and_r9 (and_r9 (and_r9 (and_r9 (and_r9 (and_r9 (and_r9 (and_r9 (and_r9 (and_r9 (and_r9 (and_r9 (and_r9 (and_r9 (and_r9 (and_r9 (and_r9 (and_r9 (and_r9 (and_r9 (and_r9 (and_r9 (and_r9 (and_r9 (and_r9 (and_r9 (and_r9 (and_r9 (and_r9 (and_r9 (and_r9 (and_r9 lw9_all))))))))))))))))))))))))))))))))))))))))))
set_option maxRecDepth 100000 in
theorem lw_p42 : lw_okq (⟨"BreadScribesModel", "lay", "(I)V"⟩, 49) := lw9_ok (and_l9 (and_r9 (and_r9 (and_r9 (and_r9 (and_r9 (and_r9 (and_r9 (and_r9 (and_r9 (and_r9 (and_r9 (and_r9 (and_r9 (and_r9 (and_r9 (and_r9 (and_r9 (and_r9 (and_r9 (and_r9 (and_r9 (and_r9 (and_r9 (and_r9 (and_r9 (and_r9 (and_r9 (and_r9 (and_r9 (and_r9 (and_r9 (and_r9 (and_r9 (and_r9 (and_r9 (and_r9 (and_r9 (and_r9 (and_r9 (and_r9 (and_r9 (and_r9 lw9_all)))))))))))))))))))))))))))))))))))))))))))
set_option maxRecDepth 100000 in
theorem lw_p43 : lw_okq (⟨"BreadScribesModel", "starts", "(II)Z"⟩, 49) := lw9_ok (and_l9 (and_r9 (and_r9 (and_r9 (and_r9 (and_r9 (and_r9 (and_r9 (and_r9 (and_r9 (and_r9 (and_r9 (and_r9 (and_r9 (and_r9 (and_r9 (and_r9 (and_r9 (and_r9 (and_r9 (and_r9 (and_r9 (and_r9 (and_r9 (and_r9 (and_r9 (and_r9 (and_r9 (and_r9 (and_r9 (and_r9 (and_r9 (and_r9 (and_r9 (and_r9 (and_r9 (and_r9 (and_r9 (and_r9 (and_r9 (and_r9 (and_r9 (and_r9 (and_r9 lw9_all))))))))))))))))))))))))))))))))))))))))))))
set_option maxRecDepth 100000 in
theorem lw_p44 : lw_okq (⟨"BreadScribesModel", "advance", "()V"⟩, 49) := lw9_ok (and_l9 (and_r9 (and_r9 (and_r9 (and_r9 (and_r9 (and_r9 (and_r9 (and_r9 (and_r9 (and_r9 (and_r9 (and_r9 (and_r9 (and_r9 (and_r9 (and_r9 (and_r9 (and_r9 (and_r9 (and_r9 (and_r9 (and_r9 (and_r9 (and_r9 (and_r9 (and_r9 (and_r9 (and_r9 (and_r9 (and_r9 (and_r9 (and_r9 (and_r9 (and_r9 (and_r9 (and_r9 (and_r9 (and_r9 (and_r9 (and_r9 (and_r9 (and_r9 (and_r9 (and_r9 lw9_all)))))))))))))))))))))))))))))))))))))))))))))
set_option maxRecDepth 100000 in
theorem lw_p45 : lw_okq (⟨"BreadScribesModel", "look2", "(I)I"⟩, 49) := lw9_ok (and_l9 (and_r9 (and_r9 (and_r9 (and_r9 (and_r9 (and_r9 (and_r9 (and_r9 (and_r9 (and_r9 (and_r9 (and_r9 (and_r9 (and_r9 (and_r9 (and_r9 (and_r9 (and_r9 (and_r9 (and_r9 (and_r9 (and_r9 (and_r9 (and_r9 (and_r9 (and_r9 (and_r9 (and_r9 (and_r9 (and_r9 (and_r9 (and_r9 (and_r9 (and_r9 (and_r9 (and_r9 (and_r9 (and_r9 (and_r9 (and_r9 (and_r9 (and_r9 (and_r9 (and_r9 (and_r9 lw9_all))))))))))))))))))))))))))))))))))))))))))))))
set_option maxRecDepth 100000 in
theorem lw_p46 : lw_okq (⟨"BreadScribesModel", "isSignByte", "(I)Z"⟩, 49) := lw9_ok (and_l9 (and_r9 (and_r9 (and_r9 (and_r9 (and_r9 (and_r9 (and_r9 (and_r9 (and_r9 (and_r9 (and_r9 (and_r9 (and_r9 (and_r9 (and_r9 (and_r9 (and_r9 (and_r9 (and_r9 (and_r9 (and_r9 (and_r9 (and_r9 (and_r9 (and_r9 (and_r9 (and_r9 (and_r9 (and_r9 (and_r9 (and_r9 (and_r9 (and_r9 (and_r9 (and_r9 (and_r9 (and_r9 (and_r9 (and_r9 (and_r9 (and_r9 (and_r9 (and_r9 (and_r9 (and_r9 (and_r9 lw9_all)))))))))))))))))))))))))))))))))))))))))))))))
set_option maxRecDepth 100000 in
theorem lw_p47 : lw_okq (⟨"BreadScribesModel", "readPart", "()V"⟩, 49) := lw9_ok (and_l9 (and_r9 (and_r9 (and_r9 (and_r9 (and_r9 (and_r9 (and_r9 (and_r9 (and_r9 (and_r9 (and_r9 (and_r9 (and_r9 (and_r9 (and_r9 (and_r9 (and_r9 (and_r9 (and_r9 (and_r9 (and_r9 (and_r9 (and_r9 (and_r9 (and_r9 (and_r9 (and_r9 (and_r9 (and_r9 (and_r9 (and_r9 (and_r9 (and_r9 (and_r9 (and_r9 (and_r9 (and_r9 (and_r9 (and_r9 (and_r9 (and_r9 (and_r9 (and_r9 (and_r9 (and_r9 (and_r9 (and_r9 lw9_all))))))))))))))))))))))))))))))))))))))))))))))))
noncomputable def lw_privs_3 : List (MethodName × Nat) := [(⟨"BreadScribes$Life", "draw", "(I)I"⟩, 9), (⟨"BreadScribes$Life", "splitUp", "(LBreadScribes$Bakery;II)Z"⟩, 9), (⟨"BreadScribes$Life", "handOver", "(LBreadScribes$Bakery;II)Z"⟩, 9), (⟨"BreadScribes$Life", "act", "(LBreadScribes$Bakery;LBreadScribes$Days;I)Z"⟩, 9), (⟨"BreadScribes$Life", "cutUp", "(LBreadScribes$Bakery;III)Z"⟩, 9), (⟨"BreadScribes$Life", "addLoaves", "(LBreadScribes$Bakery;I)Z"⟩, 9), (⟨"BreadScribesModel", "empties", "(I)V"⟩, 49), (⟨"BreadScribesModel", "no", "(I)Z"⟩, 49), (⟨"BreadScribesModel", "placed", "(II)I"⟩, 49), (⟨"BreadScribesModel", "trayed", "(I)I"⟩, 49), (⟨"BreadScribesModel", "lay", "(I)V"⟩, 49), (⟨"BreadScribesModel", "starts", "(II)Z"⟩, 49), (⟨"BreadScribesModel", "advance", "()V"⟩, 49), (⟨"BreadScribesModel", "look2", "(I)I"⟩, 49), (⟨"BreadScribesModel", "isSignByte", "(I)Z"⟩, 49), (⟨"BreadScribesModel", "readPart", "()V"⟩, 49)]
theorem lw_r3 : ∀ q ∈ lw_privs_3, lw_okq q := List.forall_mem_cons.mpr ⟨lw_p32, List.forall_mem_cons.mpr ⟨lw_p33, List.forall_mem_cons.mpr ⟨lw_p34, List.forall_mem_cons.mpr ⟨lw_p35, List.forall_mem_cons.mpr ⟨lw_p36, List.forall_mem_cons.mpr ⟨lw_p37, List.forall_mem_cons.mpr ⟨lw_p38, List.forall_mem_cons.mpr ⟨lw_p39, List.forall_mem_cons.mpr ⟨lw_p40, List.forall_mem_cons.mpr ⟨lw_p41, List.forall_mem_cons.mpr ⟨lw_p42, List.forall_mem_cons.mpr ⟨lw_p43, List.forall_mem_cons.mpr ⟨lw_p44, List.forall_mem_cons.mpr ⟨lw_p45, List.forall_mem_cons.mpr ⟨lw_p46, List.forall_mem_cons.mpr ⟨lw_p47, fun _ h => absurd h List.not_mem_nil⟩⟩⟩⟩⟩⟩⟩⟩⟩⟩⟩⟩⟩⟩⟩⟩
set_option maxRecDepth 100000 in
theorem lw_p48 : lw_okq (⟨"BreadScribesModel", "isOdds", "()Z"⟩, 49) := lw9_ok (and_l9 (and_r9 (and_r9 (and_r9 (and_r9 (and_r9 (and_r9 (and_r9 (and_r9 (and_r9 (and_r9 (and_r9 (and_r9 (and_r9 (and_r9 (and_r9 (and_r9 (and_r9 (and_r9 (and_r9 (and_r9 (and_r9 (and_r9 (and_r9 (and_r9 (and_r9 (and_r9 (and_r9 (and_r9 (and_r9 (and_r9 (and_r9 (and_r9 (and_r9 (and_r9 (and_r9 (and_r9 (and_r9 (and_r9 (and_r9 (and_r9 (and_r9 (and_r9 (and_r9 (and_r9 (and_r9 (and_r9 (and_r9 (and_r9 lw9_all)))))))))))))))))))))))))))))))))))))))))))))))))
set_option maxRecDepth 100000 in
theorem lw_p49 : lw_okq (⟨"BreadScribesModel", "isWord", "(J)Z"⟩, 49) := lw9_ok (and_l9 (and_r9 (and_r9 (and_r9 (and_r9 (and_r9 (and_r9 (and_r9 (and_r9 (and_r9 (and_r9 (and_r9 (and_r9 (and_r9 (and_r9 (and_r9 (and_r9 (and_r9 (and_r9 (and_r9 (and_r9 (and_r9 (and_r9 (and_r9 (and_r9 (and_r9 (and_r9 (and_r9 (and_r9 (and_r9 (and_r9 (and_r9 (and_r9 (and_r9 (and_r9 (and_r9 (and_r9 (and_r9 (and_r9 (and_r9 (and_r9 (and_r9 (and_r9 (and_r9 (and_r9 (and_r9 (and_r9 (and_r9 (and_r9 (and_r9 lw9_all))))))))))))))))))))))))))))))))))))))))))))))))))
set_option maxRecDepth 100000 in
theorem lw_p50 : lw_okq (⟨"BreadScribesModel", "readOdds", "()V"⟩, 49) := lw9_ok (and_l9 (and_r9 (and_r9 (and_r9 (and_r9 (and_r9 (and_r9 (and_r9 (and_r9 (and_r9 (and_r9 (and_r9 (and_r9 (and_r9 (and_r9 (and_r9 (and_r9 (and_r9 (and_r9 (and_r9 (and_r9 (and_r9 (and_r9 (and_r9 (and_r9 (and_r9 (and_r9 (and_r9 (and_r9 (and_r9 (and_r9 (and_r9 (and_r9 (and_r9 (and_r9 (and_r9 (and_r9 (and_r9 (and_r9 (and_r9 (and_r9 (and_r9 (and_r9 (and_r9 (and_r9 (and_r9 (and_r9 (and_r9 (and_r9 (and_r9 (and_r9 lw9_all)))))))))))))))))))))))))))))))))))))))))))))))))))
set_option maxRecDepth 100000 in
theorem lw_p51 : lw_okq (⟨"BreadScribesModel", "fail", "(II)V"⟩, 49) := lw9_ok (and_l9 (and_r9 (and_r9 (and_r9 (and_r9 (and_r9 (and_r9 (and_r9 (and_r9 (and_r9 (and_r9 (and_r9 (and_r9 (and_r9 (and_r9 (and_r9 (and_r9 (and_r9 (and_r9 (and_r9 (and_r9 (and_r9 (and_r9 (and_r9 (and_r9 (and_r9 (and_r9 (and_r9 (and_r9 (and_r9 (and_r9 (and_r9 (and_r9 (and_r9 (and_r9 (and_r9 (and_r9 (and_r9 (and_r9 (and_r9 (and_r9 (and_r9 (and_r9 (and_r9 (and_r9 (and_r9 (and_r9 (and_r9 (and_r9 (and_r9 (and_r9 (and_r9 lw9_all))))))))))))))))))))))))))))))))))))))))))))))))))))
set_option maxRecDepth 100000 in
theorem lw_p52 : lw_okq (⟨"BreadScribesModel", "must", "(Z)V"⟩, 49) := lw9_ok (and_l9 (and_r9 (and_r9 (and_r9 (and_r9 (and_r9 (and_r9 (and_r9 (and_r9 (and_r9 (and_r9 (and_r9 (and_r9 (and_r9 (and_r9 (and_r9 (and_r9 (and_r9 (and_r9 (and_r9 (and_r9 (and_r9 (and_r9 (and_r9 (and_r9 (and_r9 (and_r9 (and_r9 (and_r9 (and_r9 (and_r9 (and_r9 (and_r9 (and_r9 (and_r9 (and_r9 (and_r9 (and_r9 (and_r9 (and_r9 (and_r9 (and_r9 (and_r9 (and_r9 (and_r9 (and_r9 (and_r9 (and_r9 (and_r9 (and_r9 (and_r9 (and_r9 (and_r9 lw9_all)))))))))))))))))))))))))))))))))))))))))))))))))))))
set_option maxRecDepth 100000 in
theorem lw_p53 : lw_okq (⟨"BreadScribesModel", "amiss", "()V"⟩, 49) := lw9_ok (and_l9 (and_r9 (and_r9 (and_r9 (and_r9 (and_r9 (and_r9 (and_r9 (and_r9 (and_r9 (and_r9 (and_r9 (and_r9 (and_r9 (and_r9 (and_r9 (and_r9 (and_r9 (and_r9 (and_r9 (and_r9 (and_r9 (and_r9 (and_r9 (and_r9 (and_r9 (and_r9 (and_r9 (and_r9 (and_r9 (and_r9 (and_r9 (and_r9 (and_r9 (and_r9 (and_r9 (and_r9 (and_r9 (and_r9 (and_r9 (and_r9 (and_r9 (and_r9 (and_r9 (and_r9 (and_r9 (and_r9 (and_r9 (and_r9 (and_r9 (and_r9 (and_r9 (and_r9 (and_r9 lw9_all))))))))))))))))))))))))))))))))))))))))))))))))))))))
set_option maxRecDepth 100000 in
theorem lw_p54 : lw_okq (⟨"BreadScribesModel", "count", "(II)I"⟩, 49) := lw9_ok (and_l9 (and_r9 (and_r9 (and_r9 (and_r9 (and_r9 (and_r9 (and_r9 (and_r9 (and_r9 (and_r9 (and_r9 (and_r9 (and_r9 (and_r9 (and_r9 (and_r9 (and_r9 (and_r9 (and_r9 (and_r9 (and_r9 (and_r9 (and_r9 (and_r9 (and_r9 (and_r9 (and_r9 (and_r9 (and_r9 (and_r9 (and_r9 (and_r9 (and_r9 (and_r9 (and_r9 (and_r9 (and_r9 (and_r9 (and_r9 (and_r9 (and_r9 (and_r9 (and_r9 (and_r9 (and_r9 (and_r9 (and_r9 (and_r9 (and_r9 (and_r9 (and_r9 (and_r9 (and_r9 (and_r9 lw9_all)))))))))))))))))))))))))))))))))))))))))))))))))))))))
set_option maxRecDepth 100000 in
theorem lw_p55 : lw_okq (⟨"BreadScribesModel", "mayBe", "(II)V"⟩, 49) := lw9_ok (and_l9 (and_r9 (and_r9 (and_r9 (and_r9 (and_r9 (and_r9 (and_r9 (and_r9 (and_r9 (and_r9 (and_r9 (and_r9 (and_r9 (and_r9 (and_r9 (and_r9 (and_r9 (and_r9 (and_r9 (and_r9 (and_r9 (and_r9 (and_r9 (and_r9 (and_r9 (and_r9 (and_r9 (and_r9 (and_r9 (and_r9 (and_r9 (and_r9 (and_r9 (and_r9 (and_r9 (and_r9 (and_r9 (and_r9 (and_r9 (and_r9 (and_r9 (and_r9 (and_r9 (and_r9 (and_r9 (and_r9 (and_r9 (and_r9 (and_r9 (and_r9 (and_r9 (and_r9 (and_r9 (and_r9 (and_r9 lw9_all))))))))))))))))))))))))))))))))))))))))))))))))))))))))
set_option maxRecDepth 100000 in
theorem lw_p56 : lw_okq (⟨"BreadScribesModel", "isStore", "()Z"⟩, 49) := lw9_ok (and_l9 (and_r9 (and_r9 (and_r9 (and_r9 (and_r9 (and_r9 (and_r9 (and_r9 (and_r9 (and_r9 (and_r9 (and_r9 (and_r9 (and_r9 (and_r9 (and_r9 (and_r9 (and_r9 (and_r9 (and_r9 (and_r9 (and_r9 (and_r9 (and_r9 (and_r9 (and_r9 (and_r9 (and_r9 (and_r9 (and_r9 (and_r9 (and_r9 (and_r9 (and_r9 (and_r9 (and_r9 (and_r9 (and_r9 (and_r9 (and_r9 (and_r9 (and_r9 (and_r9 (and_r9 (and_r9 (and_r9 (and_r9 (and_r9 (and_r9 (and_r9 (and_r9 (and_r9 (and_r9 (and_r9 (and_r9 (and_r9 lw9_all)))))))))))))))))))))))))))))))))))))))))))))))))))))))))
set_option maxRecDepth 100000 in
theorem lw_p57 : lw_okq (⟨"BreadScribesModel", "readStore", "()V"⟩, 49) := lw9_ok (and_l9 (and_r9 (and_r9 (and_r9 (and_r9 (and_r9 (and_r9 (and_r9 (and_r9 (and_r9 (and_r9 (and_r9 (and_r9 (and_r9 (and_r9 (and_r9 (and_r9 (and_r9 (and_r9 (and_r9 (and_r9 (and_r9 (and_r9 (and_r9 (and_r9 (and_r9 (and_r9 (and_r9 (and_r9 (and_r9 (and_r9 (and_r9 (and_r9 (and_r9 (and_r9 (and_r9 (and_r9 (and_r9 (and_r9 (and_r9 (and_r9 (and_r9 (and_r9 (and_r9 (and_r9 (and_r9 (and_r9 (and_r9 (and_r9 (and_r9 (and_r9 (and_r9 (and_r9 (and_r9 (and_r9 (and_r9 (and_r9 (and_r9 lw9_all))))))))))))))))))))))))))))))))))))))))))))))))))))))))))
set_option maxRecDepth 100000 in
theorem lw_p58 : lw_okq (⟨"BreadScribesModel", "isTimes", "()Z"⟩, 49) := lw9_ok (and_l9 (and_r9 (and_r9 (and_r9 (and_r9 (and_r9 (and_r9 (and_r9 (and_r9 (and_r9 (and_r9 (and_r9 (and_r9 (and_r9 (and_r9 (and_r9 (and_r9 (and_r9 (and_r9 (and_r9 (and_r9 (and_r9 (and_r9 (and_r9 (and_r9 (and_r9 (and_r9 (and_r9 (and_r9 (and_r9 (and_r9 (and_r9 (and_r9 (and_r9 (and_r9 (and_r9 (and_r9 (and_r9 (and_r9 (and_r9 (and_r9 (and_r9 (and_r9 (and_r9 (and_r9 (and_r9 (and_r9 (and_r9 (and_r9 (and_r9 (and_r9 (and_r9 (and_r9 (and_r9 (and_r9 (and_r9 (and_r9 (and_r9 (and_r9 lw9_all)))))))))))))))))))))))))))))))))))))))))))))))))))))))))))
set_option maxRecDepth 100000 in
theorem lw_p59 : lw_okq (⟨"BreadScribesModel", "perhaps", "(Z)Z"⟩, 49) := lw9_ok (and_l9 (and_r9 (and_r9 (and_r9 (and_r9 (and_r9 (and_r9 (and_r9 (and_r9 (and_r9 (and_r9 (and_r9 (and_r9 (and_r9 (and_r9 (and_r9 (and_r9 (and_r9 (and_r9 (and_r9 (and_r9 (and_r9 (and_r9 (and_r9 (and_r9 (and_r9 (and_r9 (and_r9 (and_r9 (and_r9 (and_r9 (and_r9 (and_r9 (and_r9 (and_r9 (and_r9 (and_r9 (and_r9 (and_r9 (and_r9 (and_r9 (and_r9 (and_r9 (and_r9 (and_r9 (and_r9 (and_r9 (and_r9 (and_r9 (and_r9 (and_r9 (and_r9 (and_r9 (and_r9 (and_r9 (and_r9 (and_r9 (and_r9 (and_r9 (and_r9 lw9_all))))))))))))))))))))))))))))))))))))))))))))))))))))))))))))
set_option maxRecDepth 100000 in
theorem lw_p60 : lw_okq (⟨"BreadScribesModel", "isMan", "()Z"⟩, 49) := lw9_ok (and_l9 (and_r9 (and_r9 (and_r9 (and_r9 (and_r9 (and_r9 (and_r9 (and_r9 (and_r9 (and_r9 (and_r9 (and_r9 (and_r9 (and_r9 (and_r9 (and_r9 (and_r9 (and_r9 (and_r9 (and_r9 (and_r9 (and_r9 (and_r9 (and_r9 (and_r9 (and_r9 (and_r9 (and_r9 (and_r9 (and_r9 (and_r9 (and_r9 (and_r9 (and_r9 (and_r9 (and_r9 (and_r9 (and_r9 (and_r9 (and_r9 (and_r9 (and_r9 (and_r9 (and_r9 (and_r9 (and_r9 (and_r9 (and_r9 (and_r9 (and_r9 (and_r9 (and_r9 (and_r9 (and_r9 (and_r9 (and_r9 (and_r9 (and_r9 (and_r9 (and_r9 lw9_all)))))))))))))))))))))))))))))))))))))))))))))))))))))))))))))
set_option maxRecDepth 100000 in
theorem lw_p61 : lw_okq (⟨"BreadScribesModel", "readMan", "()V"⟩, 49) := lw9_ok (and_l9 (and_r9 (and_r9 (and_r9 (and_r9 (and_r9 (and_r9 (and_r9 (and_r9 (and_r9 (and_r9 (and_r9 (and_r9 (and_r9 (and_r9 (and_r9 (and_r9 (and_r9 (and_r9 (and_r9 (and_r9 (and_r9 (and_r9 (and_r9 (and_r9 (and_r9 (and_r9 (and_r9 (and_r9 (and_r9 (and_r9 (and_r9 (and_r9 (and_r9 (and_r9 (and_r9 (and_r9 (and_r9 (and_r9 (and_r9 (and_r9 (and_r9 (and_r9 (and_r9 (and_r9 (and_r9 (and_r9 (and_r9 (and_r9 (and_r9 (and_r9 (and_r9 (and_r9 (and_r9 (and_r9 (and_r9 (and_r9 (and_r9 (and_r9 (and_r9 (and_r9 (and_r9 lw9_all))))))))))))))))))))))))))))))))))))))))))))))))))))))))))))))
set_option maxRecDepth 100000 in
theorem lw_p62 : lw_okq (⟨"BreadScribesModel", "isName", "()Z"⟩, 49) := lw9_ok (and_l9 (and_r9 (and_r9 (and_r9 (and_r9 (and_r9 (and_r9 (and_r9 (and_r9 (and_r9 (and_r9 (and_r9 (and_r9 (and_r9 (and_r9 (and_r9 (and_r9 (and_r9 (and_r9 (and_r9 (and_r9 (and_r9 (and_r9 (and_r9 (and_r9 (and_r9 (and_r9 (and_r9 (and_r9 (and_r9 (and_r9 (and_r9 (and_r9 (and_r9 (and_r9 (and_r9 (and_r9 (and_r9 (and_r9 (and_r9 (and_r9 (and_r9 (and_r9 (and_r9 (and_r9 (and_r9 (and_r9 (and_r9 (and_r9 (and_r9 (and_r9 (and_r9 (and_r9 (and_r9 (and_r9 (and_r9 (and_r9 (and_r9 (and_r9 (and_r9 (and_r9 (and_r9 (and_r9 lw9_all)))))))))))))))))))))))))))))))))))))))))))))))))))))))))))))))
set_option maxRecDepth 100000 in
theorem lw_p63 : lw_okq (⟨"BreadScribesModel", "isKept", "()Z"⟩, 49) := lw9_ok (and_l9 (and_r9 (and_r9 (and_r9 (and_r9 (and_r9 (and_r9 (and_r9 (and_r9 (and_r9 (and_r9 (and_r9 (and_r9 (and_r9 (and_r9 (and_r9 (and_r9 (and_r9 (and_r9 (and_r9 (and_r9 (and_r9 (and_r9 (and_r9 (and_r9 (and_r9 (and_r9 (and_r9 (and_r9 (and_r9 (and_r9 (and_r9 (and_r9 (and_r9 (and_r9 (and_r9 (and_r9 (and_r9 (and_r9 (and_r9 (and_r9 (and_r9 (and_r9 (and_r9 (and_r9 (and_r9 (and_r9 (and_r9 (and_r9 (and_r9 (and_r9 (and_r9 (and_r9 (and_r9 (and_r9 (and_r9 (and_r9 (and_r9 (and_r9 (and_r9 (and_r9 (and_r9 (and_r9 (and_r9 lw9_all))))))))))))))))))))))))))))))))))))))))))))))))))))))))))))))))
noncomputable def lw_privs_4 : List (MethodName × Nat) := [(⟨"BreadScribesModel", "isOdds", "()Z"⟩, 49), (⟨"BreadScribesModel", "isWord", "(J)Z"⟩, 49), (⟨"BreadScribesModel", "readOdds", "()V"⟩, 49), (⟨"BreadScribesModel", "fail", "(II)V"⟩, 49), (⟨"BreadScribesModel", "must", "(Z)V"⟩, 49), (⟨"BreadScribesModel", "amiss", "()V"⟩, 49), (⟨"BreadScribesModel", "count", "(II)I"⟩, 49), (⟨"BreadScribesModel", "mayBe", "(II)V"⟩, 49), (⟨"BreadScribesModel", "isStore", "()Z"⟩, 49), (⟨"BreadScribesModel", "readStore", "()V"⟩, 49), (⟨"BreadScribesModel", "isTimes", "()Z"⟩, 49), (⟨"BreadScribesModel", "perhaps", "(Z)Z"⟩, 49), (⟨"BreadScribesModel", "isMan", "()Z"⟩, 49), (⟨"BreadScribesModel", "readMan", "()V"⟩, 49), (⟨"BreadScribesModel", "isName", "()Z"⟩, 49), (⟨"BreadScribesModel", "isKept", "()Z"⟩, 49)]
theorem lw_r4 : ∀ q ∈ lw_privs_4, lw_okq q := List.forall_mem_cons.mpr ⟨lw_p48, List.forall_mem_cons.mpr ⟨lw_p49, List.forall_mem_cons.mpr ⟨lw_p50, List.forall_mem_cons.mpr ⟨lw_p51, List.forall_mem_cons.mpr ⟨lw_p52, List.forall_mem_cons.mpr ⟨lw_p53, List.forall_mem_cons.mpr ⟨lw_p54, List.forall_mem_cons.mpr ⟨lw_p55, List.forall_mem_cons.mpr ⟨lw_p56, List.forall_mem_cons.mpr ⟨lw_p57, List.forall_mem_cons.mpr ⟨lw_p58, List.forall_mem_cons.mpr ⟨lw_p59, List.forall_mem_cons.mpr ⟨lw_p60, List.forall_mem_cons.mpr ⟨lw_p61, List.forall_mem_cons.mpr ⟨lw_p62, List.forall_mem_cons.mpr ⟨lw_p63, fun _ h => absurd h List.not_mem_nil⟩⟩⟩⟩⟩⟩⟩⟩⟩⟩⟩⟩⟩⟩⟩⟩
set_option maxRecDepth 100000 in
theorem lw_p64 : lw_okq (⟨"BreadScribesModel", "isDue", "()Z"⟩, 49) := lw9_ok (and_l9 (and_r9 (and_r9 (and_r9 (and_r9 (and_r9 (and_r9 (and_r9 (and_r9 (and_r9 (and_r9 (and_r9 (and_r9 (and_r9 (and_r9 (and_r9 (and_r9 (and_r9 (and_r9 (and_r9 (and_r9 (and_r9 (and_r9 (and_r9 (and_r9 (and_r9 (and_r9 (and_r9 (and_r9 (and_r9 (and_r9 (and_r9 (and_r9 (and_r9 (and_r9 (and_r9 (and_r9 (and_r9 (and_r9 (and_r9 (and_r9 (and_r9 (and_r9 (and_r9 (and_r9 (and_r9 (and_r9 (and_r9 (and_r9 (and_r9 (and_r9 (and_r9 (and_r9 (and_r9 (and_r9 (and_r9 (and_r9 (and_r9 (and_r9 (and_r9 (and_r9 (and_r9 (and_r9 (and_r9 (and_r9 lw9_all)))))))))))))))))))))))))))))))))))))))))))))))))))))))))))))))))
set_option maxRecDepth 100000 in
theorem lw_p65 : lw_okq (⟨"BreadScribesModel", "isBy", "()Z"⟩, 49) := lw9_ok (and_l9 (and_r9 (and_r9 (and_r9 (and_r9 (and_r9 (and_r9 (and_r9 (and_r9 (and_r9 (and_r9 (and_r9 (and_r9 (and_r9 (and_r9 (and_r9 (and_r9 (and_r9 (and_r9 (and_r9 (and_r9 (and_r9 (and_r9 (and_r9 (and_r9 (and_r9 (and_r9 (and_r9 (and_r9 (and_r9 (and_r9 (and_r9 (and_r9 (and_r9 (and_r9 (and_r9 (and_r9 (and_r9 (and_r9 (and_r9 (and_r9 (and_r9 (and_r9 (and_r9 (and_r9 (and_r9 (and_r9 (and_r9 (and_r9 (and_r9 (and_r9 (and_r9 (and_r9 (and_r9 (and_r9 (and_r9 (and_r9 (and_r9 (and_r9 (and_r9 (and_r9 (and_r9 (and_r9 (and_r9 (and_r9 (and_r9 lw9_all))))))))))))))))))))))))))))))))))))))))))))))))))))))))))))))))))
set_option maxRecDepth 100000 in
theorem lw_p66 : lw_okq (⟨"BreadScribesModel", "isHas", "()Z"⟩, 49) := lw9_ok (and_l9 (and_r9 (and_r9 (and_r9 (and_r9 (and_r9 (and_r9 (and_r9 (and_r9 (and_r9 (and_r9 (and_r9 (and_r9 (and_r9 (and_r9 (and_r9 (and_r9 (and_r9 (and_r9 (and_r9 (and_r9 (and_r9 (and_r9 (and_r9 (and_r9 (and_r9 (and_r9 (and_r9 (and_r9 (and_r9 (and_r9 (and_r9 (and_r9 (and_r9 (and_r9 (and_r9 (and_r9 (and_r9 (and_r9 (and_r9 (and_r9 (and_r9 (and_r9 (and_r9 (and_r9 (and_r9 (and_r9 (and_r9 (and_r9 (and_r9 (and_r9 (and_r9 (and_r9 (and_r9 (and_r9 (and_r9 (and_r9 (and_r9 (and_r9 (and_r9 (and_r9 (and_r9 (and_r9 (and_r9 (and_r9 (and_r9 (and_r9 lw9_all)))))))))))))))))))))))))))))))))))))))))))))))))))))))))))))))))))
set_option maxRecDepth 100000 in
theorem lw_p67 : lw_okq (⟨"BreadScribesModel", "isKnown", "()Z"⟩, 49) := lw9_ok (and_l9 (and_r9 (and_r9 (and_r9 (and_r9 (and_r9 (and_r9 (and_r9 (and_r9 (and_r9 (and_r9 (and_r9 (and_r9 (and_r9 (and_r9 (and_r9 (and_r9 (and_r9 (and_r9 (and_r9 (and_r9 (and_r9 (and_r9 (and_r9 (and_r9 (and_r9 (and_r9 (and_r9 (and_r9 (and_r9 (and_r9 (and_r9 (and_r9 (and_r9 (and_r9 (and_r9 (and_r9 (and_r9 (and_r9 (and_r9 (and_r9 (and_r9 (and_r9 (and_r9 (and_r9 (and_r9 (and_r9 (and_r9 (and_r9 (and_r9 (and_r9 (and_r9 (and_r9 (and_r9 (and_r9 (and_r9 (and_r9 (and_r9 (and_r9 (and_r9 (and_r9 (and_r9 (and_r9 (and_r9 (and_r9 (and_r9 (and_r9 (and_r9 lw9_all))))))))))))))))))))))))))))))))))))))))))))))))))))))))))))))))))))
set_option maxRecDepth 100000 in
theorem lw_p68 : lw_okq (⟨"BreadScribesModel", "stepWord", "()I"⟩, 49) := lw9_ok (and_l9 (and_r9 (and_r9 (and_r9 (and_r9 (and_r9 (and_r9 (and_r9 (and_r9 (and_r9 (and_r9 (and_r9 (and_r9 (and_r9 (and_r9 (and_r9 (and_r9 (and_r9 (and_r9 (and_r9 (and_r9 (and_r9 (and_r9 (and_r9 (and_r9 (and_r9 (and_r9 (and_r9 (and_r9 (and_r9 (and_r9 (and_r9 (and_r9 (and_r9 (and_r9 (and_r9 (and_r9 (and_r9 (and_r9 (and_r9 (and_r9 (and_r9 (and_r9 (and_r9 (and_r9 (and_r9 (and_r9 (and_r9 (and_r9 (and_r9 (and_r9 (and_r9 (and_r9 (and_r9 (and_r9 (and_r9 (and_r9 (and_r9 (and_r9 (and_r9 (and_r9 (and_r9 (and_r9 (and_r9 (and_r9 (and_r9 (and_r9 (and_r9 (and_r9 lw9_all)))))))))))))))))))))))))))))))))))))))))))))))))))))))))))))))))))))
set_option maxRecDepth 100000 in
theorem lw_p69 : lw_okq (⟨"BreadScribesModel", "testWord", "()I"⟩, 49) := lw9_ok (and_l9 (and_r9 (and_r9 (and_r9 (and_r9 (and_r9 (and_r9 (and_r9 (and_r9 (and_r9 (and_r9 (and_r9 (and_r9 (and_r9 (and_r9 (and_r9 (and_r9 (and_r9 (and_r9 (and_r9 (and_r9 (and_r9 (and_r9 (and_r9 (and_r9 (and_r9 (and_r9 (and_r9 (and_r9 (and_r9 (and_r9 (and_r9 (and_r9 (and_r9 (and_r9 (and_r9 (and_r9 (and_r9 (and_r9 (and_r9 (and_r9 (and_r9 (and_r9 (and_r9 (and_r9 (and_r9 (and_r9 (and_r9 (and_r9 (and_r9 (and_r9 (and_r9 (and_r9 (and_r9 (and_r9 (and_r9 (and_r9 (and_r9 (and_r9 (and_r9 (and_r9 (and_r9 (and_r9 (and_r9 (and_r9 (and_r9 (and_r9 (and_r9 (and_r9 (and_r9 lw9_all))))))))))))))))))))))))))))))))))))))))))))))))))))))))))))))))))))))
set_option maxRecDepth 100000 in
theorem lw_p70 : lw_okq (⟨"BreadScribesModel", "isEnd", "()Z"⟩, 49) := lw9_ok (and_l9 (and_r9 (and_r9 (and_r9 (and_r9 (and_r9 (and_r9 (and_r9 (and_r9 (and_r9 (and_r9 (and_r9 (and_r9 (and_r9 (and_r9 (and_r9 (and_r9 (and_r9 (and_r9 (and_r9 (and_r9 (and_r9 (and_r9 (and_r9 (and_r9 (and_r9 (and_r9 (and_r9 (and_r9 (and_r9 (and_r9 (and_r9 (and_r9 (and_r9 (and_r9 (and_r9 (and_r9 (and_r9 (and_r9 (and_r9 (and_r9 (and_r9 (and_r9 (and_r9 (and_r9 (and_r9 (and_r9 (and_r9 (and_r9 (and_r9 (and_r9 (and_r9 (and_r9 (and_r9 (and_r9 (and_r9 (and_r9 (and_r9 (and_r9 (and_r9 (and_r9 (and_r9 (and_r9 (and_r9 (and_r9 (and_r9 (and_r9 (and_r9 (and_r9 (and_r9 (and_r9 lw9_all)))))))))))))))))))))))))))))))))))))))))))))))))))))))))))))))))))))))
set_option maxRecDepth 100000 in
theorem lw_p71 : lw_okq (⟨"BreadScribesModel", "named", "(I)I"⟩, 49) := lw9_ok (and_l9 (and_r9 (and_r9 (and_r9 (and_r9 (and_r9 (and_r9 (and_r9 (and_r9 (and_r9 (and_r9 (and_r9 (and_r9 (and_r9 (and_r9 (and_r9 (and_r9 (and_r9 (and_r9 (and_r9 (and_r9 (and_r9 (and_r9 (and_r9 (and_r9 (and_r9 (and_r9 (and_r9 (and_r9 (and_r9 (and_r9 (and_r9 (and_r9 (and_r9 (and_r9 (and_r9 (and_r9 (and_r9 (and_r9 (and_r9 (and_r9 (and_r9 (and_r9 (and_r9 (and_r9 (and_r9 (and_r9 (and_r9 (and_r9 (and_r9 (and_r9 (and_r9 (and_r9 (and_r9 (and_r9 (and_r9 (and_r9 (and_r9 (and_r9 (and_r9 (and_r9 (and_r9 (and_r9 (and_r9 (and_r9 (and_r9 (and_r9 (and_r9 (and_r9 (and_r9 (and_r9 (and_r9 lw9_all))))))))))))))))))))))))))))))))))))))))))))))))))))))))))))))))))))))))
set_option maxRecDepth 100000 in
theorem lw_p72 : lw_okq (⟨"BreadScribesModel", "behindWord", "(ZII)I"⟩, 49) := lw9_ok (and_l9 (and_r9 (and_r9 (and_r9 (and_r9 (and_r9 (and_r9 (and_r9 (and_r9 (and_r9 (and_r9 (and_r9 (and_r9 (and_r9 (and_r9 (and_r9 (and_r9 (and_r9 (and_r9 (and_r9 (and_r9 (and_r9 (and_r9 (and_r9 (and_r9 (and_r9 (and_r9 (and_r9 (and_r9 (and_r9 (and_r9 (and_r9 (and_r9 (and_r9 (and_r9 (and_r9 (and_r9 (and_r9 (and_r9 (and_r9 (and_r9 (and_r9 (and_r9 (and_r9 (and_r9 (and_r9 (and_r9 (and_r9 (and_r9 (and_r9 (and_r9 (and_r9 (and_r9 (and_r9 (and_r9 (and_r9 (and_r9 (and_r9 (and_r9 (and_r9 (and_r9 (and_r9 (and_r9 (and_r9 (and_r9 (and_r9 (and_r9 (and_r9 (and_r9 (and_r9 (and_r9 (and_r9 (and_r9 lw9_all)))))))))))))))))))))))))))))))))))))))))))))))))))))))))))))))))))))))))
set_option maxRecDepth 100000 in
theorem lw_p73 : lw_okq (⟨"BreadScribesModel", "readSlices", "()I"⟩, 49) := lw9_ok (and_l9 (and_r9 (and_r9 (and_r9 (and_r9 (and_r9 (and_r9 (and_r9 (and_r9 (and_r9 (and_r9 (and_r9 (and_r9 (and_r9 (and_r9 (and_r9 (and_r9 (and_r9 (and_r9 (and_r9 (and_r9 (and_r9 (and_r9 (and_r9 (and_r9 (and_r9 (and_r9 (and_r9 (and_r9 (and_r9 (and_r9 (and_r9 (and_r9 (and_r9 (and_r9 (and_r9 (and_r9 (and_r9 (and_r9 (and_r9 (and_r9 (and_r9 (and_r9 (and_r9 (and_r9 (and_r9 (and_r9 (and_r9 (and_r9 (and_r9 (and_r9 (and_r9 (and_r9 (and_r9 (and_r9 (and_r9 (and_r9 (and_r9 (and_r9 (and_r9 (and_r9 (and_r9 (and_r9 (and_r9 (and_r9 (and_r9 (and_r9 (and_r9 (and_r9 (and_r9 (and_r9 (and_r9 (and_r9 (and_r9 lw9_all))))))))))))))))))))))))))))))))))))))))))))))))))))))))))))))))))))))))))
set_option maxRecDepth 100000 in
theorem lw_p74 : lw_okq (⟨"BreadScribesModel", "readKnown", "()V"⟩, 49) := lw9_ok (and_l9 (and_r9 (and_r9 (and_r9 (and_r9 (and_r9 (and_r9 (and_r9 (and_r9 (and_r9 (and_r9 (and_r9 (and_r9 (and_r9 (and_r9 (and_r9 (and_r9 (and_r9 (and_r9 (and_r9 (and_r9 (and_r9 (and_r9 (and_r9 (and_r9 (and_r9 (and_r9 (and_r9 (and_r9 (and_r9 (and_r9 (and_r9 (and_r9 (and_r9 (and_r9 (and_r9 (and_r9 (and_r9 (and_r9 (and_r9 (and_r9 (and_r9 (and_r9 (and_r9 (and_r9 (and_r9 (and_r9 (and_r9 (and_r9 (and_r9 (and_r9 (and_r9 (and_r9 (and_r9 (and_r9 (and_r9 (and_r9 (and_r9 (and_r9 (and_r9 (and_r9 (and_r9 (and_r9 (and_r9 (and_r9 (and_r9 (and_r9 (and_r9 (and_r9 (and_r9 (and_r9 (and_r9 (and_r9 (and_r9 (and_r9 lw9_all)))))))))))))))))))))))))))))))))))))))))))))))))))))))))))))))))))))))))))
set_option maxRecDepth 100000 in
theorem lw_p75 : lw_okq (⟨"BreadScribesModel", "isSign", "(I)Z"⟩, 49) := lw9_ok (and_l9 (and_r9 (and_r9 (and_r9 (and_r9 (and_r9 (and_r9 (and_r9 (and_r9 (and_r9 (and_r9 (and_r9 (and_r9 (and_r9 (and_r9 (and_r9 (and_r9 (and_r9 (and_r9 (and_r9 (and_r9 (and_r9 (and_r9 (and_r9 (and_r9 (and_r9 (and_r9 (and_r9 (and_r9 (and_r9 (and_r9 (and_r9 (and_r9 (and_r9 (and_r9 (and_r9 (and_r9 (and_r9 (and_r9 (and_r9 (and_r9 (and_r9 (and_r9 (and_r9 (and_r9 (and_r9 (and_r9 (and_r9 (and_r9 (and_r9 (and_r9 (and_r9 (and_r9 (and_r9 (and_r9 (and_r9 (and_r9 (and_r9 (and_r9 (and_r9 (and_r9 (and_r9 (and_r9 (and_r9 (and_r9 (and_r9 (and_r9 (and_r9 (and_r9 (and_r9 (and_r9 (and_r9 (and_r9 (and_r9 (and_r9 (and_r9 lw9_all))))))))))))))))))))))))))))))))))))))))))))))))))))))))))))))))))))))))))))
set_option maxRecDepth 100000 in
theorem lw_p76 : lw_okq (⟨"BreadScribesModel", "isWell", "()Z"⟩, 49) := lw9_ok (and_l9 (and_r9 (and_r9 (and_r9 (and_r9 (and_r9 (and_r9 (and_r9 (and_r9 (and_r9 (and_r9 (and_r9 (and_r9 (and_r9 (and_r9 (and_r9 (and_r9 (and_r9 (and_r9 (and_r9 (and_r9 (and_r9 (and_r9 (and_r9 (and_r9 (and_r9 (and_r9 (and_r9 (and_r9 (and_r9 (and_r9 (and_r9 (and_r9 (and_r9 (and_r9 (and_r9 (and_r9 (and_r9 (and_r9 (and_r9 (and_r9 (and_r9 (and_r9 (and_r9 (and_r9 (and_r9 (and_r9 (and_r9 (and_r9 (and_r9 (and_r9 (and_r9 (and_r9 (and_r9 (and_r9 (and_r9 (and_r9 (and_r9 (and_r9 (and_r9 (and_r9 (and_r9 (and_r9 (and_r9 (and_r9 (and_r9 (and_r9 (and_r9 (and_r9 (and_r9 (and_r9 (and_r9 (and_r9 (and_r9 (and_r9 (and_r9 (and_r9 lw9_all)))))))))))))))))))))))))))))))))))))))))))))))))))))))))))))))))))))))))))))
set_option maxRecDepth 100000 in
theorem lw_p77 : lw_okq (⟨"BreadScribesModel", "copy", "(II)V"⟩, 49) := lw9_ok (and_l9 (and_r9 (and_r9 (and_r9 (and_r9 (and_r9 (and_r9 (and_r9 (and_r9 (and_r9 (and_r9 (and_r9 (and_r9 (and_r9 (and_r9 (and_r9 (and_r9 (and_r9 (and_r9 (and_r9 (and_r9 (and_r9 (and_r9 (and_r9 (and_r9 (and_r9 (and_r9 (and_r9 (and_r9 (and_r9 (and_r9 (and_r9 (and_r9 (and_r9 (and_r9 (and_r9 (and_r9 (and_r9 (and_r9 (and_r9 (and_r9 (and_r9 (and_r9 (and_r9 (and_r9 (and_r9 (and_r9 (and_r9 (and_r9 (and_r9 (and_r9 (and_r9 (and_r9 (and_r9 (and_r9 (and_r9 (and_r9 (and_r9 (and_r9 (and_r9 (and_r9 (and_r9 (and_r9 (and_r9 (and_r9 (and_r9 (and_r9 (and_r9 (and_r9 (and_r9 (and_r9 (and_r9 (and_r9 (and_r9 (and_r9 (and_r9 (and_r9 (and_r9 lw9_all))))))))))))))))))))))))))))))))))))))))))))))))))))))))))))))))))))))))))))))
set_option maxRecDepth 100000 in
theorem lw_p78 : lw_okq (⟨"BreadScribesModel", "readStep", "(I)V"⟩, 49) := lw9_ok (and_l9 (and_r9 (and_r9 (and_r9 (and_r9 (and_r9 (and_r9 (and_r9 (and_r9 (and_r9 (and_r9 (and_r9 (and_r9 (and_r9 (and_r9 (and_r9 (and_r9 (and_r9 (and_r9 (and_r9 (and_r9 (and_r9 (and_r9 (and_r9 (and_r9 (and_r9 (and_r9 (and_r9 (and_r9 (and_r9 (and_r9 (and_r9 (and_r9 (and_r9 (and_r9 (and_r9 (and_r9 (and_r9 (and_r9 (and_r9 (and_r9 (and_r9 (and_r9 (and_r9 (and_r9 (and_r9 (and_r9 (and_r9 (and_r9 (and_r9 (and_r9 (and_r9 (and_r9 (and_r9 (and_r9 (and_r9 (and_r9 (and_r9 (and_r9 (and_r9 (and_r9 (and_r9 (and_r9 (and_r9 (and_r9 (and_r9 (and_r9 (and_r9 (and_r9 (and_r9 (and_r9 (and_r9 (and_r9 (and_r9 (and_r9 (and_r9 (and_r9 (and_r9 (and_r9 lw9_all)))))))))))))))))))))))))))))))))))))))))))))))))))))))))))))))))))))))))))))))
set_option maxRecDepth 100000 in
theorem lw_p79 : lw_okq (⟨"BreadScribesModel", "readRest", "(I)V"⟩, 49) := lw9_ok (and_l9 (and_r9 (and_r9 (and_r9 (and_r9 (and_r9 (and_r9 (and_r9 (and_r9 (and_r9 (and_r9 (and_r9 (and_r9 (and_r9 (and_r9 (and_r9 (and_r9 (and_r9 (and_r9 (and_r9 (and_r9 (and_r9 (and_r9 (and_r9 (and_r9 (and_r9 (and_r9 (and_r9 (and_r9 (and_r9 (and_r9 (and_r9 (and_r9 (and_r9 (and_r9 (and_r9 (and_r9 (and_r9 (and_r9 (and_r9 (and_r9 (and_r9 (and_r9 (and_r9 (and_r9 (and_r9 (and_r9 (and_r9 (and_r9 (and_r9 (and_r9 (and_r9 (and_r9 (and_r9 (and_r9 (and_r9 (and_r9 (and_r9 (and_r9 (and_r9 (and_r9 (and_r9 (and_r9 (and_r9 (and_r9 (and_r9 (and_r9 (and_r9 (and_r9 (and_r9 (and_r9 (and_r9 (and_r9 (and_r9 (and_r9 (and_r9 (and_r9 (and_r9 (and_r9 (and_r9 lw9_all))))))))))))))))))))))))))))))))))))))))))))))))))))))))))))))))))))))))))))))))
noncomputable def lw_privs_5 : List (MethodName × Nat) := [(⟨"BreadScribesModel", "isDue", "()Z"⟩, 49), (⟨"BreadScribesModel", "isBy", "()Z"⟩, 49), (⟨"BreadScribesModel", "isHas", "()Z"⟩, 49), (⟨"BreadScribesModel", "isKnown", "()Z"⟩, 49), (⟨"BreadScribesModel", "stepWord", "()I"⟩, 49), (⟨"BreadScribesModel", "testWord", "()I"⟩, 49), (⟨"BreadScribesModel", "isEnd", "()Z"⟩, 49), (⟨"BreadScribesModel", "named", "(I)I"⟩, 49), (⟨"BreadScribesModel", "behindWord", "(ZII)I"⟩, 49), (⟨"BreadScribesModel", "readSlices", "()I"⟩, 49), (⟨"BreadScribesModel", "readKnown", "()V"⟩, 49), (⟨"BreadScribesModel", "isSign", "(I)Z"⟩, 49), (⟨"BreadScribesModel", "isWell", "()Z"⟩, 49), (⟨"BreadScribesModel", "copy", "(II)V"⟩, 49), (⟨"BreadScribesModel", "readStep", "(I)V"⟩, 49), (⟨"BreadScribesModel", "readRest", "(I)V"⟩, 49)]
theorem lw_r5 : ∀ q ∈ lw_privs_5, lw_okq q := List.forall_mem_cons.mpr ⟨lw_p64, List.forall_mem_cons.mpr ⟨lw_p65, List.forall_mem_cons.mpr ⟨lw_p66, List.forall_mem_cons.mpr ⟨lw_p67, List.forall_mem_cons.mpr ⟨lw_p68, List.forall_mem_cons.mpr ⟨lw_p69, List.forall_mem_cons.mpr ⟨lw_p70, List.forall_mem_cons.mpr ⟨lw_p71, List.forall_mem_cons.mpr ⟨lw_p72, List.forall_mem_cons.mpr ⟨lw_p73, List.forall_mem_cons.mpr ⟨lw_p74, List.forall_mem_cons.mpr ⟨lw_p75, List.forall_mem_cons.mpr ⟨lw_p76, List.forall_mem_cons.mpr ⟨lw_p77, List.forall_mem_cons.mpr ⟨lw_p78, List.forall_mem_cons.mpr ⟨lw_p79, fun _ h => absurd h List.not_mem_nil⟩⟩⟩⟩⟩⟩⟩⟩⟩⟩⟩⟩⟩⟩⟩⟩
set_option maxRecDepth 100000 in
theorem lw_p80 : lw_okq (⟨"BreadScribesModel", "readTold", "(I)I"⟩, 49) := lw9_ok (and_l9 (and_r9 (and_r9 (and_r9 (and_r9 (and_r9 (and_r9 (and_r9 (and_r9 (and_r9 (and_r9 (and_r9 (and_r9 (and_r9 (and_r9 (and_r9 (and_r9 (and_r9 (and_r9 (and_r9 (and_r9 (and_r9 (and_r9 (and_r9 (and_r9 (and_r9 (and_r9 (and_r9 (and_r9 (and_r9 (and_r9 (and_r9 (and_r9 (and_r9 (and_r9 (and_r9 (and_r9 (and_r9 (and_r9 (and_r9 (and_r9 (and_r9 (and_r9 (and_r9 (and_r9 (and_r9 (and_r9 (and_r9 (and_r9 (and_r9 (and_r9 (and_r9 (and_r9 (and_r9 (and_r9 (and_r9 (and_r9 (and_r9 (and_r9 (and_r9 (and_r9 (and_r9 (and_r9 (and_r9 (and_r9 (and_r9 (and_r9 (and_r9 (and_r9 (and_r9 (and_r9 (and_r9 (and_r9 (and_r9 (and_r9 (and_r9 (and_r9 (and_r9 (and_r9 (and_r9 (and_r9 lw9_all)))))))))))))))))))))))))))))))))))))))))))))))))))))))))))))))))))))))))))))))))
set_option maxRecDepth 100000 in
theorem lw_p81 : lw_okq (⟨"BreadScribesModel", "readTest", "(I)V"⟩, 49) := lw9_ok (and_l9 (and_r9 (and_r9 (and_r9 (and_r9 (and_r9 (and_r9 (and_r9 (and_r9 (and_r9 (and_r9 (and_r9 (and_r9 (and_r9 (and_r9 (and_r9 (and_r9 (and_r9 (and_r9 (and_r9 (and_r9 (and_r9 (and_r9 (and_r9 (and_r9 (and_r9 (and_r9 (and_r9 (and_r9 (and_r9 (and_r9 (and_r9 (and_r9 (and_r9 (and_r9 (and_r9 (and_r9 (and_r9 (and_r9 (and_r9 (and_r9 (and_r9 (and_r9 (and_r9 (and_r9 (and_r9 (and_r9 (and_r9 (and_r9 (and_r9 (and_r9 (and_r9 (and_r9 (and_r9 (and_r9 (and_r9 (and_r9 (and_r9 (and_r9 (and_r9 (and_r9 (and_r9 (and_r9 (and_r9 (and_r9 (and_r9 (and_r9 (and_r9 (and_r9 (and_r9 (and_r9 (and_r9 (and_r9 (and_r9 (and_r9 (and_r9 (and_r9 (and_r9 (and_r9 (and_r9 (and_r9 (and_r9 lw9_all))))))))))))))))))))))))))))))))))))))))))))))))))))))))))))))))))))))))))))))))))
set_option maxRecDepth 100000 in
theorem lw_p82 : lw_okq (⟨"BreadScribesModel", "refuse", "(I)I"⟩, 49) := lw9_ok (and_l9 (and_r9 (and_r9 (and_r9 (and_r9 (and_r9 (and_r9 (and_r9 (and_r9 (and_r9 (and_r9 (and_r9 (and_r9 (and_r9 (and_r9 (and_r9 (and_r9 (and_r9 (and_r9 (and_r9 (and_r9 (and_r9 (and_r9 (and_r9 (and_r9 (and_r9 (and_r9 (and_r9 (and_r9 (and_r9 (and_r9 (and_r9 (and_r9 (and_r9 (and_r9 (and_r9 (and_r9 (and_r9 (and_r9 (and_r9 (and_r9 (and_r9 (and_r9 (and_r9 (and_r9 (and_r9 (and_r9 (and_r9 (and_r9 (and_r9 (and_r9 (and_r9 (and_r9 (and_r9 (and_r9 (and_r9 (and_r9 (and_r9 (and_r9 (and_r9 (and_r9 (and_r9 (and_r9 (and_r9 (and_r9 (and_r9 (and_r9 (and_r9 (and_r9 (and_r9 (and_r9 (and_r9 (and_r9 (and_r9 (and_r9 (and_r9 (and_r9 (and_r9 (and_r9 (and_r9 (and_r9 (and_r9 (and_r9 lw9_all)))))))))))))))))))))))))))))))))))))))))))))))))))))))))))))))))))))))))))))))))))
set_option maxRecDepth 100000 in
theorem lw_p83 : lw_okq (⟨"BreadScribesModel", "held", "()I"⟩, 49) := lw9_ok (and_l9 (and_r9 (and_r9 (and_r9 (and_r9 (and_r9 (and_r9 (and_r9 (and_r9 (and_r9 (and_r9 (and_r9 (and_r9 (and_r9 (and_r9 (and_r9 (and_r9 (and_r9 (and_r9 (and_r9 (and_r9 (and_r9 (and_r9 (and_r9 (and_r9 (and_r9 (and_r9 (and_r9 (and_r9 (and_r9 (and_r9 (and_r9 (and_r9 (and_r9 (and_r9 (and_r9 (and_r9 (and_r9 (and_r9 (and_r9 (and_r9 (and_r9 (and_r9 (and_r9 (and_r9 (and_r9 (and_r9 (and_r9 (and_r9 (and_r9 (and_r9 (and_r9 (and_r9 (and_r9 (and_r9 (and_r9 (and_r9 (and_r9 (and_r9 (and_r9 (and_r9 (and_r9 (and_r9 (and_r9 (and_r9 (and_r9 (and_r9 (and_r9 (and_r9 (and_r9 (and_r9 (and_r9 (and_r9 (and_r9 (and_r9 (and_r9 (and_r9 (and_r9 (and_r9 (and_r9 (and_r9 (and_r9 (and_r9 (and_r9 lw9_all))))))))))))))))))))))))))))))))))))))))))))))))))))))))))))))))))))))))))))))))))))
set_option maxRecDepth 100000 in
theorem lw_p84 : lw_okq (⟨"BreadScribesModel", "heldSet", "()I"⟩, 49) := lw9_ok (and_l9 (and_r9 (and_r9 (and_r9 (and_r9 (and_r9 (and_r9 (and_r9 (and_r9 (and_r9 (and_r9 (and_r9 (and_r9 (and_r9 (and_r9 (and_r9 (and_r9 (and_r9 (and_r9 (and_r9 (and_r9 (and_r9 (and_r9 (and_r9 (and_r9 (and_r9 (and_r9 (and_r9 (and_r9 (and_r9 (and_r9 (and_r9 (and_r9 (and_r9 (and_r9 (and_r9 (and_r9 (and_r9 (and_r9 (and_r9 (and_r9 (and_r9 (and_r9 (and_r9 (and_r9 (and_r9 (and_r9 (and_r9 (and_r9 (and_r9 (and_r9 (and_r9 (and_r9 (and_r9 (and_r9 (and_r9 (and_r9 (and_r9 (and_r9 (and_r9 (and_r9 (and_r9 (and_r9 (and_r9 (and_r9 (and_r9 (and_r9 (and_r9 (and_r9 (and_r9 (and_r9 (and_r9 (and_r9 (and_r9 (and_r9 (and_r9 (and_r9 (and_r9 (and_r9 (and_r9 (and_r9 (and_r9 (and_r9 (and_r9 (and_r9 lw9_all)))))))))))))))))))))))))))))))))))))))))))))))))))))))))))))))))))))))))))))))))))))
set_option maxRecDepth 100000 in
theorem lw_p85 : lw_okq (⟨"BreadScribesModel", "evenOnes", "()I"⟩, 49) := lw9_ok (and_l9 (and_r9 (and_r9 (and_r9 (and_r9 (and_r9 (and_r9 (and_r9 (and_r9 (and_r9 (and_r9 (and_r9 (and_r9 (and_r9 (and_r9 (and_r9 (and_r9 (and_r9 (and_r9 (and_r9 (and_r9 (and_r9 (and_r9 (and_r9 (and_r9 (and_r9 (and_r9 (and_r9 (and_r9 (and_r9 (and_r9 (and_r9 (and_r9 (and_r9 (and_r9 (and_r9 (and_r9 (and_r9 (and_r9 (and_r9 (and_r9 (and_r9 (and_r9 (and_r9 (and_r9 (and_r9 (and_r9 (and_r9 (and_r9 (and_r9 (and_r9 (and_r9 (and_r9 (and_r9 (and_r9 (and_r9 (and_r9 (and_r9 (and_r9 (and_r9 (and_r9 (and_r9 (and_r9 (and_r9 (and_r9 (and_r9 (and_r9 (and_r9 (and_r9 (and_r9 (and_r9 (and_r9 (and_r9 (and_r9 (and_r9 (and_r9 (and_r9 (and_r9 (and_r9 (and_r9 (and_r9 (and_r9 (and_r9 (and_r9 (and_r9 (and_r9 lw9_all))))))))))))))))))))))))))))))))))))))))))))))))))))))))))))))))))))))))))))))))))))))
set_option maxRecDepth 100000 in
theorem lw_p86 : lw_okq (⟨"BreadScribesModel", "lackOf", "(I)J"⟩, 49) := lw9_ok (and_l9 (and_r9 (and_r9 (and_r9 (and_r9 (and_r9 (and_r9 (and_r9 (and_r9 (and_r9 (and_r9 (and_r9 (and_r9 (and_r9 (and_r9 (and_r9 (and_r9 (and_r9 (and_r9 (and_r9 (and_r9 (and_r9 (and_r9 (and_r9 (and_r9 (and_r9 (and_r9 (and_r9 (and_r9 (and_r9 (and_r9 (and_r9 (and_r9 (and_r9 (and_r9 (and_r9 (and_r9 (and_r9 (and_r9 (and_r9 (and_r9 (and_r9 (and_r9 (and_r9 (and_r9 (and_r9 (and_r9 (and_r9 (and_r9 (and_r9 (and_r9 (and_r9 (and_r9 (and_r9 (and_r9 (and_r9 (and_r9 (and_r9 (and_r9 (and_r9 (and_r9 (and_r9 (and_r9 (and_r9 (and_r9 (and_r9 (and_r9 (and_r9 (and_r9 (and_r9 (and_r9 (and_r9 (and_r9 (and_r9 (and_r9 (and_r9 (and_r9 (and_r9 (and_r9 (and_r9 (and_r9 (and_r9 (and_r9 (and_r9 (and_r9 (and_r9 (and_r9 lw9_all)))))))))))))))))))))))))))))))))))))))))))))))))))))))))))))))))))))))))))))))))))))))
set_option maxRecDepth 100000 in
theorem lw_p87 : lw_okq (⟨"BreadScribesModel", "isManAt", "(I)Z"⟩, 49) := lw9_ok (and_l9 (and_r9 (and_r9 (and_r9 (and_r9 (and_r9 (and_r9 (and_r9 (and_r9 (and_r9 (and_r9 (and_r9 (and_r9 (and_r9 (and_r9 (and_r9 (and_r9 (and_r9 (and_r9 (and_r9 (and_r9 (and_r9 (and_r9 (and_r9 (and_r9 (and_r9 (and_r9 (and_r9 (and_r9 (and_r9 (and_r9 (and_r9 (and_r9 (and_r9 (and_r9 (and_r9 (and_r9 (and_r9 (and_r9 (and_r9 (and_r9 (and_r9 (and_r9 (and_r9 (and_r9 (and_r9 (and_r9 (and_r9 (and_r9 (and_r9 (and_r9 (and_r9 (and_r9 (and_r9 (and_r9 (and_r9 (and_r9 (and_r9 (and_r9 (and_r9 (and_r9 (and_r9 (and_r9 (and_r9 (and_r9 (and_r9 (and_r9 (and_r9 (and_r9 (and_r9 (and_r9 (and_r9 (and_r9 (and_r9 (and_r9 (and_r9 (and_r9 (and_r9 (and_r9 (and_r9 (and_r9 (and_r9 (and_r9 (and_r9 (and_r9 (and_r9 (and_r9 (and_r9 lw9_all))))))))))))))))))))))))))))))))))))))))))))))))))))))))))))))))))))))))))))))))))))))))
set_option maxRecDepth 100000 in
theorem lw_p88 : lw_okq (⟨"BreadScribesModel", "fraction", "(JJ)Z"⟩, 49) := lw9_ok (and_l9 (and_r9 (and_r9 (and_r9 (and_r9 (and_r9 (and_r9 (and_r9 (and_r9 (and_r9 (and_r9 (and_r9 (and_r9 (and_r9 (and_r9 (and_r9 (and_r9 (and_r9 (and_r9 (and_r9 (and_r9 (and_r9 (and_r9 (and_r9 (and_r9 (and_r9 (and_r9 (and_r9 (and_r9 (and_r9 (and_r9 (and_r9 (and_r9 (and_r9 (and_r9 (and_r9 (and_r9 (and_r9 (and_r9 (and_r9 (and_r9 (and_r9 (and_r9 (and_r9 (and_r9 (and_r9 (and_r9 (and_r9 (and_r9 (and_r9 (and_r9 (and_r9 (and_r9 (and_r9 (and_r9 (and_r9 (and_r9 (and_r9 (and_r9 (and_r9 (and_r9 (and_r9 (and_r9 (and_r9 (and_r9 (and_r9 (and_r9 (and_r9 (and_r9 (and_r9 (and_r9 (and_r9 (and_r9 (and_r9 (and_r9 (and_r9 (and_r9 (and_r9 (and_r9 (and_r9 (and_r9 (and_r9 (and_r9 (and_r9 (and_r9 (and_r9 (and_r9 (and_r9 (and_r9 lw9_all)))))))))))))))))))))))))))))))))))))))))))))))))))))))))))))))))))))))))))))))))))))))))
set_option maxRecDepth 100000 in
theorem lw_p89 : lw_okq (⟨"BreadScribesModel", "isTray", "(I)Z"⟩, 49) := lw9_ok (and_l9 (and_r9 (and_r9 (and_r9 (and_r9 (and_r9 (and_r9 (and_r9 (and_r9 (and_r9 (and_r9 (and_r9 (and_r9 (and_r9 (and_r9 (and_r9 (and_r9 (and_r9 (and_r9 (and_r9 (and_r9 (and_r9 (and_r9 (and_r9 (and_r9 (and_r9 (and_r9 (and_r9 (and_r9 (and_r9 (and_r9 (and_r9 (and_r9 (and_r9 (and_r9 (and_r9 (and_r9 (and_r9 (and_r9 (and_r9 (and_r9 (and_r9 (and_r9 (and_r9 (and_r9 (and_r9 (and_r9 (and_r9 (and_r9 (and_r9 (and_r9 (and_r9 (and_r9 (and_r9 (and_r9 (and_r9 (and_r9 (and_r9 (and_r9 (and_r9 (and_r9 (and_r9 (and_r9 (and_r9 (and_r9 (and_r9 (and_r9 (and_r9 (and_r9 (and_r9 (and_r9 (and_r9 (and_r9 (and_r9 (and_r9 (and_r9 (and_r9 (and_r9 (and_r9 (and_r9 (and_r9 (and_r9 (and_r9 (and_r9 (and_r9 (and_r9 (and_r9 (and_r9 (and_r9 (and_r9 lw9_all))))))))))))))))))))))))))))))))))))))))))))))))))))))))))))))))))))))))))))))))))))))))))
set_option maxRecDepth 100000 in
theorem lw_p90 : lw_okq (⟨"BreadScribesModel", "isOver", "(III)Z"⟩, 49) := lw9_ok (and_l9 (and_r9 (and_r9 (and_r9 (and_r9 (and_r9 (and_r9 (and_r9 (and_r9 (and_r9 (and_r9 (and_r9 (and_r9 (and_r9 (and_r9 (and_r9 (and_r9 (and_r9 (and_r9 (and_r9 (and_r9 (and_r9 (and_r9 (and_r9 (and_r9 (and_r9 (and_r9 (and_r9 (and_r9 (and_r9 (and_r9 (and_r9 (and_r9 (and_r9 (and_r9 (and_r9 (and_r9 (and_r9 (and_r9 (and_r9 (and_r9 (and_r9 (and_r9 (and_r9 (and_r9 (and_r9 (and_r9 (and_r9 (and_r9 (and_r9 (and_r9 (and_r9 (and_r9 (and_r9 (and_r9 (and_r9 (and_r9 (and_r9 (and_r9 (and_r9 (and_r9 (and_r9 (and_r9 (and_r9 (and_r9 (and_r9 (and_r9 (and_r9 (and_r9 (and_r9 (and_r9 (and_r9 (and_r9 (and_r9 (and_r9 (and_r9 (and_r9 (and_r9 (and_r9 (and_r9 (and_r9 (and_r9 (and_r9 (and_r9 (and_r9 (and_r9 (and_r9 (and_r9 (and_r9 (and_r9 (and_r9 lw9_all)))))))))))))))))))))))))))))))))))))))))))))))))))))))))))))))))))))))))))))))))))))))))))
set_option maxRecDepth 100000 in
theorem lw_p91 : lw_okq (⟨"BreadScribesModel", "cuts", "(III)Z"⟩, 49) := lw9_ok (and_l9 (and_r9 (and_r9 (and_r9 (and_r9 (and_r9 (and_r9 (and_r9 (and_r9 (and_r9 (and_r9 (and_r9 (and_r9 (and_r9 (and_r9 (and_r9 (and_r9 (and_r9 (and_r9 (and_r9 (and_r9 (and_r9 (and_r9 (and_r9 (and_r9 (and_r9 (and_r9 (and_r9 (and_r9 (and_r9 (and_r9 (and_r9 (and_r9 (and_r9 (and_r9 (and_r9 (and_r9 (and_r9 (and_r9 (and_r9 (and_r9 (and_r9 (and_r9 (and_r9 (and_r9 (and_r9 (and_r9 (and_r9 (and_r9 (and_r9 (and_r9 (and_r9 (and_r9 (and_r9 (and_r9 (and_r9 (and_r9 (and_r9 (and_r9 (and_r9 (and_r9 (and_r9 (and_r9 (and_r9 (and_r9 (and_r9 (and_r9 (and_r9 (and_r9 (and_r9 (and_r9 (and_r9 (and_r9 (and_r9 (and_r9 (and_r9 (and_r9 (and_r9 (and_r9 (and_r9 (and_r9 (and_r9 (and_r9 (and_r9 (and_r9 (and_r9 (and_r9 (and_r9 (and_r9 (and_r9 (and_r9 (and_r9 lw9_all))))))))))))))))))))))))))))))))))))))))))))))))))))))))))))))))))))))))))))))))))))))))))))
set_option maxRecDepth 100000 in
theorem lw_p92 : lw_okq (⟨"BreadScribesModel", "areMore", "(II)Z"⟩, 49) := lw9_ok (and_l9 (and_r9 (and_r9 (and_r9 (and_r9 (and_r9 (and_r9 (and_r9 (and_r9 (and_r9 (and_r9 (and_r9 (and_r9 (and_r9 (and_r9 (and_r9 (and_r9 (and_r9 (and_r9 (and_r9 (and_r9 (and_r9 (and_r9 (and_r9 (and_r9 (and_r9 (and_r9 (and_r9 (and_r9 (and_r9 (and_r9 (and_r9 (and_r9 (and_r9 (and_r9 (and_r9 (and_r9 (and_r9 (and_r9 (and_r9 (and_r9 (and_r9 (and_r9 (and_r9 (and_r9 (and_r9 (and_r9 (and_r9 (and_r9 (and_r9 (and_r9 (and_r9 (and_r9 (and_r9 (and_r9 (and_r9 (and_r9 (and_r9 (and_r9 (and_r9 (and_r9 (and_r9 (and_r9 (and_r9 (and_r9 (and_r9 (and_r9 (and_r9 (and_r9 (and_r9 (and_r9 (and_r9 (and_r9 (and_r9 (and_r9 (and_r9 (and_r9 (and_r9 (and_r9 (and_r9 (and_r9 (and_r9 (and_r9 (and_r9 (and_r9 (and_r9 (and_r9 (and_r9 (and_r9 (and_r9 (and_r9 (and_r9 (and_r9 lw9_all)))))))))))))))))))))))))))))))))))))))))))))))))))))))))))))))))))))))))))))))))))))))))))))
set_option maxRecDepth 100000 in
theorem lw_p93 : lw_okq (⟨"BreadScribesModel", "splits", "(II)Z"⟩, 49) := lw9_ok (and_l9 (and_r9 (and_r9 (and_r9 (and_r9 (and_r9 (and_r9 (and_r9 (and_r9 (and_r9 (and_r9 (and_r9 (and_r9 (and_r9 (and_r9 (and_r9 (and_r9 (and_r9 (and_r9 (and_r9 (and_r9 (and_r9 (and_r9 (and_r9 (and_r9 (and_r9 (and_r9 (and_r9 (and_r9 (and_r9 (and_r9 (and_r9 (and_r9 (and_r9 (and_r9 (and_r9 (and_r9 (and_r9 (and_r9 (and_r9 (and_r9 (and_r9 (and_r9 (and_r9 (and_r9 (and_r9 (and_r9 (and_r9 (and_r9 (and_r9 (and_r9 (and_r9 (and_r9 (and_r9 (and_r9 (and_r9 (and_r9 (and_r9 (and_r9 (and_r9 (and_r9 (and_r9 (and_r9 (and_r9 (and_r9 (and_r9 (and_r9 (and_r9 (and_r9 (and_r9 (and_r9 (and_r9 (and_r9 (and_r9 (and_r9 (and_r9 (and_r9 (and_r9 (and_r9 (and_r9 (and_r9 (and_r9 (and_r9 (and_r9 (and_r9 (and_r9 (and_r9 (and_r9 (and_r9 (and_r9 (and_r9 (and_r9 (and_r9 (and_r9 lw9_all))))))))))))))))))))))))))))))))))))))))))))))))))))))))))))))))))))))))))))))))))))))))))))))
set_option maxRecDepth 100000 in
theorem lw_p94 : lw_okq (⟨"BreadScribesModel", "bakes", "(I)Z"⟩, 49) := lw9_ok (and_l9 (and_r9 (and_r9 (and_r9 (and_r9 (and_r9 (and_r9 (and_r9 (and_r9 (and_r9 (and_r9 (and_r9 (and_r9 (and_r9 (and_r9 (and_r9 (and_r9 (and_r9 (and_r9 (and_r9 (and_r9 (and_r9 (and_r9 (and_r9 (and_r9 (and_r9 (and_r9 (and_r9 (and_r9 (and_r9 (and_r9 (and_r9 (and_r9 (and_r9 (and_r9 (and_r9 (and_r9 (and_r9 (and_r9 (and_r9 (and_r9 (and_r9 (and_r9 (and_r9 (and_r9 (and_r9 (and_r9 (and_r9 (and_r9 (and_r9 (and_r9 (and_r9 (and_r9 (and_r9 (and_r9 (and_r9 (and_r9 (and_r9 (and_r9 (and_r9 (and_r9 (and_r9 (and_r9 (and_r9 (and_r9 (and_r9 (and_r9 (and_r9 (and_r9 (and_r9 (and_r9 (and_r9 (and_r9 (and_r9 (and_r9 (and_r9 (and_r9 (and_r9 (and_r9 (and_r9 (and_r9 (and_r9 (and_r9 (and_r9 (and_r9 (and_r9 (and_r9 (and_r9 (and_r9 (and_r9 (and_r9 (and_r9 (and_r9 (and_r9 (and_r9 lw9_all)))))))))))))))))))))))))))))))))))))))))))))))))))))))))))))))))))))))))))))))))))))))))))))))
set_option maxRecDepth 100000 in
theorem lw_p95 : lw_okq (⟨"BreadScribesModel", "gives", "(II)Z"⟩, 49) := lw9_ok (and_l9 (and_r9 (and_r9 (and_r9 (and_r9 (and_r9 (and_r9 (and_r9 (and_r9 (and_r9 (and_r9 (and_r9 (and_r9 (and_r9 (and_r9 (and_r9 (and_r9 (and_r9 (and_r9 (and_r9 (and_r9 (and_r9 (and_r9 (and_r9 (and_r9 (and_r9 (and_r9 (and_r9 (and_r9 (and_r9 (and_r9 (and_r9 (and_r9 (and_r9 (and_r9 (and_r9 (and_r9 (and_r9 (and_r9 (and_r9 (and_r9 (and_r9 (and_r9 (and_r9 (and_r9 (and_r9 (and_r9 (and_r9 (and_r9 (and_r9 (and_r9 (and_r9 (and_r9 (and_r9 (and_r9 (and_r9 (and_r9 (and_r9 (and_r9 (and_r9 (and_r9 (and_r9 (and_r9 (and_r9 (and_r9 (and_r9 (and_r9 (and_r9 (and_r9 (and_r9 (and_r9 (and_r9 (and_r9 (and_r9 (and_r9 (and_r9 (and_r9 (and_r9 (and_r9 (and_r9 (and_r9 (and_r9 (and_r9 (and_r9 (and_r9 (and_r9 (and_r9 (and_r9 (and_r9 (and_r9 (and_r9 (and_r9 (and_r9 (and_r9 (and_r9 (and_r9 lw9_all))))))))))))))))))))))))))))))))))))))))))))))))))))))))))))))))))))))))))))))))))))))))))))))))
noncomputable def lw_privs_6 : List (MethodName × Nat) := [(⟨"BreadScribesModel", "readTold", "(I)I"⟩, 49), (⟨"BreadScribesModel", "readTest", "(I)V"⟩, 49), (⟨"BreadScribesModel", "refuse", "(I)I"⟩, 49), (⟨"BreadScribesModel", "held", "()I"⟩, 49), (⟨"BreadScribesModel", "heldSet", "()I"⟩, 49), (⟨"BreadScribesModel", "evenOnes", "()I"⟩, 49), (⟨"BreadScribesModel", "lackOf", "(I)J"⟩, 49), (⟨"BreadScribesModel", "isManAt", "(I)Z"⟩, 49), (⟨"BreadScribesModel", "fraction", "(JJ)Z"⟩, 49), (⟨"BreadScribesModel", "isTray", "(I)Z"⟩, 49), (⟨"BreadScribesModel", "isOver", "(III)Z"⟩, 49), (⟨"BreadScribesModel", "cuts", "(III)Z"⟩, 49), (⟨"BreadScribesModel", "areMore", "(II)Z"⟩, 49), (⟨"BreadScribesModel", "splits", "(II)Z"⟩, 49), (⟨"BreadScribesModel", "bakes", "(I)Z"⟩, 49), (⟨"BreadScribesModel", "gives", "(II)Z"⟩, 49)]
theorem lw_r6 : ∀ q ∈ lw_privs_6, lw_okq q := List.forall_mem_cons.mpr ⟨lw_p80, List.forall_mem_cons.mpr ⟨lw_p81, List.forall_mem_cons.mpr ⟨lw_p82, List.forall_mem_cons.mpr ⟨lw_p83, List.forall_mem_cons.mpr ⟨lw_p84, List.forall_mem_cons.mpr ⟨lw_p85, List.forall_mem_cons.mpr ⟨lw_p86, List.forall_mem_cons.mpr ⟨lw_p87, List.forall_mem_cons.mpr ⟨lw_p88, List.forall_mem_cons.mpr ⟨lw_p89, List.forall_mem_cons.mpr ⟨lw_p90, List.forall_mem_cons.mpr ⟨lw_p91, List.forall_mem_cons.mpr ⟨lw_p92, List.forall_mem_cons.mpr ⟨lw_p93, List.forall_mem_cons.mpr ⟨lw_p94, List.forall_mem_cons.mpr ⟨lw_p95, fun _ h => absurd h List.not_mem_nil⟩⟩⟩⟩⟩⟩⟩⟩⟩⟩⟩⟩⟩⟩⟩⟩
set_option maxRecDepth 100000 in
theorem lw_p96 : lw_okq (⟨"BreadScribesModel", "takes", "(II)Z"⟩, 49) := lw9_ok (and_l9 (and_r9 (and_r9 (and_r9 (and_r9 (and_r9 (and_r9 (and_r9 (and_r9 (and_r9 (and_r9 (and_r9 (and_r9 (and_r9 (and_r9 (and_r9 (and_r9 (and_r9 (and_r9 (and_r9 (and_r9 (and_r9 (and_r9 (and_r9 (and_r9 (and_r9 (and_r9 (and_r9 (and_r9 (and_r9 (and_r9 (and_r9 (and_r9 (and_r9 (and_r9 (and_r9 (and_r9 (and_r9 (and_r9 (and_r9 (and_r9 (and_r9 (and_r9 (and_r9 (and_r9 (and_r9 (and_r9 (and_r9 (and_r9 (and_r9 (and_r9 (and_r9 (and_r9 (and_r9 (and_r9 (and_r9 (and_r9 (and_r9 (and_r9 (and_r9 (and_r9 (and_r9 (and_r9 (and_r9 (and_r9 (and_r9 (and_r9 (and_r9 (and_r9 (and_r9 (and_r9 (and_r9 (and_r9 (and_r9 (and_r9 (and_r9 (and_r9 (and_r9 (and_r9 (and_r9 (and_r9 (and_r9 (and_r9 (and_r9 (and_r9 (and_r9 (and_r9 (and_r9 (and_r9 (and_r9 (and_r9 (and_r9 (and_r9 (and_r9 (and_r9 (and_r9 (and_r9 lw9_all)))))))))))))))))))))))))))))))))))))))))))))))))))))))))))))))))))))))))))))))))))))))))))))))))
set_option maxRecDepth 100000 in
theorem lw_p97 : lw_okq (⟨"BreadScribesModel", "fewestOf", "(JII)I"⟩, 49) := lw9_ok (and_l9 (and_r9 (and_r9 (and_r9 (and_r9 (and_r9 (and_r9 (and_r9 (and_r9 (and_r9 (and_r9 (and_r9 (and_r9 (and_r9 (and_r9 (and_r9 (and_r9 (and_r9 (and_r9 (and_r9 (and_r9 (and_r9 (and_r9 (and_r9 (and_r9 (and_r9 (and_r9 (and_r9 (and_r9 (and_r9 (and_r9 (and_r9 (and_r9 (and_r9 (and_r9 (and_r9 (and_r9 (and_r9 (and_r9 (and_r9 (and_r9 (and_r9 (and_r9 (and_r9 (and_r9 (and_r9 (and_r9 (and_r9 (and_r9 (and_r9 (and_r9 (and_r9 (and_r9 (and_r9 (and_r9 (and_r9 (and_r9 (and_r9 (and_r9 (and_r9 (and_r9 (and_r9 (and_r9 (and_r9 (and_r9 (and_r9 (and_r9 (and_r9 (and_r9 (and_r9 (and_r9 (and_r9 (and_r9 (and_r9 (and_r9 (and_r9 (and_r9 (and_r9 (and_r9 (and_r9 (and_r9 (and_r9 (and_r9 (and_r9 (and_r9 (and_r9 (and_r9 (and_r9 (and_r9 (and_r9 (and_r9 (and_r9 (and_r9 (and_r9 (and_r9 (and_r9 (and_r9 (and_r9 lw9_all))))))))))))))))))))))))))))))))))))))))))))))))))))))))))))))))))))))))))))))))))))))))))))))))))
set_option maxRecDepth 100000 in
theorem lw_p98 : lw_okq (⟨"BreadScribesModel", "laysRows", "(IIJI)Z"⟩, 49) := lw9_ok (and_l9 (and_r9 (and_r9 (and_r9 (and_r9 (and_r9 (and_r9 (and_r9 (and_r9 (and_r9 (and_r9 (and_r9 (and_r9 (and_r9 (and_r9 (and_r9 (and_r9 (and_r9 (and_r9 (and_r9 (and_r9 (and_r9 (and_r9 (and_r9 (and_r9 (and_r9 (and_r9 (and_r9 (and_r9 (and_r9 (and_r9 (and_r9 (and_r9 (and_r9 (and_r9 (and_r9 (and_r9 (and_r9 (and_r9 (and_r9 (and_r9 (and_r9 (and_r9 (and_r9 (and_r9 (and_r9 (and_r9 (and_r9 (and_r9 (and_r9 (and_r9 (and_r9 (and_r9 (and_r9 (and_r9 (and_r9 (and_r9 (and_r9 (and_r9 (and_r9 (and_r9 (and_r9 (and_r9 (and_r9 (and_r9 (and_r9 (and_r9 (and_r9 (and_r9 (and_r9 (and_r9 (and_r9 (and_r9 (and_r9 (and_r9 (and_r9 (and_r9 (and_r9 (and_r9 (and_r9 (and_r9 (and_r9 (and_r9 (and_r9 (and_r9 (and_r9 (and_r9 (and_r9 (and_r9 (and_r9 (and_r9 (and_r9 (and_r9 (and_r9 (and_r9 (and_r9 (and_r9 (and_r9 (and_r9 lw9_all)))))))))))))))))))))))))))))))))))))))))))))))))))))))))))))))))))))))))))))))))))))))))))))))))))
set_option maxRecDepth 100000 in
theorem lw_p99 : lw_okq (⟨"BreadScribesModel", "rows", "(IIIIJI)V"⟩, 49) := lw9_ok (and_l9 (and_r9 (and_r9 (and_r9 (and_r9 (and_r9 (and_r9 (and_r9 (and_r9 (and_r9 (and_r9 (and_r9 (and_r9 (and_r9 (and_r9 (and_r9 (and_r9 (and_r9 (and_r9 (and_r9 (and_r9 (and_r9 (and_r9 (and_r9 (and_r9 (and_r9 (and_r9 (and_r9 (and_r9 (and_r9 (and_r9 (and_r9 (and_r9 (and_r9 (and_r9 (and_r9 (and_r9 (and_r9 (and_r9 (and_r9 (and_r9 (and_r9 (and_r9 (and_r9 (and_r9 (and_r9 (and_r9 (and_r9 (and_r9 (and_r9 (and_r9 (and_r9 (and_r9 (and_r9 (and_r9 (and_r9 (and_r9 (and_r9 (and_r9 (and_r9 (and_r9 (and_r9 (and_r9 (and_r9 (and_r9 (and_r9 (and_r9 (and_r9 (and_r9 (and_r9 (and_r9 (and_r9 (and_r9 (and_r9 (and_r9 (and_r9 (and_r9 (and_r9 (and_r9 (and_r9 (and_r9 (and_r9 (and_r9 (and_r9 (and_r9 (and_r9 (and_r9 (and_r9 (and_r9 (and_r9 (and_r9 (and_r9 (and_r9 (and_r9 (and_r9 (and_r9 (and_r9 (and_r9 (and_r9 (and_r9 lw9_all))))))))))))))))))))))))))))))))))))))))))))))))))))))))))))))))))))))))))))))))))))))))))))))))))))
set_option maxRecDepth 100000 in
theorem lw_p100 : lw_okq (⟨"BreadScribesModel", "answer", "(I)I"⟩, 49) := lw9_ok (and_l9 (and_r9 (and_r9 (and_r9 (and_r9 (and_r9 (and_r9 (and_r9 (and_r9 (and_r9 (and_r9 (and_r9 (and_r9 (and_r9 (and_r9 (and_r9 (and_r9 (and_r9 (and_r9 (and_r9 (and_r9 (and_r9 (and_r9 (and_r9 (and_r9 (and_r9 (and_r9 (and_r9 (and_r9 (and_r9 (and_r9 (and_r9 (and_r9 (and_r9 (and_r9 (and_r9 (and_r9 (and_r9 (and_r9 (and_r9 (and_r9 (and_r9 (and_r9 (and_r9 (and_r9 (and_r9 (and_r9 (and_r9 (and_r9 (and_r9 (and_r9 (and_r9 (and_r9 (and_r9 (and_r9 (and_r9 (and_r9 (and_r9 (and_r9 (and_r9 (and_r9 (and_r9 (and_r9 (and_r9 (and_r9 (and_r9 (and_r9 (and_r9 (and_r9 (and_r9 (and_r9 (and_r9 (and_r9 (and_r9 (and_r9 (and_r9 (and_r9 (and_r9 (and_r9 (and_r9 (and_r9 (and_r9 (and_r9 (and_r9 (and_r9 (and_r9 (and_r9 (and_r9 (and_r9 (and_r9 (and_r9 (and_r9 (and_r9 (and_r9 (and_r9 (and_r9 (and_r9 (and_r9 (and_r9 (and_r9 (and_r9 lw9_all)))))))))))))))))))))))))))))))))))))))))))))))))))))))))))))))))))))))))))))))))))))))))))))))))))))
set_option maxRecDepth 100000 in
theorem lw_p101 : lw_okq (⟨"BreadScribesModel", "kindestOf", "(J)I"⟩, 49) := lw9_ok (and_l9 (and_r9 (and_r9 (and_r9 (and_r9 (and_r9 (and_r9 (and_r9 (and_r9 (and_r9 (and_r9 (and_r9 (and_r9 (and_r9 (and_r9 (and_r9 (and_r9 (and_r9 (and_r9 (and_r9 (and_r9 (and_r9 (and_r9 (and_r9 (and_r9 (and_r9 (and_r9 (and_r9 (and_r9 (and_r9 (and_r9 (and_r9 (and_r9 (and_r9 (and_r9 (and_r9 (and_r9 (and_r9 (and_r9 (and_r9 (and_r9 (and_r9 (and_r9 (and_r9 (and_r9 (and_r9 (and_r9 (and_r9 (and_r9 (and_r9 (and_r9 (and_r9 (and_r9 (and_r9 (and_r9 (and_r9 (and_r9 (and_r9 (and_r9 (and_r9 (and_r9 (and_r9 (and_r9 (and_r9 (and_r9 (and_r9 (and_r9 (and_r9 (and_r9 (and_r9 (and_r9 (and_r9 (and_r9 (and_r9 (and_r9 (and_r9 (and_r9 (and_r9 (and_r9 (and_r9 (and_r9 (and_r9 (and_r9 (and_r9 (and_r9 (and_r9 (and_r9 (and_r9 (and_r9 (and_r9 (and_r9 (and_r9 (and_r9 (and_r9 (and_r9 (and_r9 (and_r9 (and_r9 (and_r9 (and_r9 (and_r9 (and_r9 lw9_all))))))))))))))))))))))))))))))))))))))))))))))))))))))))))))))))))))))))))))))))))))))))))))))))))))))
set_option maxRecDepth 100000 in
theorem lw_p102 : lw_okq (⟨"BreadScribesModel", "whyNoRow", "(IIII)I"⟩, 49) := lw9_ok (and_l9 (and_r9 (and_r9 (and_r9 (and_r9 (and_r9 (and_r9 (and_r9 (and_r9 (and_r9 (and_r9 (and_r9 (and_r9 (and_r9 (and_r9 (and_r9 (and_r9 (and_r9 (and_r9 (and_r9 (and_r9 (and_r9 (and_r9 (and_r9 (and_r9 (and_r9 (and_r9 (and_r9 (and_r9 (and_r9 (and_r9 (and_r9 (and_r9 (and_r9 (and_r9 (and_r9 (and_r9 (and_r9 (and_r9 (and_r9 (and_r9 (and_r9 (and_r9 (and_r9 (and_r9 (and_r9 (and_r9 (and_r9 (and_r9 (and_r9 (and_r9 (and_r9 (and_r9 (and_r9 (and_r9 (and_r9 (and_r9 (and_r9 (and_r9 (and_r9 (and_r9 (and_r9 (and_r9 (and_r9 (and_r9 (and_r9 (and_r9 (and_r9 (and_r9 (and_r9 (and_r9 (and_r9 (and_r9 (and_r9 (and_r9 (and_r9 (and_r9 (and_r9 (and_r9 (and_r9 (and_r9 (and_r9 (and_r9 (and_r9 (and_r9 (and_r9 (and_r9 (and_r9 (and_r9 (and_r9 (and_r9 (and_r9 (and_r9 (and_r9 (and_r9 (and_r9 (and_r9 (and_r9 (and_r9 (and_r9 (and_r9 (and_r9 (and_r9 lw9_all)))))))))))))))))))))))))))))))))))))))))))))))))))))))))))))))))))))))))))))))))))))))))))))))))))))))
set_option maxRecDepth 100000 in
theorem lw_p103 : lw_okq (⟨"BreadScribesModel", "numberOf", "(II)J"⟩, 49) := lw9_ok (and_l9 (and_r9 (and_r9 (and_r9 (and_r9 (and_r9 (and_r9 (and_r9 (and_r9 (and_r9 (and_r9 (and_r9 (and_r9 (and_r9 (and_r9 (and_r9 (and_r9 (and_r9 (and_r9 (and_r9 (and_r9 (and_r9 (and_r9 (and_r9 (and_r9 (and_r9 (and_r9 (and_r9 (and_r9 (and_r9 (and_r9 (and_r9 (and_r9 (and_r9 (and_r9 (and_r9 (and_r9 (and_r9 (and_r9 (and_r9 (and_r9 (and_r9 (and_r9 (and_r9 (and_r9 (and_r9 (and_r9 (and_r9 (and_r9 (and_r9 (and_r9 (and_r9 (and_r9 (and_r9 (and_r9 (and_r9 (and_r9 (and_r9 (and_r9 (and_r9 (and_r9 (and_r9 (and_r9 (and_r9 (and_r9 (and_r9 (and_r9 (and_r9 (and_r9 (and_r9 (and_r9 (and_r9 (and_r9 (and_r9 (and_r9 (and_r9 (and_r9 (and_r9 (and_r9 (and_r9 (and_r9 (and_r9 (and_r9 (and_r9 (and_r9 (and_r9 (and_r9 (and_r9 (and_r9 (and_r9 (and_r9 (and_r9 (and_r9 (and_r9 (and_r9 (and_r9 (and_r9 (and_r9 (and_r9 (and_r9 (and_r9 (and_r9 (and_r9 (and_r9 lw9_all))))))))))))))))))))))))))))))))))))))))))))))))))))))))))))))))))))))))))))))))))))))))))))))))))))))))
set_option maxRecDepth 100000 in
theorem lw_p104 : lw_okq (⟨"BreadScribesModel", "laysSlips", "(IIIJ)V"⟩, 49) := lw9_ok (and_l9 (and_r9 (and_r9 (and_r9 (and_r9 (and_r9 (and_r9 (and_r9 (and_r9 (and_r9 (and_r9 (and_r9 (and_r9 (and_r9 (and_r9 (and_r9 (and_r9 (and_r9 (and_r9 (and_r9 (and_r9 (and_r9 (and_r9 (and_r9 (and_r9 (and_r9 (and_r9 (and_r9 (and_r9 (and_r9 (and_r9 (and_r9 (and_r9 (and_r9 (and_r9 (and_r9 (and_r9 (and_r9 (and_r9 (and_r9 (and_r9 (and_r9 (and_r9 (and_r9 (and_r9 (and_r9 (and_r9 (and_r9 (and_r9 (and_r9 (and_r9 (and_r9 (and_r9 (and_r9 (and_r9 (and_r9 (and_r9 (and_r9 (and_r9 (and_r9 (and_r9 (and_r9 (and_r9 (and_r9 (and_r9 (and_r9 (and_r9 (and_r9 (and_r9 (and_r9 (and_r9 (and_r9 (and_r9 (and_r9 (and_r9 (and_r9 (and_r9 (and_r9 (and_r9 (and_r9 (and_r9 (and_r9 (and_r9 (and_r9 (and_r9 (and_r9 (and_r9 (and_r9 (and_r9 (and_r9 (and_r9 (and_r9 (and_r9 (and_r9 (and_r9 (and_r9 (and_r9 (and_r9 (and_r9 (and_r9 (and_r9 (and_r9 (and_r9 (and_r9 (and_r9 lw9_all)))))))))))))))))))))))))))))))))))))))))))))))))))))))))))))))))))))))))))))))))))))))))))))))))))))))))
set_option maxRecDepth 100000 in
theorem lw_p105 : lw_okq (⟨"BreadScribesModel", "isRow", "(IIIIJ)Z"⟩, 49) := lw9_ok (and_l9 (and_r9 (and_r9 (and_r9 (and_r9 (and_r9 (and_r9 (and_r9 (and_r9 (and_r9 (and_r9 (and_r9 (and_r9 (and_r9 (and_r9 (and_r9 (and_r9 (and_r9 (and_r9 (and_r9 (and_r9 (and_r9 (and_r9 (and_r9 (and_r9 (and_r9 (and_r9 (and_r9 (and_r9 (and_r9 (and_r9 (and_r9 (and_r9 (and_r9 (and_r9 (and_r9 (and_r9 (and_r9 (and_r9 (and_r9 (and_r9 (and_r9 (and_r9 (and_r9 (and_r9 (and_r9 (and_r9 (and_r9 (and_r9 (and_r9 (and_r9 (and_r9 (and_r9 (and_r9 (and_r9 (and_r9 (and_r9 (and_r9 (and_r9 (and_r9 (and_r9 (and_r9 (and_r9 (and_r9 (and_r9 (and_r9 (and_r9 (and_r9 (and_r9 (and_r9 (and_r9 (and_r9 (and_r9 (and_r9 (and_r9 (and_r9 (and_r9 (and_r9 (and_r9 (and_r9 (and_r9 (and_r9 (and_r9 (and_r9 (and_r9 (and_r9 (and_r9 (and_r9 (and_r9 (and_r9 (and_r9 (and_r9 (and_r9 (and_r9 (and_r9 (and_r9 (and_r9 (and_r9 (and_r9 (and_r9 (and_r9 (and_r9 (and_r9 (and_r9 (and_r9 (and_r9 lw9_all))))))))))))))))))))))))))))))))))))))))))))))))))))))))))))))))))))))))))))))))))))))))))))))))))))))))))
set_option maxRecDepth 100000 in
theorem lw_p106 : lw_okq (⟨"BreadScribesModel", "reachFrom", "(I)I"⟩, 49) := lw9_ok (and_l9 (and_r9 (and_r9 (and_r9 (and_r9 (and_r9 (and_r9 (and_r9 (and_r9 (and_r9 (and_r9 (and_r9 (and_r9 (and_r9 (and_r9 (and_r9 (and_r9 (and_r9 (and_r9 (and_r9 (and_r9 (and_r9 (and_r9 (and_r9 (and_r9 (and_r9 (and_r9 (and_r9 (and_r9 (and_r9 (and_r9 (and_r9 (and_r9 (and_r9 (and_r9 (and_r9 (and_r9 (and_r9 (and_r9 (and_r9 (and_r9 (and_r9 (and_r9 (and_r9 (and_r9 (and_r9 (and_r9 (and_r9 (and_r9 (and_r9 (and_r9 (and_r9 (and_r9 (and_r9 (and_r9 (and_r9 (and_r9 (and_r9 (and_r9 (and_r9 (and_r9 (and_r9 (and_r9 (and_r9 (and_r9 (and_r9 (and_r9 (and_r9 (and_r9 (and_r9 (and_r9 (and_r9 (and_r9 (and_r9 (and_r9 (and_r9 (and_r9 (and_r9 (and_r9 (and_r9 (and_r9 (and_r9 (and_r9 (and_r9 (and_r9 (and_r9 (and_r9 (and_r9 (and_r9 (and_r9 (and_r9 (and_r9 (and_r9 (and_r9 (and_r9 (and_r9 (and_r9 (and_r9 (and_r9 (and_r9 (and_r9 (and_r9 (and_r9 (and_r9 (and_r9 (and_r9 (and_r9 lw9_all)))))))))))))))))))))))))))))))))))))))))))))))))))))))))))))))))))))))))))))))))))))))))))))))))))))))))))
set_option maxRecDepth 100000 in
theorem lw_p107 : lw_okq (⟨"BreadScribesModel", "laysReach", "(I)V"⟩, 49) := lw9_ok (and_l9 (and_r9 (and_r9 (and_r9 (and_r9 (and_r9 (and_r9 (and_r9 (and_r9 (and_r9 (and_r9 (and_r9 (and_r9 (and_r9 (and_r9 (and_r9 (and_r9 (and_r9 (and_r9 (and_r9 (and_r9 (and_r9 (and_r9 (and_r9 (and_r9 (and_r9 (and_r9 (and_r9 (and_r9 (and_r9 (and_r9 (and_r9 (and_r9 (and_r9 (and_r9 (and_r9 (and_r9 (and_r9 (and_r9 (and_r9 (and_r9 (and_r9 (and_r9 (and_r9 (and_r9 (and_r9 (and_r9 (and_r9 (and_r9 (and_r9 (and_r9 (and_r9 (and_r9 (and_r9 (and_r9 (and_r9 (and_r9 (and_r9 (and_r9 (and_r9 (and_r9 (and_r9 (and_r9 (and_r9 (and_r9 (and_r9 (and_r9 (and_r9 (and_r9 (and_r9 (and_r9 (and_r9 (and_r9 (and_r9 (and_r9 (and_r9 (and_r9 (and_r9 (and_r9 (and_r9 (and_r9 (and_r9 (and_r9 (and_r9 (and_r9 (and_r9 (and_r9 (and_r9 (and_r9 (and_r9 (and_r9 (and_r9 (and_r9 (and_r9 (and_r9 (and_r9 (and_r9 (and_r9 (and_r9 (and_r9 (and_r9 (and_r9 (and_r9 (and_r9 (and_r9 (and_r9 (and_r9 (and_r9 lw9_all))))))))))))))))))))))))))))))))))))))))))))))))))))))))))))))))))))))))))))))))))))))))))))))))))))))))))))
set_option maxRecDepth 100000 in
theorem lw_p108 : lw_okq (⟨"BreadScribesModel", "fillOf", "(I)I"⟩, 49) := lw9_ok (and_l9 (and_r9 (and_r9 (and_r9 (and_r9 (and_r9 (and_r9 (and_r9 (and_r9 (and_r9 (and_r9 (and_r9 (and_r9 (and_r9 (and_r9 (and_r9 (and_r9 (and_r9 (and_r9 (and_r9 (and_r9 (and_r9 (and_r9 (and_r9 (and_r9 (and_r9 (and_r9 (and_r9 (and_r9 (and_r9 (and_r9 (and_r9 (and_r9 (and_r9 (and_r9 (and_r9 (and_r9 (and_r9 (and_r9 (and_r9 (and_r9 (and_r9 (and_r9 (and_r9 (and_r9 (and_r9 (and_r9 (and_r9 (and_r9 (and_r9 (and_r9 (and_r9 (and_r9 (and_r9 (and_r9 (and_r9 (and_r9 (and_r9 (and_r9 (and_r9 (and_r9 (and_r9 (and_r9 (and_r9 (and_r9 (and_r9 (and_r9 (and_r9 (and_r9 (and_r9 (and_r9 (and_r9 (and_r9 (and_r9 (and_r9 (and_r9 (and_r9 (and_r9 (and_r9 (and_r9 (and_r9 (and_r9 (and_r9 (and_r9 (and_r9 (and_r9 (and_r9 (and_r9 (and_r9 (and_r9 (and_r9 (and_r9 (and_r9 (and_r9 (and_r9 (and_r9 (and_r9 (and_r9 (and_r9 (and_r9 (and_r9 (and_r9 (and_r9 (and_r9 (and_r9 (and_r9 (and_r9 (and_r9 (and_r9 lw9_all)))))))))))))))))))))))))))))))))))))))))))))))))))))))))))))))))))))))))))))))))))))))))))))))))))))))))))))
set_option maxRecDepth 100000 in
theorem lw_p109 : lw_okq (⟨"BreadScribesModel", "plates", "(I)I"⟩, 49) := lw9_ok (and_l9 (and_r9 (and_r9 (and_r9 (and_r9 (and_r9 (and_r9 (and_r9 (and_r9 (and_r9 (and_r9 (and_r9 (and_r9 (and_r9 (and_r9 (and_r9 (and_r9 (and_r9 (and_r9 (and_r9 (and_r9 (and_r9 (and_r9 (and_r9 (and_r9 (and_r9 (and_r9 (and_r9 (and_r9 (and_r9 (and_r9 (and_r9 (and_r9 (and_r9 (and_r9 (and_r9 (and_r9 (and_r9 (and_r9 (and_r9 (and_r9 (and_r9 (and_r9 (and_r9 (and_r9 (and_r9 (and_r9 (and_r9 (and_r9 (and_r9 (and_r9 (and_r9 (and_r9 (and_r9 (and_r9 (and_r9 (and_r9 (and_r9 (and_r9 (and_r9 (and_r9 (and_r9 (and_r9 (and_r9 (and_r9 (and_r9 (and_r9 (and_r9 (and_r9 (and_r9 (and_r9 (and_r9 (and_r9 (and_r9 (and_r9 (and_r9 (and_r9 (and_r9 (and_r9 (and_r9 (and_r9 (and_r9 (and_r9 (and_r9 (and_r9 (and_r9 (and_r9 (and_r9 (and_r9 (and_r9 (and_r9 (and_r9 (and_r9 (and_r9 (and_r9 (and_r9 (and_r9 (and_r9 (and_r9 (and_r9 (and_r9 (and_r9 (and_r9 (and_r9 (and_r9 (and_r9 (and_r9 (and_r9 (and_r9 (and_r9 lw9_all))))))))))))))))))))))))))))))))))))))))))))))))))))))))))))))))))))))))))))))))))))))))))))))))))))))))))))))
set_option maxRecDepth 100000 in
theorem lw_p110 : lw_okq (⟨"BreadScribesModel", "lucks", "(IIIJ)J"⟩, 49) := lw9_ok (and_l9 (and_r9 (and_r9 (and_r9 (and_r9 (and_r9 (and_r9 (and_r9 (and_r9 (and_r9 (and_r9 (and_r9 (and_r9 (and_r9 (and_r9 (and_r9 (and_r9 (and_r9 (and_r9 (and_r9 (and_r9 (and_r9 (and_r9 (and_r9 (and_r9 (and_r9 (and_r9 (and_r9 (and_r9 (and_r9 (and_r9 (and_r9 (and_r9 (and_r9 (and_r9 (and_r9 (and_r9 (and_r9 (and_r9 (and_r9 (and_r9 (and_r9 (and_r9 (and_r9 (and_r9 (and_r9 (and_r9 (and_r9 (and_r9 (and_r9 (and_r9 (and_r9 (and_r9 (and_r9 (and_r9 (and_r9 (and_r9 (and_r9 (and_r9 (and_r9 (and_r9 (and_r9 (and_r9 (and_r9 (and_r9 (and_r9 (and_r9 (and_r9 (and_r9 (and_r9 (and_r9 (and_r9 (and_r9 (and_r9 (and_r9 (and_r9 (and_r9 (and_r9 (and_r9 (and_r9 (and_r9 (and_r9 (and_r9 (and_r9 (and_r9 (and_r9 (and_r9 (and_r9 (and_r9 (and_r9 (and_r9 (and_r9 (and_r9 (and_r9 (and_r9 (and_r9 (and_r9 (and_r9 (and_r9 (and_r9 (and_r9 (and_r9 (and_r9 (and_r9 (and_r9 (and_r9 (and_r9 (and_r9 (and_r9 (and_r9 (and_r9 lw9_all)))))))))))))))))))))))))))))))))))))))))))))))))))))))))))))))))))))))))))))))))))))))))))))))))))))))))))))))
set_option maxRecDepth 100000 in
theorem lw_p111 : lw_okq (⟨"BreadScribesModel", "runsDays", "(I)V"⟩, 49) := lw9_ok (and_l9 (and_r9 (and_r9 (and_r9 (and_r9 (and_r9 (and_r9 (and_r9 (and_r9 (and_r9 (and_r9 (and_r9 (and_r9 (and_r9 (and_r9 (and_r9 (and_r9 (and_r9 (and_r9 (and_r9 (and_r9 (and_r9 (and_r9 (and_r9 (and_r9 (and_r9 (and_r9 (and_r9 (and_r9 (and_r9 (and_r9 (and_r9 (and_r9 (and_r9 (and_r9 (and_r9 (and_r9 (and_r9 (and_r9 (and_r9 (and_r9 (and_r9 (and_r9 (and_r9 (and_r9 (and_r9 (and_r9 (and_r9 (and_r9 (and_r9 (and_r9 (and_r9 (and_r9 (and_r9 (and_r9 (and_r9 (and_r9 (and_r9 (and_r9 (and_r9 (and_r9 (and_r9 (and_r9 (and_r9 (and_r9 (and_r9 (and_r9 (and_r9 (and_r9 (and_r9 (and_r9 (and_r9 (and_r9 (and_r9 (and_r9 (and_r9 (and_r9 (and_r9 (and_r9 (and_r9 (and_r9 (and_r9 (and_r9 (and_r9 (and_r9 (and_r9 (and_r9 (and_r9 (and_r9 (and_r9 (and_r9 (and_r9 (and_r9 (and_r9 (and_r9 (and_r9 (and_r9 (and_r9 (and_r9 (and_r9 (and_r9 (and_r9 (and_r9 (and_r9 (and_r9 (and_r9 (and_r9 (and_r9 (and_r9 (and_r9 (and_r9 (and_r9 lw9_all))))))))))))))))))))))))))))))))))))))))))))))))))))))))))))))))))))))))))))))))))))))))))))))))))))))))))))))))
noncomputable def lw_privs_7 : List (MethodName × Nat) := [(⟨"BreadScribesModel", "takes", "(II)Z"⟩, 49), (⟨"BreadScribesModel", "fewestOf", "(JII)I"⟩, 49), (⟨"BreadScribesModel", "laysRows", "(IIJI)Z"⟩, 49), (⟨"BreadScribesModel", "rows", "(IIIIJI)V"⟩, 49), (⟨"BreadScribesModel", "answer", "(I)I"⟩, 49), (⟨"BreadScribesModel", "kindestOf", "(J)I"⟩, 49), (⟨"BreadScribesModel", "whyNoRow", "(IIII)I"⟩, 49), (⟨"BreadScribesModel", "numberOf", "(II)J"⟩, 49), (⟨"BreadScribesModel", "laysSlips", "(IIIJ)V"⟩, 49), (⟨"BreadScribesModel", "isRow", "(IIIIJ)Z"⟩, 49), (⟨"BreadScribesModel", "reachFrom", "(I)I"⟩, 49), (⟨"BreadScribesModel", "laysReach", "(I)V"⟩, 49), (⟨"BreadScribesModel", "fillOf", "(I)I"⟩, 49), (⟨"BreadScribesModel", "plates", "(I)I"⟩, 49), (⟨"BreadScribesModel", "lucks", "(IIIJ)J"⟩, 49), (⟨"BreadScribesModel", "runsDays", "(I)V"⟩, 49)]
theorem lw_r7 : ∀ q ∈ lw_privs_7, lw_okq q := List.forall_mem_cons.mpr ⟨lw_p96, List.forall_mem_cons.mpr ⟨lw_p97, List.forall_mem_cons.mpr ⟨lw_p98, List.forall_mem_cons.mpr ⟨lw_p99, List.forall_mem_cons.mpr ⟨lw_p100, List.forall_mem_cons.mpr ⟨lw_p101, List.forall_mem_cons.mpr ⟨lw_p102, List.forall_mem_cons.mpr ⟨lw_p103, List.forall_mem_cons.mpr ⟨lw_p104, List.forall_mem_cons.mpr ⟨lw_p105, List.forall_mem_cons.mpr ⟨lw_p106, List.forall_mem_cons.mpr ⟨lw_p107, List.forall_mem_cons.mpr ⟨lw_p108, List.forall_mem_cons.mpr ⟨lw_p109, List.forall_mem_cons.mpr ⟨lw_p110, List.forall_mem_cons.mpr ⟨lw_p111, fun _ h => absurd h List.not_mem_nil⟩⟩⟩⟩⟩⟩⟩⟩⟩⟩⟩⟩⟩⟩⟩⟩
set_option maxRecDepth 100000 in
theorem lw_p112 : lw_okq (⟨"BreadScribesModel", "doAll", "(II)V"⟩, 49) := lw9_ok (and_l9 (and_r9 (and_r9 (and_r9 (and_r9 (and_r9 (and_r9 (and_r9 (and_r9 (and_r9 (and_r9 (and_r9 (and_r9 (and_r9 (and_r9 (and_r9 (and_r9 (and_r9 (and_r9 (and_r9 (and_r9 (and_r9 (and_r9 (and_r9 (and_r9 (and_r9 (and_r9 (and_r9 (and_r9 (and_r9 (and_r9 (and_r9 (and_r9 (and_r9 (and_r9 (and_r9 (and_r9 (and_r9 (and_r9 (and_r9 (and_r9 (and_r9 (and_r9 (and_r9 (and_r9 (and_r9 (and_r9 (and_r9 (and_r9 (and_r9 (and_r9 (and_r9 (and_r9 (and_r9 (and_r9 (and_r9 (and_r9 (and_r9 (and_r9 (and_r9 (and_r9 (and_r9 (and_r9 (and_r9 (and_r9 (and_r9 (and_r9 (and_r9 (and_r9 (and_r9 (and_r9 (and_r9 (and_r9 (and_r9 (and_r9 (and_r9 (and_r9 (and_r9 (and_r9 (and_r9 (and_r9 (and_r9 (and_r9 (and_r9 (and_r9 (and_r9 (and_r9 (and_r9 (and_r9 (and_r9 (and_r9 (and_r9 (and_r9 (and_r9 (and_r9 (and_r9 (and_r9 (and_r9 (and_r9 (and_r9 (and_r9 (and_r9 (and_r9 (and_r9 (and_r9 (and_r9 (and_r9 (and_r9 (and_r9 (and_r9 (and_r9 (and_r9 (and_r9 lw9_all)))))))))))))))))))))))))))))))))))))))))))))))))))))))))))))))))))))))))))))))))))))))))))))))))))))))))))))))))
set_option maxRecDepth 100000 in
theorem lw_p113 : lw_okq (⟨"BreadScribesModel", "doOne", "(I)V"⟩, 49) := lw9_ok (and_l9 (and_r9 (and_r9 (and_r9 (and_r9 (and_r9 (and_r9 (and_r9 (and_r9 (and_r9 (and_r9 (and_r9 (and_r9 (and_r9 (and_r9 (and_r9 (and_r9 (and_r9 (and_r9 (and_r9 (and_r9 (and_r9 (and_r9 (and_r9 (and_r9 (and_r9 (and_r9 (and_r9 (and_r9 (and_r9 (and_r9 (and_r9 (and_r9 (and_r9 (and_r9 (and_r9 (and_r9 (and_r9 (and_r9 (and_r9 (and_r9 (and_r9 (and_r9 (and_r9 (and_r9 (and_r9 (and_r9 (and_r9 (and_r9 (and_r9 (and_r9 (and_r9 (and_r9 (and_r9 (and_r9 (and_r9 (and_r9 (and_r9 (and_r9 (and_r9 (and_r9 (and_r9 (and_r9 (and_r9 (and_r9 (and_r9 (and_r9 (and_r9 (and_r9 (and_r9 (and_r9 (and_r9 (and_r9 (and_r9 (and_r9 (and_r9 (and_r9 (and_r9 (and_r9 (and_r9 (and_r9 (and_r9 (and_r9 (and_r9 (and_r9 (and_r9 (and_r9 (and_r9 (and_r9 (and_r9 (and_r9 (and_r9 (and_r9 (and_r9 (and_r9 (and_r9 (and_r9 (and_r9 (and_r9 (and_r9 (and_r9 (and_r9 (and_r9 (and_r9 (and_r9 (and_r9 (and_r9 (and_r9 (and_r9 (and_r9 (and_r9 (and_r9 (and_r9 (and_r9 lw9_all))))))))))))))))))))))))))))))))))))))))))))))))))))))))))))))))))))))))))))))))))))))))))))))))))))))))))))))))))
set_option maxRecDepth 100000 in
theorem lw_p114 : lw_okq (⟨"BreadScribesModel", "does", "(I)Z"⟩, 49) := lw9_ok (and_l9 (and_r9 (and_r9 (and_r9 (and_r9 (and_r9 (and_r9 (and_r9 (and_r9 (and_r9 (and_r9 (and_r9 (and_r9 (and_r9 (and_r9 (and_r9 (and_r9 (and_r9 (and_r9 (and_r9 (and_r9 (and_r9 (and_r9 (and_r9 (and_r9 (and_r9 (and_r9 (and_r9 (and_r9 (and_r9 (and_r9 (and_r9 (and_r9 (and_r9 (and_r9 (and_r9 (and_r9 (and_r9 (and_r9 (and_r9 (and_r9 (and_r9 (and_r9 (and_r9 (and_r9 (and_r9 (and_r9 (and_r9 (and_r9 (and_r9 (and_r9 (and_r9 (and_r9 (and_r9 (and_r9 (and_r9 (and_r9 (and_r9 (and_r9 (and_r9 (and_r9 (and_r9 (and_r9 (and_r9 (and_r9 (and_r9 (and_r9 (and_r9 (and_r9 (and_r9 (and_r9 (and_r9 (and_r9 (and_r9 (and_r9 (and_r9 (and_r9 (and_r9 (and_r9 (and_r9 (and_r9 (and_r9 (and_r9 (and_r9 (and_r9 (and_r9 (and_r9 (and_r9 (and_r9 (and_r9 (and_r9 (and_r9 (and_r9 (and_r9 (and_r9 (and_r9 (and_r9 (and_r9 (and_r9 (and_r9 (and_r9 (and_r9 (and_r9 (and_r9 (and_r9 (and_r9 (and_r9 (and_r9 (and_r9 (and_r9 (and_r9 (and_r9 (and_r9 (and_r9 (and_r9 lw9_all)))))))))))))))))))))))))))))))))))))))))))))))))))))))))))))))))))))))))))))))))))))))))))))))))))))))))))))))))))
set_option maxRecDepth 100000 in
theorem lw_p115 : lw_okq (⟨"BreadScribesModel", "isGiven", "(II)Z"⟩, 49) := lw9_ok (and_l9 (and_r9 (and_r9 (and_r9 (and_r9 (and_r9 (and_r9 (and_r9 (and_r9 (and_r9 (and_r9 (and_r9 (and_r9 (and_r9 (and_r9 (and_r9 (and_r9 (and_r9 (and_r9 (and_r9 (and_r9 (and_r9 (and_r9 (and_r9 (and_r9 (and_r9 (and_r9 (and_r9 (and_r9 (and_r9 (and_r9 (and_r9 (and_r9 (and_r9 (and_r9 (and_r9 (and_r9 (and_r9 (and_r9 (and_r9 (and_r9 (and_r9 (and_r9 (and_r9 (and_r9 (and_r9 (and_r9 (and_r9 (and_r9 (and_r9 (and_r9 (and_r9 (and_r9 (and_r9 (and_r9 (and_r9 (and_r9 (and_r9 (and_r9 (and_r9 (and_r9 (and_r9 (and_r9 (and_r9 (and_r9 (and_r9 (and_r9 (and_r9 (and_r9 (and_r9 (and_r9 (and_r9 (and_r9 (and_r9 (and_r9 (and_r9 (and_r9 (and_r9 (and_r9 (and_r9 (and_r9 (and_r9 (and_r9 (and_r9 (and_r9 (and_r9 (and_r9 (and_r9 (and_r9 (and_r9 (and_r9 (and_r9 (and_r9 (and_r9 (and_r9 (and_r9 (and_r9 (and_r9 (and_r9 (and_r9 (and_r9 (and_r9 (and_r9 (and_r9 (and_r9 (and_r9 (and_r9 (and_r9 (and_r9 (and_r9 (and_r9 (and_r9 (and_r9 (and_r9 (and_r9 (and_r9 lw9_all))))))))))))))))))))))))))))))))))))))))))))))))))))))))))))))))))))))))))))))))))))))))))))))))))))))))))))))))))))
set_option maxRecDepth 100000 in
theorem lw_p116 : lw_okq (⟨"BreadScribesModel", "isBaked", "(I)Z"⟩, 49) := lw9_ok (and_l9 (and_r9 (and_r9 (and_r9 (and_r9 (and_r9 (and_r9 (and_r9 (and_r9 (and_r9 (and_r9 (and_r9 (and_r9 (and_r9 (and_r9 (and_r9 (and_r9 (and_r9 (and_r9 (and_r9 (and_r9 (and_r9 (and_r9 (and_r9 (and_r9 (and_r9 (and_r9 (and_r9 (and_r9 (and_r9 (and_r9 (and_r9 (and_r9 (and_r9 (and_r9 (and_r9 (and_r9 (and_r9 (and_r9 (and_r9 (and_r9 (and_r9 (and_r9 (and_r9 (and_r9 (and_r9 (and_r9 (and_r9 (and_r9 (and_r9 (and_r9 (and_r9 (and_r9 (and_r9 (and_r9 (and_r9 (and_r9 (and_r9 (and_r9 (and_r9 (and_r9 (and_r9 (and_r9 (and_r9 (and_r9 (and_r9 (and_r9 (and_r9 (and_r9 (and_r9 (and_r9 (and_r9 (and_r9 (and_r9 (and_r9 (and_r9 (and_r9 (and_r9 (and_r9 (and_r9 (and_r9 (and_r9 (and_r9 (and_r9 (and_r9 (and_r9 (and_r9 (and_r9 (and_r9 (and_r9 (and_r9 (and_r9 (and_r9 (and_r9 (and_r9 (and_r9 (and_r9 (and_r9 (and_r9 (and_r9 (and_r9 (and_r9 (and_r9 (and_r9 (and_r9 (and_r9 (and_r9 (and_r9 (and_r9 (and_r9 (and_r9 (and_r9 (and_r9 (and_r9 (and_r9 (and_r9 (and_r9 lw9_all)))))))))))))))))))))))))))))))))))))))))))))))))))))))))))))))))))))))))))))))))))))))))))))))))))))))))))))))))))))
set_option maxRecDepth 100000 in
theorem lw_p117 : lw_okq (⟨"BreadScribesModel", "isAny", "()Z"⟩, 49) := lw9_ok (and_l9 (and_r9 (and_r9 (and_r9 (and_r9 (and_r9 (and_r9 (and_r9 (and_r9 (and_r9 (and_r9 (and_r9 (and_r9 (and_r9 (and_r9 (and_r9 (and_r9 (and_r9 (and_r9 (and_r9 (and_r9 (and_r9 (and_r9 (and_r9 (and_r9 (and_r9 (and_r9 (and_r9 (and_r9 (and_r9 (and_r9 (and_r9 (and_r9 (and_r9 (and_r9 (and_r9 (and_r9 (and_r9 (and_r9 (and_r9 (and_r9 (and_r9 (and_r9 (and_r9 (and_r9 (and_r9 (and_r9 (and_r9 (and_r9 (and_r9 (and_r9 (and_r9 (and_r9 (and_r9 (and_r9 (and_r9 (and_r9 (and_r9 (and_r9 (and_r9 (and_r9 (and_r9 (and_r9 (and_r9 (and_r9 (and_r9 (and_r9 (and_r9 (and_r9 (and_r9 (and_r9 (and_r9 (and_r9 (and_r9 (and_r9 (and_r9 (and_r9 (and_r9 (and_r9 (and_r9 (and_r9 (and_r9 (and_r9 (and_r9 (and_r9 (and_r9 (and_r9 (and_r9 (and_r9 (and_r9 (and_r9 (and_r9 (and_r9 (and_r9 (and_r9 (and_r9 (and_r9 (and_r9 (and_r9 (and_r9 (and_r9 (and_r9 (and_r9 (and_r9 (and_r9 (and_r9 (and_r9 (and_r9 (and_r9 (and_r9 (and_r9 (and_r9 (and_r9 (and_r9 (and_r9 (and_r9 (and_r9 (and_r9 lw9_all))))))))))))))))))))))))))))))))))))))))))))))))))))))))))))))))))))))))))))))))))))))))))))))))))))))))))))))))))))))
set_option maxRecDepth 100000 in
theorem lw_p118 : lw_okq (⟨"BreadScribesModel", "draw", "(I)I"⟩, 49) := lw9_ok (and_l9 (and_r9 (and_r9 (and_r9 (and_r9 (and_r9 (and_r9 (and_r9 (and_r9 (and_r9 (and_r9 (and_r9 (and_r9 (and_r9 (and_r9 (and_r9 (and_r9 (and_r9 (and_r9 (and_r9 (and_r9 (and_r9 (and_r9 (and_r9 (and_r9 (and_r9 (and_r9 (and_r9 (and_r9 (and_r9 (and_r9 (and_r9 (and_r9 (and_r9 (and_r9 (and_r9 (and_r9 (and_r9 (and_r9 (and_r9 (and_r9 (and_r9 (and_r9 (and_r9 (and_r9 (and_r9 (and_r9 (and_r9 (and_r9 (and_r9 (and_r9 (and_r9 (and_r9 (and_r9 (and_r9 (and_r9 (and_r9 (and_r9 (and_r9 (and_r9 (and_r9 (and_r9 (and_r9 (and_r9 (and_r9 (and_r9 (and_r9 (and_r9 (and_r9 (and_r9 (and_r9 (and_r9 (and_r9 (and_r9 (and_r9 (and_r9 (and_r9 (and_r9 (and_r9 (and_r9 (and_r9 (and_r9 (and_r9 (and_r9 (and_r9 (and_r9 (and_r9 (and_r9 (and_r9 (and_r9 (and_r9 (and_r9 (and_r9 (and_r9 (and_r9 (and_r9 (and_r9 (and_r9 (and_r9 (and_r9 (and_r9 (and_r9 (and_r9 (and_r9 (and_r9 (and_r9 (and_r9 (and_r9 (and_r9 (and_r9 (and_r9 (and_r9 (and_r9 (and_r9 (and_r9 (and_r9 (and_r9 (and_r9 (and_r9 lw9_all)))))))))))))))))))))))))))))))))))))))))))))))))))))))))))))))))))))))))))))))))))))))))))))))))))))))))))))))))))))))
set_option maxRecDepth 100000 in
theorem lw_p119 : lw_okq (⟨"BreadScribesModel", "holds", "(I)Z"⟩, 49) := lw9_ok (and_r9 (and_r9 (and_r9 (and_r9 (and_r9 (and_r9 (and_r9 (and_r9 (and_r9 (and_r9 (and_r9 (and_r9 (and_r9 (and_r9 (and_r9 (and_r9 (and_r9 (and_r9 (and_r9 (and_r9 (and_r9 (and_r9 (and_r9 (and_r9 (and_r9 (and_r9 (and_r9 (and_r9 (and_r9 (and_r9 (and_r9 (and_r9 (and_r9 (and_r9 (and_r9 (and_r9 (and_r9 (and_r9 (and_r9 (and_r9 (and_r9 (and_r9 (and_r9 (and_r9 (and_r9 (and_r9 (and_r9 (and_r9 (and_r9 (and_r9 (and_r9 (and_r9 (and_r9 (and_r9 (and_r9 (and_r9 (and_r9 (and_r9 (and_r9 (and_r9 (and_r9 (and_r9 (and_r9 (and_r9 (and_r9 (and_r9 (and_r9 (and_r9 (and_r9 (and_r9 (and_r9 (and_r9 (and_r9 (and_r9 (and_r9 (and_r9 (and_r9 (and_r9 (and_r9 (and_r9 (and_r9 (and_r9 (and_r9 (and_r9 (and_r9 (and_r9 (and_r9 (and_r9 (and_r9 (and_r9 (and_r9 (and_r9 (and_r9 (and_r9 (and_r9 (and_r9 (and_r9 (and_r9 (and_r9 (and_r9 (and_r9 (and_r9 (and_r9 (and_r9 (and_r9 (and_r9 (and_r9 (and_r9 (and_r9 (and_r9 (and_r9 (and_r9 (and_r9 (and_r9 (and_r9 (and_r9 (and_r9 (and_r9 (and_r9 lw9_all)))))))))))))))))))))))))))))))))))))))))))))))))))))))))))))))))))))))))))))))))))))))))))))))))))))))))))))))))))))))
noncomputable def lw_privs_8 : List (MethodName × Nat) := [(⟨"BreadScribesModel", "doAll", "(II)V"⟩, 49), (⟨"BreadScribesModel", "doOne", "(I)V"⟩, 49), (⟨"BreadScribesModel", "does", "(I)Z"⟩, 49), (⟨"BreadScribesModel", "isGiven", "(II)Z"⟩, 49), (⟨"BreadScribesModel", "isBaked", "(I)Z"⟩, 49), (⟨"BreadScribesModel", "isAny", "()Z"⟩, 49), (⟨"BreadScribesModel", "draw", "(I)I"⟩, 49), (⟨"BreadScribesModel", "holds", "(I)Z"⟩, 49)]
theorem lw_r8 : ∀ q ∈ lw_privs_8, lw_okq q := List.forall_mem_cons.mpr ⟨lw_p112, List.forall_mem_cons.mpr ⟨lw_p113, List.forall_mem_cons.mpr ⟨lw_p114, List.forall_mem_cons.mpr ⟨lw_p115, List.forall_mem_cons.mpr ⟨lw_p116, List.forall_mem_cons.mpr ⟨lw_p117, List.forall_mem_cons.mpr ⟨lw_p118, List.forall_mem_cons.mpr ⟨lw_p119, fun _ h => absurd h List.not_mem_nil⟩⟩⟩⟩⟩⟩⟩⟩
noncomputable def lw_privs : List (MethodName × Nat) := lw_privs_1 ++ (lw_privs_2 ++ (lw_privs_3 ++ (lw_privs_4 ++ (lw_privs_5 ++ (lw_privs_6 ++ (lw_privs_7 ++ (lw_privs_8)))))))
noncomputable def lw_tbl : List Cond := k2_sels lw_privs ++ tables_1
theorem lw_privs_ok : ∀ q ∈ lw_privs, lw_okq q := by
  show ∀ q ∈ lw_privs_1 ++ (lw_privs_2 ++ (lw_privs_3 ++ (lw_privs_4 ++ (lw_privs_5 ++ (lw_privs_6 ++ (lw_privs_7 ++ (lw_privs_8))))))), lw_okq q
  exact List.forall_mem_append.mpr ⟨lw_r1, List.forall_mem_append.mpr ⟨lw_r2, List.forall_mem_append.mpr ⟨lw_r3, List.forall_mem_append.mpr ⟨lw_r4, List.forall_mem_append.mpr ⟨lw_r5, List.forall_mem_append.mpr ⟨lw_r6, List.forall_mem_append.mpr ⟨lw_r7, lw_r8⟩⟩⟩⟩⟩⟩⟩
-- ===== end of PART A; then your names; then what follows =====
noncomputable def tbF (i : Nat) : Option Cond := bif Nat.blt i 120 then (k2_sels lw_privs)[i]? else (tbC ((i - 120) / 240))[(i - 120) % 240]?
theorem tbF_in {w : Cond} {i : Nat} (h : tbF i = some w) : w ∈ lw_tbl := by
  unfold tbF at h
  cases q : Nat.blt i 120 with
  | true =>
    rw [q, cond_true] at h
    exact List.mem_append_left _ (List.mem_of_getElem? h)
  | false =>
    rw [q, cond_false] at h
    exact List.mem_append_right _ (tbC_sub _ _ (List.mem_of_getElem? h))
/-! ===== BEGIN words of one list among another's, by their places ===== -/
/-! ===== END ===== -/

/-! ===== BEGIN printed: names, fields, word lists, decode rows ===== -/
noncomputable def RX0 : String := "BreadScribes$Bakery"
noncomputable def TX0 : u_T := fun k => match k with
  | 0 => ("BreadScribes$Bakery", "stock", "[I", true)
  | 1 => ("BreadScribes$Bakery", "odds", "I", false)
  | 2 => ("BreadScribes$Bakery", "known", "I", false)
  | 3 => ("BreadScribes$Bakery", "cuts", "I", false)
  | 4 => ("BreadScribes$Bakery", "men", "I", false)
  | 5 => ("BreadScribes$Bakery", "names", "[J", true)
  | 6 => ("BreadScribes$Bakery", "dueTop", "[I", true)
  | 7 => ("BreadScribes$Bakery", "dueBottom", "[I", true)
  | _ => ("BreadScribes$Bakery", "having", "[I", true)
noncomputable def tyX0 : Nat → FieldType := fun k => match k with
  | 0 => .array .int
  | 1 => .int
  | 2 => .int
  | 3 => .int
  | 4 => .int
  | 5 => .array .long
  | 6 => .array .int
  | 7 => .array .int
  | _ => .array .int
theorem nmX0 : ∀ a, a < 9 → ∀ b, b < 9 → a ≠ b → (TX0 a).2.1 ≠ (TX0 b).2.1 := by decide +kernel
theorem tyX0_ok : ∀ k, k < 9 → parseFieldDescriptor (TX0 k).2.2.1 = some (tyX0 k) := by decide +kernel
noncomputable abbrev cX0_init : ByteArray := prog_2_method_1_code
noncomputable def yX0_init : MethodName := ⟨RX0, "<init>", "()V"⟩
noncomputable abbrev cX0_forget : ByteArray := prog_2_method_2_code
noncomputable def yX0_forget : MethodName := ⟨RX0, "forget", "()V"⟩
noncomputable abbrev cX0_copyFrom : ByteArray := prog_2_method_3_code
noncomputable def yX0_copyFrom : MethodName := ⟨RX0, "copyFrom", "(LBreadScribes$Bakery;)V"⟩
noncomputable abbrev cX0_isMan : ByteArray := prog_2_method_4_code
noncomputable def yX0_isMan : MethodName := ⟨RX0, "isMan", "(I)Z"⟩
noncomputable abbrev cX0_addMan : ByteArray := prog_2_method_5_code
noncomputable def yX0_addMan : MethodName := ⟨RX0, "addMan", "(JII)I"⟩
noncomputable abbrev cX0_manNamed : ByteArray := prog_2_method_6_code
noncomputable def yX0_manNamed : MethodName := ⟨RX0, "manNamed", "(J)I"⟩
noncomputable abbrev cX0_pieces : ByteArray := prog_2_method_7_code
noncomputable def yX0_pieces : MethodName := ⟨RX0, "pieces", "()I"⟩
noncomputable abbrev cX0_stockSet : ByteArray := prog_2_method_8_code
noncomputable def yX0_stockSet : MethodName := ⟨RX0, "stockSet", "()I"⟩
noncomputable abbrev cX0_stockCrumbs : ByteArray := prog_2_method_9_code
noncomputable def yX0_stockCrumbs : MethodName := ⟨RX0, "stockCrumbs", "()J"⟩
noncomputable abbrev cX0_holding : ByteArray := prog_2_method_10_code
noncomputable def yX0_holding : MethodName := ⟨RX0, "holding", "(I)J"⟩
noncomputable abbrev cX0_allHoldings : ByteArray := prog_2_method_11_code
noncomputable def yX0_allHoldings : MethodName := ⟨RX0, "allHoldings", "()J"⟩
noncomputable abbrev cX0_lacking : ByteArray := prog_2_method_12_code
noncomputable def yX0_lacking : MethodName := ⟨RX0, "lacking", "(I)J"⟩
noncomputable abbrev cX0_evenMen : ByteArray := prog_2_method_13_code
noncomputable def yX0_evenMen : MethodName := ⟨RX0, "evenMen", "()I"⟩
noncomputable abbrev cX0_giftsFor : ByteArray := prog_2_method_14_code
noncomputable def yX0_giftsFor : MethodName := ⟨RX0, "giftsFor", "(I)I"⟩
noncomputable abbrev cX0_addLoaves : ByteArray := prog_2_method_15_code
noncomputable def yX0_addLoaves : MethodName := ⟨RX0, "addLoaves", "(I)I"⟩
noncomputable abbrev cX0_cutUp : ByteArray := prog_2_method_16_code
noncomputable def yX0_cutUp : MethodName := ⟨RX0, "cutUp", "(III)I"⟩
noncomputable abbrev cX0_stockAfterCut : ByteArray := prog_2_method_17_code
noncomputable def yX0_stockAfterCut : MethodName := ⟨RX0, "stockAfterCut", "(IIII)I"⟩
noncomputable abbrev cX0_splitUp : ByteArray := prog_2_method_18_code
noncomputable def yX0_splitUp : MethodName := ⟨RX0, "splitUp", "(II)I"⟩
noncomputable abbrev cX0_handOver : ByteArray := prog_2_method_19_code
noncomputable def yX0_handOver : MethodName := ⟨RX0, "handOver", "(II)I"⟩
noncomputable abbrev cX0_handBack : ByteArray := prog_2_method_20_code
noncomputable def yX0_handBack : MethodName := ⟨RX0, "handBack", "(II)I"⟩
noncomputable def RX1 : String := "BreadScribes$BakeryReader"
noncomputable def TX1 : u_T := fun k => match k with
  | 0 => ("BreadScribes$BakeryReader", "oddsTold", "Z", false)
  | 1 => ("BreadScribes$BakeryReader", "knownTold", "Z", false)
  | _ => ("BreadScribes$BakeryReader", "stockTold", "I", false)
noncomputable def tyX1 : Nat → FieldType := fun k => match k with
  | 0 => .boolean
  | 1 => .boolean
  | _ => .int
theorem nmX1 : ∀ a, a < 3 → ∀ b, b < 3 → a ≠ b → (TX1 a).2.1 ≠ (TX1 b).2.1 := by decide +kernel
theorem tyX1_ok : ∀ k, k < 3 → parseFieldDescriptor (TX1 k).2.2.1 = some (tyX1 k) := by decide +kernel
noncomputable abbrev cX1_init : ByteArray := prog_3_method_1_code
noncomputable def yX1_init : MethodName := ⟨RX1, "<init>", "()V"⟩
noncomputable abbrev cX1_readInto : ByteArray := prog_3_method_2_code
noncomputable def yX1_readInto : MethodName := ⟨RX1, "readInto", "(LBreadScribes$Bakery;LBreadScribes$Reader;)Z"⟩
noncomputable abbrev cX1_readOdds : ByteArray := prog_3_method_3_code
noncomputable def yX1_readOdds : MethodName := ⟨RX1, "readOdds", "(LBreadScribes$Bakery;LBreadScribes$Reader;)Z"⟩
noncomputable abbrev cX1_readStore : ByteArray := prog_3_method_4_code
noncomputable def yX1_readStore : MethodName := ⟨RX1, "readStore", "(LBreadScribes$Bakery;LBreadScribes$Reader;)Z"⟩
noncomputable abbrev cX1_readMan : ByteArray := prog_3_method_5_code
noncomputable def yX1_readMan : MethodName := ⟨RX1, "readMan", "(LBreadScribes$Bakery;LBreadScribes$Reader;)Z"⟩
noncomputable abbrev cX1_readKnown : ByteArray := prog_3_method_6_code
noncomputable def yX1_readKnown : MethodName := ⟨RX1, "readKnown", "(LBreadScribes$Bakery;LBreadScribes$Reader;)Z"⟩
noncomputable abbrev cX1_takeSlices : ByteArray := prog_3_method_7_code
noncomputable def yX1_takeSlices : MethodName := ⟨RX1, "takeSlices", "(LBreadScribes$Reader;)I"⟩
noncomputable def RX2 : String := "BreadScribes$Days"
noncomputable def TX2 : u_T := fun k => match k with
  | 0 => ("BreadScribes$Days", "there", "Z", false)
  | 1 => ("BreadScribes$Days", "steps", "I", false)
  | 2 => ("BreadScribes$Days", "length", "I", false)
  | 3 => ("BreadScribes$Days", "kind", "[I", true)
  | 4 => ("BreadScribes$Days", "first", "[I", true)
  | 5 => ("BreadScribes$Days", "second", "[I", true)
  | 6 => ("BreadScribes$Days", "third", "[I", true)
  | _ => ("BreadScribes$Days", "mate", "[I", true)
noncomputable def tyX2 : Nat → FieldType := fun k => match k with
  | 0 => .boolean
  | 1 => .int
  | 2 => .int
  | 3 => .array .int
  | 4 => .array .int
  | 5 => .array .int
  | 6 => .array .int
  | _ => .array .int
theorem nmX2 : ∀ a, a < 8 → ∀ b, b < 8 → a ≠ b → (TX2 a).2.1 ≠ (TX2 b).2.1 := by decide +kernel
theorem tyX2_ok : ∀ k, k < 8 → parseFieldDescriptor (TX2 k).2.2.1 = some (tyX2 k) := by decide +kernel
noncomputable abbrev cX2_init : ByteArray := prog_4_method_1_code
noncomputable def yX2_init : MethodName := ⟨RX2, "<init>", "()V"⟩
noncomputable abbrev cX2_forget : ByteArray := prog_4_method_2_code
noncomputable def yX2_forget : MethodName := ⟨RX2, "forget", "()V"⟩
noncomputable abbrev cX2_copyFrom : ByteArray := prog_4_method_3_code
noncomputable def yX2_copyFrom : MethodName := ⟨RX2, "copyFrom", "(LBreadScribes$Days;)V"⟩
noncomputable abbrev cX2_add : ByteArray := prog_4_method_4_code
noncomputable def yX2_add : MethodName := ⟨RX2, "add", "(IIII)Z"⟩
noncomputable abbrev cX2_pair : ByteArray := prog_4_method_5_code
noncomputable def yX2_pair : MethodName := ⟨RX2, "pair", "(II)V"⟩
noncomputable def RX3 : String := "BreadScribes$DaysReader"
noncomputable def TX3 : u_T := fun k => match k with
  | 0 => ("BreadScribes$DaysReader", "open", "[I", true)
  | _ => ("BreadScribes$DaysReader", "depth", "I", false)
noncomputable def tyX3 : Nat → FieldType := fun k => match k with
  | 0 => .array .int
  | _ => .int
theorem nmX3 : ∀ a, a < 2 → ∀ b, b < 2 → a ≠ b → (TX3 a).2.1 ≠ (TX3 b).2.1 := by decide +kernel
theorem tyX3_ok : ∀ k, k < 2 → parseFieldDescriptor (TX3 k).2.2.1 = some (tyX3 k) := by decide +kernel
noncomputable abbrev cX3_init : ByteArray := prog_5_method_1_code
noncomputable def yX3_init : MethodName := ⟨RX3, "<init>", "()V"⟩
noncomputable abbrev cX3_readInto : ByteArray := prog_5_method_2_code
noncomputable def yX3_readInto : MethodName := ⟨RX3, "readInto", "(LBreadScribes$Days;LBreadScribes$Bakery;LBreadScribes$Reader;)Z"⟩
noncomputable abbrev cX3_readEnd : ByteArray := prog_5_method_3_code
noncomputable def yX3_readEnd : MethodName := ⟨RX3, "readEnd", "(LBreadScribes$Days;LBreadScribes$Reader;)Z"⟩
noncomputable abbrev cX3_readStep : ByteArray := prog_5_method_4_code
noncomputable def yX3_readStep : MethodName := ⟨RX3, "readStep", "(LBreadScribes$Days;LBreadScribes$Bakery;LBreadScribes$Reader;)Z"⟩
noncomputable abbrev cX3_readAct : ByteArray := prog_5_method_5_code
noncomputable def yX3_readAct : MethodName := ⟨RX3, "readAct", "(LBreadScribes$Days;LBreadScribes$Bakery;ILBreadScribes$Reader;)Z"⟩
noncomputable abbrev cX3_readCut : ByteArray := prog_5_method_6_code
noncomputable def yX3_readCut : MethodName := ⟨RX3, "readCut", "(LBreadScribes$Days;LBreadScribes$Reader;)Z"⟩
noncomputable abbrev cX3_readTest : ByteArray := prog_5_method_7_code
noncomputable def yX3_readTest : MethodName := ⟨RX3, "readTest", "(LBreadScribes$Days;LBreadScribes$Bakery;LBreadScribes$Reader;)Z"⟩
noncomputable abbrev cX3_takeMan : ByteArray := prog_5_method_8_code
noncomputable def yX3_takeMan : MethodName := ⟨RX3, "takeMan", "(LBreadScribes$Bakery;LBreadScribes$Reader;)I"⟩
noncomputable def RX4 : String := "BreadScribes$Life"
noncomputable def TX4 : u_T := fun k => match k with
  | 0 => ("BreadScribes$Life", "there", "Z", false)
  | 1 => ("BreadScribes$Life", "steps", "I", false)
  | 2 => ("BreadScribes$Life", "missed", "I", false)
  | 3 => ("BreadScribes$Life", "cuts", "I", false)
  | 4 => ("BreadScribes$Life", "given", "I", false)
  | 5 => ("BreadScribes$Life", "baked", "I", false)
  | 6 => ("BreadScribes$Life", "left", "I", false)
  | 7 => ("BreadScribes$Life", "seed", "I", false)
  | _ => ("BreadScribes$Life", "rounds", "[I", true)
noncomputable def tyX4 : Nat → FieldType := fun k => match k with
  | 0 => .boolean
  | 1 => .int
  | 2 => .int
  | 3 => .int
  | 4 => .int
  | 5 => .int
  | 6 => .int
  | 7 => .int
  | _ => .array .int
theorem nmX4 : ∀ a, a < 9 → ∀ b, b < 9 → a ≠ b → (TX4 a).2.1 ≠ (TX4 b).2.1 := by decide +kernel
theorem tyX4_ok : ∀ k, k < 9 → parseFieldDescriptor (TX4 k).2.2.1 = some (tyX4 k) := by decide +kernel
noncomputable abbrev cX4_init : ByteArray := prog_6_method_1_code
noncomputable def yX4_init : MethodName := ⟨RX4, "<init>", "()V"⟩
noncomputable abbrev cX4_run : ByteArray := prog_6_method_2_code
noncomputable def yX4_run : MethodName := ⟨RX4, "run", "(LBreadScribes$Bakery;LBreadScribes$Days;I)V"⟩
noncomputable abbrev cX4_behindEnd : ByteArray := prog_6_method_3_code
noncomputable def yX4_behindEnd : MethodName := ⟨RX4, "behindEnd", "(LBreadScribes$Days;I)I"⟩
noncomputable abbrev cX4_behindStep : ByteArray := prog_6_method_4_code
noncomputable def yX4_behindStep : MethodName := ⟨RX4, "behindStep", "(LBreadScribes$Bakery;LBreadScribes$Days;I)I"⟩
noncomputable abbrev cX4_holdsTrue : ByteArray := prog_6_method_5_code
noncomputable def yX4_holdsTrue : MethodName := ⟨RX4, "holdsTrue", "(LBreadScribes$Bakery;LBreadScribes$Days;I)Z"⟩
noncomputable abbrev cX4_compares : ByteArray := prog_6_method_6_code
noncomputable def yX4_compares : MethodName := ⟨RX4, "compares", "(JIJ)Z"⟩
noncomputable abbrev cX4_act : ByteArray := prog_6_method_7_code
noncomputable def yX4_act : MethodName := ⟨RX4, "act", "(LBreadScribes$Bakery;LBreadScribes$Days;I)Z"⟩
noncomputable abbrev cX4_doAny : ByteArray := prog_6_method_8_code
noncomputable def yX4_doAny : MethodName := ⟨RX4, "doAny", "(LBreadScribes$Bakery;)Z"⟩
noncomputable abbrev cX4_cutUp : ByteArray := prog_6_method_9_code
noncomputable def yX4_cutUp : MethodName := ⟨RX4, "cutUp", "(LBreadScribes$Bakery;III)Z"⟩
noncomputable abbrev cX4_splitUp : ByteArray := prog_6_method_10_code
noncomputable def yX4_splitUp : MethodName := ⟨RX4, "splitUp", "(LBreadScribes$Bakery;II)Z"⟩
noncomputable abbrev cX4_handOver : ByteArray := prog_6_method_11_code
noncomputable def yX4_handOver : MethodName := ⟨RX4, "handOver", "(LBreadScribes$Bakery;II)Z"⟩
noncomputable abbrev cX4_addLoaves : ByteArray := prog_6_method_12_code
noncomputable def yX4_addLoaves : MethodName := ⟨RX4, "addLoaves", "(LBreadScribes$Bakery;I)Z"⟩
noncomputable abbrev cX4_draw : ByteArray := prog_6_method_13_code
noncomputable def yX4_draw : MethodName := ⟨RX4, "draw", "(I)I"⟩
noncomputable def RX5 : String := "BreadScribes$Reach"
noncomputable def TX5 : u_T := fun k => match k with
  | 0 => ("BreadScribes$Reach", "steps", "[I", true)
  | 1 => ("BreadScribes$Reach", "links", "[I", true)
  | _ => ("BreadScribes$Reach", "length", "I", false)
noncomputable def tyX5 : Nat → FieldType := fun k => match k with
  | 0 => .array .int
  | 1 => .array .int
  | _ => .int
theorem nmX5 : ∀ a, a < 3 → ∀ b, b < 3 → a ≠ b → (TX5 a).2.1 ≠ (TX5 b).2.1 := by decide +kernel
theorem tyX5_ok : ∀ k, k < 3 → parseFieldDescriptor (TX5 k).2.2.1 = some (tyX5 k) := by decide +kernel
noncomputable abbrev cX5_init : ByteArray := prog_7_method_1_code
noncomputable def yX5_init : MethodName := ⟨RX5, "<init>", "()V"⟩
noncomputable abbrev cX5_find : ByteArray := prog_7_method_2_code
noncomputable def yX5_find : MethodName := ⟨RX5, "find", "(II)Z"⟩
noncomputable abbrev cX5_countSteps : ByteArray := prog_7_method_3_code
noncomputable def yX5_countSteps : MethodName := ⟨RX5, "countSteps", "(I)V"⟩
noncomputable abbrev cX5_follow : ByteArray := prog_7_method_4_code
noncomputable def yX5_follow : MethodName := ⟨RX5, "follow", "(II)V"⟩
noncomputable abbrev cX5_comesOf : ByteArray := prog_7_method_5_code
noncomputable def yX5_comesOf : MethodName := ⟨RX5, "comesOf", "(II)Z"⟩
noncomputable def RX6 : String := "BreadScribes$Reader"
noncomputable def TX6 : u_T := fun k => match k with
  | 0 => ("BreadScribes$Reader", "tape", "[B", true)
  | 1 => ("BreadScribes$Reader", "filled", "I", false)
  | 2 => ("BreadScribes$Reader", "reserved", "[J", true)
  | 3 => ("BreadScribes$Reader", "opened", "Z", false)
  | 4 => ("BreadScribes$Reader", "end", "I", false)
  | 5 => ("BreadScribes$Reader", "at", "I", false)
  | 6 => ("BreadScribes$Reader", "start", "I", false)
  | 7 => ("BreadScribes$Reader", "takenStart", "I", false)
  | 8 => ("BreadScribes$Reader", "kind", "I", false)
  | 9 => ("BreadScribes$Reader", "word", "I", false)
  | 10 => ("BreadScribes$Reader", "letters", "J", false)
  | 11 => ("BreadScribes$Reader", "value", "I", false)
  | 12 => ("BreadScribes$Reader", "fault", "I", false)
  | _ => ("BreadScribes$Reader", "faultPlace", "I", false)
noncomputable def tyX6 : Nat → FieldType := fun k => match k with
  | 0 => .array .byte
  | 1 => .int
  | 2 => .array .long
  | 3 => .boolean
  | 4 => .int
  | 5 => .int
  | 6 => .int
  | 7 => .int
  | 8 => .int
  | 9 => .int
  | 10 => .long
  | 11 => .int
  | 12 => .int
  | _ => .int
theorem nmX6 : ∀ a, a < 14 → ∀ b, b < 14 → a ≠ b → (TX6 a).2.1 ≠ (TX6 b).2.1 := by decide +kernel
theorem tyX6_ok : ∀ k, k < 14 → parseFieldDescriptor (TX6 k).2.2.1 = some (tyX6 k) := by decide +kernel
noncomputable abbrev cX6_init : ByteArray := prog_8_method_1_code
noncomputable def yX6_init : MethodName := ⟨RX6, "<init>", "()V"⟩
noncomputable abbrev cX6_hasRoom : ByteArray := prog_8_method_2_code
noncomputable def yX6_hasRoom : MethodName := ⟨RX6, "hasRoom", "(I)Z"⟩
noncomputable abbrev cX6_append : ByteArray := prog_8_method_3_code
noncomputable def yX6_append : MethodName := ⟨RX6, "append", "(I)V"⟩
noncomputable abbrev cX6_open : ByteArray := prog_8_method_4_code
noncomputable def yX6_open : MethodName := ⟨RX6, "open", "(I)V"⟩
noncomputable abbrev cX6_advance : ByteArray := prog_8_method_5_code
noncomputable def yX6_advance : MethodName := ⟨RX6, "advance", "()V"⟩
noncomputable abbrev cX6_readWord : ByteArray := prog_8_method_6_code
noncomputable def yX6_readWord : MethodName := ⟨RX6, "readWord", "()V"⟩
noncomputable abbrev cX6_readNumber : ByteArray := prog_8_method_7_code
noncomputable def yX6_readNumber : MethodName := ⟨RX6, "readNumber", "()V"⟩
noncomputable abbrev cX6_wrong : ByteArray := prog_8_method_8_code
noncomputable def yX6_wrong : MethodName := ⟨RX6, "wrong", "(II)Z"⟩
noncomputable abbrev cX6_misplaced : ByteArray := prog_8_method_9_code
noncomputable def yX6_misplaced : MethodName := ⟨RX6, "misplaced", "()Z"⟩
noncomputable abbrev cX6_wrongTaken : ByteArray := prog_8_method_10_code
noncomputable def yX6_wrongTaken : MethodName := ⟨RX6, "wrongTaken", "(I)Z"⟩
noncomputable abbrev cX6_takeAny : ByteArray := prog_8_method_11_code
noncomputable def yX6_takeAny : MethodName := ⟨RX6, "takeAny", "()Z"⟩
noncomputable abbrev cX6_takeWord : ByteArray := prog_8_method_12_code
noncomputable def yX6_takeWord : MethodName := ⟨RX6, "takeWord", "(I)Z"⟩
noncomputable abbrev cX6_takeSemicolon : ByteArray := prog_8_method_13_code
noncomputable def yX6_takeSemicolon : MethodName := ⟨RX6, "takeSemicolon", "()Z"⟩
noncomputable abbrev cX6_takeCompares : ByteArray := prog_8_method_14_code
noncomputable def yX6_takeCompares : MethodName := ⟨RX6, "takeCompares", "()I"⟩
noncomputable abbrev cX6_takeNumber : ByteArray := prog_8_method_15_code
noncomputable def yX6_takeNumber : MethodName := ⟨RX6, "takeNumber", "(II)I"⟩
noncomputable abbrev cX6_takeName : ByteArray := prog_8_method_16_code
noncomputable def yX6_takeName : MethodName := ⟨RX6, "takeName", "()J"⟩
noncomputable def RX7 : String := "BreadScribes$Rows"
noncomputable def TX7 : u_T := fun k => match k with
  | 0 => ("BreadScribes$Rows", "goal", "I", false)
  | 1 => ("BreadScribes$Rows", "allowed", "I", false)
  | 2 => ("BreadScribes$Rows", "size", "I", false)
  | 3 => ("BreadScribes$Rows", "row", "[I", true)
  | 4 => ("BreadScribes$Rows", "best", "[I", true)
  | 5 => ("BreadScribes$Rows", "bestSize", "I", false)
  | 6 => ("BreadScribes$Rows", "count", "I", false)
  | _ => ("BreadScribes$Rows", "with", "[I", true)
noncomputable def tyX7 : Nat → FieldType := fun k => match k with
  | 0 => .int
  | 1 => .int
  | 2 => .int
  | 3 => .array .int
  | 4 => .array .int
  | 5 => .int
  | 6 => .int
  | _ => .array .int
theorem nmX7 : ∀ a, a < 8 → ∀ b, b < 8 → a ≠ b → (TX7 a).2.1 ≠ (TX7 b).2.1 := by decide +kernel
theorem tyX7_ok : ∀ k, k < 8 → parseFieldDescriptor (TX7 k).2.2.1 = some (tyX7 k) := by decide +kernel
noncomputable abbrev cX7_init : ByteArray := prog_9_method_1_code
noncomputable def yX7_init : MethodName := ⟨RX7, "<init>", "()V"⟩
noncomputable abbrev cX7_begin : ByteArray := prog_9_method_2_code
noncomputable def yX7_begin : MethodName := ⟨RX7, "begin", "(II)V"⟩
noncomputable abbrev cX7_findFewest : ByteArray := prog_9_method_3_code
noncomputable def yX7_findFewest : MethodName := ⟨RX7, "findFewest", "(IJ)Z"⟩
noncomputable abbrev cX7_findKindest : ByteArray := prog_9_method_4_code
noncomputable def yX7_findKindest : MethodName := ⟨RX7, "findKindest", "(IJ)Z"⟩
noncomputable abbrev cX7_countAll : ByteArray := prog_9_method_5_code
noncomputable def yX7_countAll : MethodName := ⟨RX7, "countAll", "(IJI)V"⟩
noncomputable abbrev cX7_seekRowsOf : ByteArray := prog_9_method_6_code
noncomputable def yX7_seekRowsOf : MethodName := ⟨RX7, "seekRowsOf", "(IJ)Z"⟩
noncomputable abbrev cX7_hasBest : ByteArray := prog_9_method_7_code
noncomputable def yX7_hasBest : MethodName := ⟨RX7, "hasBest", "(I)Z"⟩
noncomputable abbrev cX7_bestQuestion : ByteArray := prog_9_method_8_code
noncomputable def yX7_bestQuestion : MethodName := ⟨RX7, "bestQuestion", "(I)I"⟩
noncomputable abbrev cX7_seek : ByteArray := prog_9_method_9_code
noncomputable def yX7_seek : MethodName := ⟨RX7, "seek", "(LBreadScribes$Rows;IIJ)Z"⟩
noncomputable abbrev cX7_putLast : ByteArray := prog_9_method_10_code
noncomputable def yX7_putLast : MethodName := ⟨RX7, "putLast", "(IIJ)Z"⟩
noncomputable abbrev cX7_meet : ByteArray := prog_9_method_11_code
noncomputable def yX7_meet : MethodName := ⟨RX7, "meet", "(I)Z"⟩
noncomputable def RX8 : String := "BreadScribes$Slips"
noncomputable def TX8 : u_T := fun k => match k with
  | 0 => ("BreadScribes$Slips", "places", "[I", true)
  | 1 => ("BreadScribes$Slips", "fixes", "[I", true)
  | _ => ("BreadScribes$Slips", "found", "I", false)
noncomputable def tyX8 : Nat → FieldType := fun k => match k with
  | 0 => .array .int
  | 1 => .array .int
  | _ => .int
theorem nmX8 : ∀ a, a < 3 → ∀ b, b < 3 → a ≠ b → (TX8 a).2.1 ≠ (TX8 b).2.1 := by decide +kernel
theorem tyX8_ok : ∀ k, k < 3 → parseFieldDescriptor (TX8 k).2.2.1 = some (tyX8 k) := by decide +kernel
noncomputable abbrev cX8_init : ByteArray := prog_10_method_1_code
noncomputable def yX8_init : MethodName := ⟨RX8, "<init>", "()V"⟩
noncomputable abbrev cX8_findAll : ByteArray := prog_10_method_2_code
noncomputable def yX8_findAll : MethodName := ⟨RX8, "findAll", "(LBreadScribes$Tray;IIJ)V"⟩
noncomputable abbrev cX8_fixAt : ByteArray := prog_10_method_3_code
noncomputable def yX8_fixAt : MethodName := ⟨RX8, "fixAt", "(LBreadScribes$Tray;IIIJ)I"⟩
noncomputable def RX9 : String := "BreadScribes$Sums"
noncomputable def TX9 : u_T := fun k => match k with
  | 0 => ("BreadScribes$Sums", "slices", "[I", true)
  | 1 => ("BreadScribes$Sums", "size", "I", false)
  | 2 => ("BreadScribes$Sums", "together", "[J", true)
  | _ => ("BreadScribes$Sums", "wins", "[B", true)
noncomputable def tyX9 : Nat → FieldType := fun k => match k with
  | 0 => .array .int
  | 1 => .int
  | 2 => .array .long
  | _ => .array .byte
theorem nmX9 : ∀ a, a < 4 → ∀ b, b < 4 → a ≠ b → (TX9 a).2.1 ≠ (TX9 b).2.1 := by decide +kernel
theorem tyX9_ok : ∀ k, k < 4 → parseFieldDescriptor (TX9 k).2.2.1 = some (tyX9 k) := by decide +kernel
noncomputable abbrev cX9_init : ByteArray := prog_11_method_1_code
noncomputable def yX9_init : MethodName := ⟨RX9, "<init>", "()V"⟩
noncomputable abbrev cX9_lay : ByteArray := prog_11_method_2_code
noncomputable def yX9_lay : MethodName := ⟨RX9, "lay", "(I)V"⟩
noncomputable abbrev cX9_addSlice : ByteArray := prog_11_method_3_code
noncomputable def yX9_addSlice : MethodName := ⟨RX9, "addSlice", "(I)V"⟩
noncomputable abbrev cX9_firstWinning : ByteArray := prog_11_method_4_code
noncomputable def yX9_firstWinning : MethodName := ⟨RX9, "firstWinning", "()I"⟩
noncomputable abbrev cX9_winningPlace : ByteArray := prog_11_method_5_code
noncomputable def yX9_winningPlace : MethodName := ⟨RX9, "winningPlace", "(I)I"⟩
noncomputable abbrev cX9_countWithin : ByteArray := prog_11_method_6_code
noncomputable def yX9_countWithin : MethodName := ⟨RX9, "countWithin", "(IJ)J"⟩
noncomputable def RX10 : String := "BreadScribes$Tray"
noncomputable def TX10 : u_T := fun k => match k with
  | 0 => ("BreadScribes$Tray", "sort", "I", false)
  | 1 => ("BreadScribes$Tray", "length", "I", false)
  | _ => ("BreadScribes$Tray", "cells", "[J", true)
noncomputable def tyX10 : Nat → FieldType := fun k => match k with
  | 0 => .int
  | 1 => .int
  | _ => .array .long
theorem nmX10 : ∀ a, a < 3 → ∀ b, b < 3 → a ≠ b → (TX10 a).2.1 ≠ (TX10 b).2.1 := by decide +kernel
theorem tyX10_ok : ∀ k, k < 3 → parseFieldDescriptor (TX10 k).2.2.1 = some (tyX10 k) := by decide +kernel
noncomputable abbrev cX10_init : ByteArray := prog_12_method_1_code
noncomputable def yX10_init : MethodName := ⟨RX10, "<init>", "()V"⟩
noncomputable abbrev cX10_isMissing : ByteArray := prog_12_method_2_code
noncomputable def yX10_isMissing : MethodName := ⟨RX10, "isMissing", "()Z"⟩
noncomputable abbrev cX10_lay : ByteArray := prog_12_method_3_code
noncomputable def yX10_lay : MethodName := ⟨RX10, "lay", "(II)V"⟩
noncomputable abbrev cX10_hasPlaces : ByteArray := prog_12_method_4_code
noncomputable def yX10_hasPlaces : MethodName := ⟨RX10, "hasPlaces", "(II)Z"⟩
noncomputable abbrev cX10_put : ByteArray := prog_12_method_5_code
noncomputable def yX10_put : MethodName := ⟨RX10, "put", "(IJ)V"⟩
noncomputable def RX11 : String := "BreadScribes"
noncomputable def TX11 : u_T := fun k => match k with
  | 0 => ("BreadScribes", "outcome", "I", false)
  | 1 => ("BreadScribes", "toldTop", "J", false)
  | 2 => ("BreadScribes", "toldBottom", "J", false)
  | 3 => ("BreadScribes", "trays", "[LBreadScribes$Tray;", true)
  | 4 => ("BreadScribes", "reader", "LBreadScribes$Reader;", true)
  | 5 => ("BreadScribes", "bakeryReader", "LBreadScribes$BakeryReader;", true)
  | 6 => ("BreadScribes", "daysReader", "LBreadScribes$DaysReader;", true)
  | 7 => ("BreadScribes", "now", "LBreadScribes$Bakery;", false)
  | 8 => ("BreadScribes", "spare", "LBreadScribes$Bakery;", false)
  | 9 => ("BreadScribes", "plan", "LBreadScribes$Days;", false)
  | 10 => ("BreadScribes", "sparePlan", "LBreadScribes$Days;", false)
  | 11 => ("BreadScribes", "keptBakeries", "[LBreadScribes$Bakery;", true)
  | 12 => ("BreadScribes", "keptPlans", "[LBreadScribes$Days;", true)
  | 13 => ("BreadScribes", "marked", "I", false)
  | 14 => ("BreadScribes", "rows", "LBreadScribes$Rows;", true)
  | 15 => ("BreadScribes", "told", "LBreadScribes$Slips;", true)
  | 16 => ("BreadScribes", "chain", "LBreadScribes$Reach;", true)
  | 17 => ("BreadScribes", "sums", "LBreadScribes$Sums;", true)
  | 18 => ("BreadScribes", "latest", "LBreadScribes$Life;", true)
  | _ => ("BreadScribes", "trial", "LBreadScribes$Life;", true)
noncomputable def tyX11 : Nat → FieldType := fun k => match k with
  | 0 => .int
  | 1 => .long
  | 2 => .long
  | 3 => .array (.object "BreadScribes$Tray")
  | 4 => .object "BreadScribes$Reader"
  | 5 => .object "BreadScribes$BakeryReader"
  | 6 => .object "BreadScribes$DaysReader"
  | 7 => .object "BreadScribes$Bakery"
  | 8 => .object "BreadScribes$Bakery"
  | 9 => .object "BreadScribes$Days"
  | 10 => .object "BreadScribes$Days"
  | 11 => .array (.object "BreadScribes$Bakery")
  | 12 => .array (.object "BreadScribes$Days")
  | 13 => .int
  | 14 => .object "BreadScribes$Rows"
  | 15 => .object "BreadScribes$Slips"
  | 16 => .object "BreadScribes$Reach"
  | 17 => .object "BreadScribes$Sums"
  | 18 => .object "BreadScribes$Life"
  | _ => .object "BreadScribes$Life"
theorem nmX11 : ∀ a, a < 20 → ∀ b, b < 20 → a ≠ b → (TX11 a).2.1 ≠ (TX11 b).2.1 := by decide +kernel
theorem tyX11_ok : ∀ k, k < 20 → parseFieldDescriptor (TX11 k).2.2.1 = some (tyX11 k) := by decide +kernel
noncomputable abbrev cX11_init : ByteArray := prog_1_method_1_code
noncomputable def yX11_init : MethodName := ⟨RX11, "<init>", "()V"⟩
noncomputable abbrev cX11_status : ByteArray := prog_1_method_2_code
noncomputable def yX11_status : MethodName := ⟨RX11, "status", "()I"⟩
noncomputable abbrev cX11_top : ByteArray := prog_1_method_3_code
noncomputable def yX11_top : MethodName := ⟨RX11, "top", "()J"⟩
noncomputable abbrev cX11_bottom : ByteArray := prog_1_method_4_code
noncomputable def yX11_bottom : MethodName := ⟨RX11, "bottom", "()J"⟩
noncomputable abbrev cX11_tray : ByteArray := prog_1_method_5_code
noncomputable def yX11_tray : MethodName := ⟨RX11, "tray", "(III)Z"⟩
noncomputable abbrev cX11_write : ByteArray := prog_1_method_6_code
noncomputable def yX11_write : MethodName := ⟨RX11, "write", "(IIJ)Z"⟩
noncomputable abbrev cX11_read : ByteArray := prog_1_method_7_code
noncomputable def yX11_read : MethodName := ⟨RX11, "read", "(II)J"⟩
noncomputable abbrev cX11_pour : ByteArray := prog_1_method_8_code
noncomputable def yX11_pour : MethodName := ⟨RX11, "pour", "(IIIII)Z"⟩
noncomputable abbrev cX11_feed : ByteArray := prog_1_method_9_code
noncomputable def yX11_feed : MethodName := ⟨RX11, "feed", "(IIIII)I"⟩
noncomputable abbrev cX11_bakery : ByteArray := prog_1_method_10_code
noncomputable def yX11_bakery : MethodName := ⟨RX11, "bakery", "(I)I"⟩
noncomputable abbrev cX11_days : ByteArray := prog_1_method_11_code
noncomputable def yX11_days : MethodName := ⟨RX11, "days", "(I)I"⟩
noncomputable abbrev cX11_fault : ByteArray := prog_1_method_12_code
noncomputable def yX11_fault : MethodName := ⟨RX11, "fault", "(I)I"⟩
noncomputable abbrev cX11_many : ByteArray := prog_1_method_13_code
noncomputable def yX11_many : MethodName := ⟨RX11, "many", "(I)I"⟩
noncomputable abbrev cX11_store : ByteArray := prog_1_method_14_code
noncomputable def yX11_store : MethodName := ⟨RX11, "store", "(I)I"⟩
noncomputable abbrev cX11_man : ByteArray := prog_1_method_15_code
noncomputable def yX11_man : MethodName := ⟨RX11, "man", "(II)I"⟩
noncomputable abbrev cX11_has : ByteArray := prog_1_method_16_code
noncomputable def yX11_has : MethodName := ⟨RX11, "has", "(I)Z"⟩
noncomputable abbrev cX11_lacks : ByteArray := prog_1_method_17_code
noncomputable def yX11_lacks : MethodName := ⟨RX11, "lacks", "(I)Z"⟩
noncomputable abbrev cX11_worth : ByteArray := prog_1_method_18_code
noncomputable def yX11_worth : MethodName := ⟨RX11, "worth", "()Z"⟩
noncomputable abbrev cX11_copyStore : ByteArray := prog_1_method_19_code
noncomputable def yX11_copyStore : MethodName := ⟨RX11, "copyStore", "(II)I"⟩
noncomputable abbrev cX11_bake : ByteArray := prog_1_method_20_code
noncomputable def yX11_bake : MethodName := ⟨RX11, "bake", "(I)I"⟩
noncomputable abbrev cX11_cut : ByteArray := prog_1_method_21_code
noncomputable def yX11_cut : MethodName := ⟨RX11, "cut", "(III)I"⟩
noncomputable abbrev cX11_split : ByteArray := prog_1_method_22_code
noncomputable def yX11_split : MethodName := ⟨RX11, "split", "(II)I"⟩
noncomputable abbrev cX11_give : ByteArray := prog_1_method_23_code
noncomputable def yX11_give : MethodName := ⟨RX11, "give", "(II)I"⟩
noncomputable abbrev cX11_take : ByteArray := prog_1_method_24_code
noncomputable def yX11_take : MethodName := ⟨RX11, "take", "(II)I"⟩
noncomputable abbrev cX11_owe : ByteArray := prog_1_method_25_code
noncomputable def yX11_owe : MethodName := ⟨RX11, "owe", "(III)Z"⟩
noncomputable abbrev cX11_come : ByteArray := prog_1_method_26_code
noncomputable def yX11_come : MethodName := ⟨RX11, "come", "(II)I"⟩
noncomputable abbrev cX11_learn : ByteArray := prog_1_method_27_code
noncomputable def yX11_learn : MethodName := ⟨RX11, "learn", "(IZ)Z"⟩
noncomputable abbrev cX11_rule : ByteArray := prog_1_method_28_code
noncomputable def yX11_rule : MethodName := ⟨RX11, "rule", "(I)Z"⟩
noncomputable abbrev cX11_fewest : ByteArray := prog_1_method_29_code
noncomputable def yX11_fewest : MethodName := ⟨RX11, "fewest", "(II)I"⟩
noncomputable abbrev cX11_fewestAt : ByteArray := prog_1_method_30_code
noncomputable def yX11_fewestAt : MethodName := ⟨RX11, "fewestAt", "(III)I"⟩
noncomputable abbrev cX11_ways : ByteArray := prog_1_method_31_code
noncomputable def yX11_ways : MethodName := ⟨RX11, "ways", "(III)I"⟩
noncomputable abbrev cX11_oddsThat : ByteArray := prog_1_method_32_code
noncomputable def yX11_oddsThat : MethodName := ⟨RX11, "oddsThat", "(IIII)Z"⟩
noncomputable abbrev cX11_ask : ByteArray := prog_1_method_33_code
noncomputable def yX11_ask : MethodName := ⟨RX11, "ask", "(III)I"⟩
noncomputable abbrev cX11_kindestAt : ByteArray := prog_1_method_34_code
noncomputable def yX11_kindestAt : MethodName := ⟨RX11, "kindestAt", "(III)I"⟩
noncomputable abbrev cX11_greedyAt : ByteArray := prog_1_method_35_code
noncomputable def yX11_greedyAt : MethodName := ⟨RX11, "greedyAt", "(III)I"⟩
noncomputable abbrev cX11_slips : ByteArray := prog_1_method_36_code
noncomputable def yX11_slips : MethodName := ⟨RX11, "slips", "(IIII)I"⟩
noncomputable abbrev cX11_slipAt : ByteArray := prog_1_method_37_code
noncomputable def yX11_slipAt : MethodName := ⟨RX11, "slipAt", "(IIIIII)I"⟩
noncomputable abbrev cX11_reach : ByteArray := prog_1_method_38_code
noncomputable def yX11_reach : MethodName := ⟨RX11, "reach", "(I)I"⟩
noncomputable abbrev cX11_reachAt : ByteArray := prog_1_method_39_code
noncomputable def yX11_reachAt : MethodName := ⟨RX11, "reachAt", "(II)I"⟩
noncomputable abbrev cX11_fill : ByteArray := prog_1_method_40_code
noncomputable def yX11_fill : MethodName := ⟨RX11, "fill", "(I)I"⟩
noncomputable abbrev cX11_fillAt : ByteArray := prog_1_method_41_code
noncomputable def yX11_fillAt : MethodName := ⟨RX11, "fillAt", "(II)I"⟩
noncomputable abbrev cX11_plate : ByteArray := prog_1_method_42_code
noncomputable def yX11_plate : MethodName := ⟨RX11, "plate", "(I)I"⟩
noncomputable abbrev cX11_plateMove : ByteArray := prog_1_method_43_code
noncomputable def yX11_plateMove : MethodName := ⟨RX11, "plateMove", "(I)I"⟩
noncomputable abbrev cX11_luck : ByteArray := prog_1_method_44_code
noncomputable def yX11_luck : MethodName := ⟨RX11, "luck", "(IIII)Z"⟩
noncomputable abbrev cX11_burnt : ByteArray := prog_1_method_45_code
noncomputable def yX11_burnt : MethodName := ⟨RX11, "burnt", "(II)Z"⟩
noncomputable abbrev cX11_live : ByteArray := prog_1_method_46_code
noncomputable def yX11_live : MethodName := ⟨RX11, "live", "(I)I"⟩
noncomputable abbrev cX11_lived : ByteArray := prog_1_method_47_code
noncomputable def yX11_lived : MethodName := ⟨RX11, "lived", "(I)I"⟩
noncomputable abbrev cX11_mean : ByteArray := prog_1_method_48_code
noncomputable def yX11_mean : MethodName := ⟨RX11, "mean", "(II)Z"⟩
noncomputable abbrev cX11_mark : ByteArray := prog_1_method_49_code
noncomputable def yX11_mark : MethodName := ⟨RX11, "mark", "()I"⟩
noncomputable abbrev cX11_back : ByteArray := prog_1_method_50_code
noncomputable def yX11_back : MethodName := ⟨RX11, "back", "()I"⟩
noncomputable abbrev cX11_refuse : ByteArray := prog_1_method_51_code
noncomputable def yX11_refuse : MethodName := ⟨RX11, "refuse", "(I)I"⟩
noncomputable abbrev cX11_deny : ByteArray := prog_1_method_52_code
noncomputable def yX11_deny : MethodName := ⟨RX11, "deny", "(I)Z"⟩
noncomputable abbrev cX11_answer : ByteArray := prog_1_method_53_code
noncomputable def yX11_answer : MethodName := ⟨RX11, "answer", "(I)I"⟩
noncomputable abbrev cX11_allow : ByteArray := prog_1_method_54_code
noncomputable def yX11_allow : MethodName := ⟨RX11, "allow", "()Z"⟩
noncomputable abbrev cX11_answerSize : ByteArray := prog_1_method_55_code
noncomputable def yX11_answerSize : MethodName := ⟨RX11, "answerSize", "(Z)I"⟩
noncomputable abbrev cX11_answerSlice : ByteArray := prog_1_method_56_code
noncomputable def yX11_answerSlice : MethodName := ⟨RX11, "answerSlice", "(ZI)I"⟩
noncomputable abbrev cX11_tell : ByteArray := prog_1_method_57_code
noncomputable def yX11_tell : MethodName := ⟨RX11, "tell", "(JJ)Z"⟩
noncomputable abbrev cX11_trayStatus : ByteArray := prog_1_method_58_code
noncomputable def yX11_trayStatus : MethodName := ⟨RX11, "trayStatus", "(I)I"⟩
noncomputable abbrev cX11_placeStatus : ByteArray := prog_1_method_59_code
noncomputable def yX11_placeStatus : MethodName := ⟨RX11, "placeStatus", "(II)I"⟩
noncomputable abbrev cX11_placesStatus : ByteArray := prog_1_method_60_code
noncomputable def yX11_placesStatus : MethodName := ⟨RX11, "placesStatus", "(II)I"⟩
noncomputable abbrev cX11_slipStatus : ByteArray := prog_1_method_61_code
noncomputable def yX11_slipStatus : MethodName := ⟨RX11, "slipStatus", "(IIII)I"⟩
noncomputable abbrev cX11_isTray : ByteArray := prog_1_method_62_code
noncomputable def yX11_isTray : MethodName := ⟨RX11, "isTray", "(I)Z"⟩
noncomputable abbrev cX11_isSlice : ByteArray := prog_1_method_63_code
noncomputable def yX11_isSlice : MethodName := ⟨RX11, "isSlice", "(I)Z"⟩
noncomputable abbrev cX11_isShare : ByteArray := prog_1_method_64_code
noncomputable def yX11_isShare : MethodName := ⟨RX11, "isShare", "(II)Z"⟩
noncomputable abbrev cX11_isRowSize : ByteArray := prog_1_method_65_code
noncomputable def yX11_isRowSize : MethodName := ⟨RX11, "isRowSize", "(I)Z"⟩
noncomputable abbrev cX11_isPlateSet : ByteArray := prog_1_method_66_code
noncomputable def yX11_isPlateSet : MethodName := ⟨RX11, "isPlateSet", "(I)Z"⟩
noncomputable abbrev cX11_bit : ByteArray := prog_1_method_67_code
noncomputable def yX11_bit : MethodName := ⟨RX11, "bit", "(I)I"⟩
noncomputable abbrev cX11_isIn : ByteArray := prog_1_method_68_code
noncomputable def yX11_isIn : MethodName := ⟨RX11, "isIn", "(II)Z"⟩
noncomputable abbrev cX11_crumbs : ByteArray := prog_1_method_69_code
noncomputable def yX11_crumbs : MethodName := ⟨RX11, "crumbs", "(II)J"⟩
noncomputable abbrev cX11_commonDivisor : ByteArray := prog_1_method_70_code
noncomputable def yX11_commonDivisor : MethodName := ⟨RX11, "commonDivisor", "(JJ)J"⟩
noncomputable abbrev cX11_power : ByteArray := prog_1_method_71_code
noncomputable def yX11_power : MethodName := ⟨RX11, "power", "(II)J"⟩
noncomputable abbrev cX11_choices : ByteArray := prog_1_method_72_code
noncomputable def yX11_choices : MethodName := ⟨RX11, "choices", "(II)J"⟩
noncomputable abbrev cX11_greedyNumber : ByteArray := prog_1_method_73_code
noncomputable def yX11_greedyNumber : MethodName := ⟨RX11, "greedyNumber", "(III)J"⟩
noncomputable def RX12 : String := "BreadScribesModel"
noncomputable def TX12 : u_T := fun k => match k with
  | 0 => ("BreadScribesModel", "status", "I", false)
  | 1 => ("BreadScribesModel", "thrown", "I", false)
  | 2 => ("BreadScribesModel", "above", "J", false)
  | 3 => ("BreadScribesModel", "under", "J", false)
  | 4 => ("BreadScribesModel", "traySort", "[I", true)
  | 5 => ("BreadScribesModel", "trayMany", "[I", true)
  | 6 => ("BreadScribesModel", "numbers", "[J", true)
  | 7 => ("BreadScribesModel", "tape", "[B", true)
  | 8 => ("BreadScribesModel", "taped", "I", false)
  | 9 => ("BreadScribesModel", "textEnd", "I", false)
  | 10 => ("BreadScribesModel", "faultKind", "I", false)
  | 11 => ("BreadScribesModel", "faultAt", "I", false)
  | 12 => ("BreadScribesModel", "bad", "I", false)
  | 13 => ("BreadScribesModel", "badAt", "I", false)
  | 14 => ("BreadScribesModel", "token", "I", false)
  | 15 => ("BreadScribesModel", "at", "I", false)
  | 16 => ("BreadScribesModel", "behind", "I", false)
  | 17 => ("BreadScribesModel", "number", "I", false)
  | 18 => ("BreadScribesModel", "letters", "I", false)
  | 19 => ("BreadScribesModel", "word", "J", false)
  | 20 => ("BreadScribesModel", "c", "[I", true)
  | 21 => ("BreadScribesModel", "before", "[I", true)
  | 22 => ("BreadScribesModel", "words", "[J", true)
  | 23 => ("BreadScribesModel", "markMany", "I", false)
  | 24 => ("BreadScribesModel", "toldOdds", "Z", false)
  | 25 => ("BreadScribesModel", "toldKnown", "Z", false)
  | 26 => ("BreadScribesModel", "toldStore", "I", false)
  | 27 => ("BreadScribesModel", "newSteps", "I", false)
  | 28 => ("BreadScribesModel", "row", "[I", true)
  | 29 => ("BreadScribesModel", "firstRow", "[I", true)
  | 30 => ("BreadScribesModel", "oftenIn", "[I", true)
  | 31 => ("BreadScribesModel", "rowMany", "I", false)
  | 32 => ("BreadScribesModel", "slipMany", "I", false)
  | 33 => ("BreadScribesModel", "slipPlace", "I", false)
  | 34 => ("BreadScribesModel", "slipFix", "I", false)
  | 35 => ("BreadScribesModel", "cutsTo", "[I", true)
  | 36 => ("BreadScribesModel", "members", "[I", true)
  | 37 => ("BreadScribesModel", "putFirst", "[I", true)
  | 38 => ("BreadScribesModel", "burning", "[J", true)
  | 39 => ("BreadScribesModel", "livedLast", "[I", true)
  | 40 => ("BreadScribesModel", "hasLived", "Z", false)
  | 41 => ("BreadScribesModel", "isStopped", "Z", false)
  | 42 => ("BreadScribesModel", "random", "I", false)
  | 43 => ("BreadScribesModel", "done", "I", false)
  | 44 => ("BreadScribesModel", "missed", "I", false)
  | 45 => ("BreadScribesModel", "cutsAhead", "I", false)
  | 46 => ("BreadScribesModel", "givenNow", "I", false)
  | 47 => ("BreadScribesModel", "bakedNow", "I", false)
  | _ => ("BreadScribesModel", "leftOver", "I", false)
noncomputable def tyX12 : Nat → FieldType := fun k => match k with
  | 0 => .int
  | 1 => .int
  | 2 => .long
  | 3 => .long
  | 4 => .array .int
  | 5 => .array .int
  | 6 => .array .long
  | 7 => .array .byte
  | 8 => .int
  | 9 => .int
  | 10 => .int
  | 11 => .int
  | 12 => .int
  | 13 => .int
  | 14 => .int
  | 15 => .int
  | 16 => .int
  | 17 => .int
  | 18 => .int
  | 19 => .long
  | 20 => .array .int
  | 21 => .array .int
  | 22 => .array .long
  | 23 => .int
  | 24 => .boolean
  | 25 => .boolean
  | 26 => .int
  | 27 => .int
  | 28 => .array .int
  | 29 => .array .int
  | 30 => .array .int
  | 31 => .int
  | 32 => .int
  | 33 => .int
  | 34 => .int
  | 35 => .array .int
  | 36 => .array .int
  | 37 => .array .int
  | 38 => .array .long
  | 39 => .array .int
  | 40 => .boolean
  | 41 => .boolean
  | 42 => .int
  | 43 => .int
  | 44 => .int
  | 45 => .int
  | 46 => .int
  | 47 => .int
  | _ => .int
theorem nmX12 : ∀ a, a < 49 → ∀ b, b < 49 → a ≠ b → (TX12 a).2.1 ≠ (TX12 b).2.1 := by decide +kernel
theorem tyX12_ok : ∀ k, k < 49 → parseFieldDescriptor (TX12 k).2.2.1 = some (tyX12 k) := by decide +kernel
noncomputable abbrev cX12_init : ByteArray := prog_14_method_1_code
noncomputable def yX12_init : MethodName := ⟨RX12, "<init>", "()V"⟩
noncomputable abbrev cX12_status : ByteArray := prog_14_method_3_code
noncomputable def yX12_status : MethodName := ⟨RX12, "status", "()I"⟩
noncomputable abbrev cX12_top : ByteArray := prog_14_method_4_code
noncomputable def yX12_top : MethodName := ⟨RX12, "top", "()J"⟩
noncomputable abbrev cX12_bottom : ByteArray := prog_14_method_5_code
noncomputable def yX12_bottom : MethodName := ⟨RX12, "bottom", "()J"⟩
noncomputable abbrev cX12_refuse : ByteArray := prog_14_method_6_code
noncomputable def yX12_refuse : MethodName := ⟨RX12, "refuse", "(I)I"⟩
noncomputable abbrev cX12_no : ByteArray := prog_14_method_7_code
noncomputable def yX12_no : MethodName := ⟨RX12, "no", "(I)Z"⟩
noncomputable abbrev cX12_isIn : ByteArray := prog_14_method_8_code
noncomputable def yX12_isIn : MethodName := ⟨RX12, "isIn", "(JJJ)Z"⟩
noncomputable abbrev cX12_fraction : ByteArray := prog_14_method_9_code
noncomputable def yX12_fraction : MethodName := ⟨RX12, "fraction", "(JJ)Z"⟩
noncomputable abbrev cX12_trims : ByteArray := prog_14_method_10_code
noncomputable def yX12_trims : MethodName := ⟨RX12, "trims", "(IJ)J"⟩
noncomputable abbrev cX12_tray : ByteArray := prog_14_method_11_code
noncomputable def yX12_tray : MethodName := ⟨RX12, "tray", "(III)Z"⟩
noncomputable abbrev cX12_trayed : ByteArray := prog_14_method_12_code
noncomputable def yX12_trayed : MethodName := ⟨RX12, "trayed", "(I)I"⟩
noncomputable abbrev cX12_placed : ByteArray := prog_14_method_13_code
noncomputable def yX12_placed : MethodName := ⟨RX12, "placed", "(II)I"⟩
noncomputable abbrev cX12_write : ByteArray := prog_14_method_14_code
noncomputable def yX12_write : MethodName := ⟨RX12, "write", "(IIJ)Z"⟩
noncomputable abbrev cX12_read : ByteArray := prog_14_method_15_code
noncomputable def yX12_read : MethodName := ⟨RX12, "read", "(II)J"⟩
noncomputable abbrev cX12_pour : ByteArray := prog_14_method_16_code
noncomputable def yX12_pour : MethodName := ⟨RX12, "pour", "(IIIII)Z"⟩
noncomputable abbrev cX12_numberOf : ByteArray := prog_14_method_17_code
noncomputable def yX12_numberOf : MethodName := ⟨RX12, "numberOf", "(II)J"⟩
noncomputable abbrev cX12_isTray : ByteArray := prog_14_method_18_code
noncomputable def yX12_isTray : MethodName := ⟨RX12, "isTray", "(I)Z"⟩
noncomputable abbrev cX12_isOf : ByteArray := prog_14_method_19_code
noncomputable def yX12_isOf : MethodName := ⟨RX12, "isOf", "(II)Z"⟩
noncomputable abbrev cX12_sizeOf : ByteArray := prog_14_method_20_code
noncomputable def yX12_sizeOf : MethodName := ⟨RX12, "sizeOf", "(I)I"⟩
noncomputable abbrev cX12_look2 : ByteArray := prog_14_method_21_code
noncomputable def yX12_look2 : MethodName := ⟨RX12, "look2", "(I)I"⟩
noncomputable abbrev cX12_isLetter : ByteArray := prog_14_method_22_code
noncomputable def yX12_isLetter : MethodName := ⟨RX12, "isLetter", "(I)Z"⟩
noncomputable abbrev cX12_isDigit : ByteArray := prog_14_method_23_code
noncomputable def yX12_isDigit : MethodName := ⟨RX12, "isDigit", "(I)Z"⟩
noncomputable abbrev cX12_isSignByte : ByteArray := prog_14_method_24_code
noncomputable def yX12_isSignByte : MethodName := ⟨RX12, "isSignByte", "(I)Z"⟩
noncomputable abbrev cX12_advance : ByteArray := prog_14_method_25_code
noncomputable def yX12_advance : MethodName := ⟨RX12, "advance", "()V"⟩
noncomputable abbrev cX12_isSign : ByteArray := prog_14_method_26_code
noncomputable def yX12_isSign : MethodName := ⟨RX12, "isSign", "(I)Z"⟩
noncomputable abbrev cX12_spelled : ByteArray := prog_14_method_27_code
noncomputable def yX12_spelled : MethodName := ⟨RX12, "spelled", "(IIIII)J"⟩
noncomputable abbrev cX12_isWord : ByteArray := prog_14_method_28_code
noncomputable def yX12_isWord : MethodName := ⟨RX12, "isWord", "(J)Z"⟩
noncomputable abbrev cX12_isOdds : ByteArray := prog_14_method_29_code
noncomputable def yX12_isOdds : MethodName := ⟨RX12, "isOdds", "()Z"⟩
noncomputable abbrev cX12_isStore : ByteArray := prog_14_method_30_code
noncomputable def yX12_isStore : MethodName := ⟨RX12, "isStore", "()Z"⟩
noncomputable abbrev cX12_isTimes : ByteArray := prog_14_method_31_code
noncomputable def yX12_isTimes : MethodName := ⟨RX12, "isTimes", "()Z"⟩
noncomputable abbrev cX12_isMan : ByteArray := prog_14_method_32_code
noncomputable def yX12_isMan : MethodName := ⟨RX12, "isMan", "()Z"⟩
noncomputable abbrev cX12_isDue : ByteArray := prog_14_method_33_code
noncomputable def yX12_isDue : MethodName := ⟨RX12, "isDue", "()Z"⟩
noncomputable abbrev cX12_isBy : ByteArray := prog_14_method_34_code
noncomputable def yX12_isBy : MethodName := ⟨RX12, "isBy", "()Z"⟩
noncomputable abbrev cX12_isHas : ByteArray := prog_14_method_35_code
noncomputable def yX12_isHas : MethodName := ⟨RX12, "isHas", "()Z"⟩
noncomputable abbrev cX12_isKnown : ByteArray := prog_14_method_36_code
noncomputable def yX12_isKnown : MethodName := ⟨RX12, "isKnown", "()Z"⟩
noncomputable abbrev cX12_stepWord : ByteArray := prog_14_method_37_code
noncomputable def yX12_stepWord : MethodName := ⟨RX12, "stepWord", "()I"⟩
noncomputable abbrev cX12_testWord : ByteArray := prog_14_method_38_code
noncomputable def yX12_testWord : MethodName := ⟨RX12, "testWord", "()I"⟩
noncomputable abbrev cX12_isEnd : ByteArray := prog_14_method_39_code
noncomputable def yX12_isEnd : MethodName := ⟨RX12, "isEnd", "()Z"⟩
noncomputable abbrev cX12_isKept : ByteArray := prog_14_method_40_code
noncomputable def yX12_isKept : MethodName := ⟨RX12, "isKept", "()Z"⟩
noncomputable abbrev cX12_isName : ByteArray := prog_14_method_41_code
noncomputable def yX12_isName : MethodName := ⟨RX12, "isName", "()Z"⟩
noncomputable abbrev cX12_fail : ByteArray := prog_14_method_42_code
noncomputable def yX12_fail : MethodName := ⟨RX12, "fail", "(II)V"⟩
noncomputable abbrev cX12_amiss : ByteArray := prog_14_method_43_code
noncomputable def yX12_amiss : MethodName := ⟨RX12, "amiss", "()V"⟩
noncomputable abbrev cX12_must : ByteArray := prog_14_method_44_code
noncomputable def yX12_must : MethodName := ⟨RX12, "must", "(Z)V"⟩
noncomputable abbrev cX12_mayBe : ByteArray := prog_14_method_45_code
noncomputable def yX12_mayBe : MethodName := ⟨RX12, "mayBe", "(II)V"⟩
noncomputable abbrev cX12_count : ByteArray := prog_14_method_46_code
noncomputable def yX12_count : MethodName := ⟨RX12, "count", "(II)I"⟩
noncomputable abbrev cX12_behindWord : ByteArray := prog_14_method_47_code
noncomputable def yX12_behindWord : MethodName := ⟨RX12, "behindWord", "(ZII)I"⟩
noncomputable abbrev cX12_perhaps : ByteArray := prog_14_method_48_code
noncomputable def yX12_perhaps : MethodName := ⟨RX12, "perhaps", "(Z)Z"⟩
noncomputable abbrev cX12_readSlices : ByteArray := prog_14_method_49_code
noncomputable def yX12_readSlices : MethodName := ⟨RX12, "readSlices", "()I"⟩
noncomputable abbrev cX12_feed : ByteArray := prog_14_method_50_code
noncomputable def yX12_feed : MethodName := ⟨RX12, "feed", "(IIIII)I"⟩
noncomputable abbrev cX12_lay : ByteArray := prog_14_method_51_code
noncomputable def yX12_lay : MethodName := ⟨RX12, "lay", "(I)V"⟩
noncomputable abbrev cX12_starts : ByteArray := prog_14_method_52_code
noncomputable def yX12_starts : MethodName := ⟨RX12, "starts", "(II)Z"⟩
noncomputable abbrev cX12_isWell : ByteArray := prog_14_method_53_code
noncomputable def yX12_isWell : MethodName := ⟨RX12, "isWell", "()Z"⟩
noncomputable abbrev cX12_fault : ByteArray := prog_14_method_54_code
noncomputable def yX12_fault : MethodName := ⟨RX12, "fault", "(I)I"⟩
noncomputable abbrev cX12_empties : ByteArray := prog_14_method_55_code
noncomputable def yX12_empties : MethodName := ⟨RX12, "empties", "(I)V"⟩
noncomputable abbrev cX12_named : ByteArray := prog_14_method_56_code
noncomputable def yX12_named : MethodName := ⟨RX12, "named", "(I)I"⟩
noncomputable abbrev cX12_readTold : ByteArray := prog_14_method_57_code
noncomputable def yX12_readTold : MethodName := ⟨RX12, "readTold", "(I)I"⟩
noncomputable abbrev cX12_readOdds : ByteArray := prog_14_method_58_code
noncomputable def yX12_readOdds : MethodName := ⟨RX12, "readOdds", "()V"⟩
noncomputable abbrev cX12_readKnown : ByteArray := prog_14_method_59_code
noncomputable def yX12_readKnown : MethodName := ⟨RX12, "readKnown", "()V"⟩
noncomputable abbrev cX12_readStore : ByteArray := prog_14_method_60_code
noncomputable def yX12_readStore : MethodName := ⟨RX12, "readStore", "()V"⟩
noncomputable abbrev cX12_readMan : ByteArray := prog_14_method_61_code
noncomputable def yX12_readMan : MethodName := ⟨RX12, "readMan", "()V"⟩
noncomputable abbrev cX12_readPart : ByteArray := prog_14_method_62_code
noncomputable def yX12_readPart : MethodName := ⟨RX12, "readPart", "()V"⟩
noncomputable abbrev cX12_bakery : ByteArray := prog_14_method_63_code
noncomputable def yX12_bakery : MethodName := ⟨RX12, "bakery", "(I)I"⟩
noncomputable abbrev cX12_readTest : ByteArray := prog_14_method_64_code
noncomputable def yX12_readTest : MethodName := ⟨RX12, "readTest", "(I)V"⟩
noncomputable abbrev cX12_readRest : ByteArray := prog_14_method_65_code
noncomputable def yX12_readRest : MethodName := ⟨RX12, "readRest", "(I)V"⟩
noncomputable abbrev cX12_readStep : ByteArray := prog_14_method_66_code
noncomputable def yX12_readStep : MethodName := ⟨RX12, "readStep", "(I)V"⟩
noncomputable abbrev cX12_days : ByteArray := prog_14_method_67_code
noncomputable def yX12_days : MethodName := ⟨RX12, "days", "(I)I"⟩
noncomputable abbrev cX12_isSlice : ByteArray := prog_14_method_68_code
noncomputable def yX12_isSlice : MethodName := ⟨RX12, "isSlice", "(I)Z"⟩
noncomputable abbrev cX12_isManAt : ByteArray := prog_14_method_69_code
noncomputable def yX12_isManAt : MethodName := ⟨RX12, "isManAt", "(I)Z"⟩
noncomputable abbrev cX12_partsOf : ByteArray := prog_14_method_70_code
noncomputable def yX12_partsOf : MethodName := ⟨RX12, "partsOf", "(I)J"⟩
noncomputable abbrev cX12_shareOf : ByteArray := prog_14_method_71_code
noncomputable def yX12_shareOf : MethodName := ⟨RX12, "shareOf", "(II)J"⟩
noncomputable abbrev cX12_isShare : ByteArray := prog_14_method_72_code
noncomputable def yX12_isShare : MethodName := ⟨RX12, "isShare", "(II)Z"⟩
noncomputable abbrev cX12_sumOf : ByteArray := prog_14_method_73_code
noncomputable def yX12_sumOf : MethodName := ⟨RX12, "sumOf", "(I)J"⟩
noncomputable abbrev cX12_lackOf : ByteArray := prog_14_method_74_code
noncomputable def yX12_lackOf : MethodName := ⟨RX12, "lackOf", "(I)J"⟩
noncomputable abbrev cX12_held : ByteArray := prog_14_method_75_code
noncomputable def yX12_held : MethodName := ⟨RX12, "held", "()I"⟩
noncomputable abbrev cX12_heldSet : ByteArray := prog_14_method_76_code
noncomputable def yX12_heldSet : MethodName := ⟨RX12, "heldSet", "()I"⟩
noncomputable abbrev cX12_evenOnes : ByteArray := prog_14_method_77_code
noncomputable def yX12_evenOnes : MethodName := ⟨RX12, "evenOnes", "()I"⟩
noncomputable abbrev cX12_many : ByteArray := prog_14_method_78_code
noncomputable def yX12_many : MethodName := ⟨RX12, "many", "(I)I"⟩
noncomputable abbrev cX12_store : ByteArray := prog_14_method_79_code
noncomputable def yX12_store : MethodName := ⟨RX12, "store", "(I)I"⟩
noncomputable abbrev cX12_man : ByteArray := prog_14_method_80_code
noncomputable def yX12_man : MethodName := ⟨RX12, "man", "(II)I"⟩
noncomputable abbrev cX12_has : ByteArray := prog_14_method_81_code
noncomputable def yX12_has : MethodName := ⟨RX12, "has", "(I)Z"⟩
noncomputable abbrev cX12_lacks : ByteArray := prog_14_method_82_code
noncomputable def yX12_lacks : MethodName := ⟨RX12, "lacks", "(I)Z"⟩
noncomputable abbrev cX12_worth : ByteArray := prog_14_method_83_code
noncomputable def yX12_worth : MethodName := ⟨RX12, "worth", "()Z"⟩
noncomputable abbrev cX12_copyStore : ByteArray := prog_14_method_84_code
noncomputable def yX12_copyStore : MethodName := ⟨RX12, "copyStore", "(II)I"⟩
noncomputable abbrev cX12_areMore : ByteArray := prog_14_method_85_code
noncomputable def yX12_areMore : MethodName := ⟨RX12, "areMore", "(II)Z"⟩
noncomputable abbrev cX12_isOver : ByteArray := prog_14_method_86_code
noncomputable def yX12_isOver : MethodName := ⟨RX12, "isOver", "(III)Z"⟩
noncomputable abbrev cX12_cuts : ByteArray := prog_14_method_87_code
noncomputable def yX12_cuts : MethodName := ⟨RX12, "cuts", "(III)Z"⟩
noncomputable abbrev cX12_cut : ByteArray := prog_14_method_88_code
noncomputable def yX12_cut : MethodName := ⟨RX12, "cut", "(III)I"⟩
noncomputable abbrev cX12_splits : ByteArray := prog_14_method_89_code
noncomputable def yX12_splits : MethodName := ⟨RX12, "splits", "(II)Z"⟩
noncomputable abbrev cX12_split : ByteArray := prog_14_method_90_code
noncomputable def yX12_split : MethodName := ⟨RX12, "split", "(II)I"⟩
noncomputable abbrev cX12_bakes : ByteArray := prog_14_method_91_code
noncomputable def yX12_bakes : MethodName := ⟨RX12, "bakes", "(I)Z"⟩
noncomputable abbrev cX12_bake : ByteArray := prog_14_method_92_code
noncomputable def yX12_bake : MethodName := ⟨RX12, "bake", "(I)I"⟩
noncomputable abbrev cX12_gives : ByteArray := prog_14_method_93_code
noncomputable def yX12_gives : MethodName := ⟨RX12, "gives", "(II)Z"⟩
noncomputable abbrev cX12_give : ByteArray := prog_14_method_94_code
noncomputable def yX12_give : MethodName := ⟨RX12, "give", "(II)I"⟩
noncomputable abbrev cX12_takes : ByteArray := prog_14_method_95_code
noncomputable def yX12_takes : MethodName := ⟨RX12, "takes", "(II)Z"⟩
noncomputable abbrev cX12_take : ByteArray := prog_14_method_96_code
noncomputable def yX12_take : MethodName := ⟨RX12, "take", "(II)I"⟩
noncomputable abbrev cX12_owe : ByteArray := prog_14_method_97_code
noncomputable def yX12_owe : MethodName := ⟨RX12, "owe", "(III)Z"⟩
noncomputable abbrev cX12_come : ByteArray := prog_14_method_98_code
noncomputable def yX12_come : MethodName := ⟨RX12, "come", "(II)I"⟩
noncomputable abbrev cX12_learn : ByteArray := prog_14_method_99_code
noncomputable def yX12_learn : MethodName := ⟨RX12, "learn", "(IZ)Z"⟩
noncomputable abbrev cX12_rule : ByteArray := prog_14_method_100_code
noncomputable def yX12_rule : MethodName := ⟨RX12, "rule", "(I)Z"⟩
noncomputable abbrev cX12_rows : ByteArray := prog_14_method_101_code
noncomputable def yX12_rows : MethodName := ⟨RX12, "rows", "(IIIIJI)V"⟩
noncomputable abbrev cX12_laysRows : ByteArray := prog_14_method_102_code
noncomputable def yX12_laysRows : MethodName := ⟨RX12, "laysRows", "(IIJI)Z"⟩
noncomputable abbrev cX12_fewestOf : ByteArray := prog_14_method_103_code
noncomputable def yX12_fewestOf : MethodName := ⟨RX12, "fewestOf", "(JII)I"⟩
noncomputable abbrev cX12_answer : ByteArray := prog_14_method_104_code
noncomputable def yX12_answer : MethodName := ⟨RX12, "answer", "(I)I"⟩
noncomputable abbrev cX12_fewest : ByteArray := prog_14_method_105_code
noncomputable def yX12_fewest : MethodName := ⟨RX12, "fewest", "(II)I"⟩
noncomputable abbrev cX12_fewestAt : ByteArray := prog_14_method_106_code
noncomputable def yX12_fewestAt : MethodName := ⟨RX12, "fewestAt", "(III)I"⟩
noncomputable abbrev cX12_ways : ByteArray := prog_14_method_107_code
noncomputable def yX12_ways : MethodName := ⟨RX12, "ways", "(III)I"⟩
noncomputable abbrev cX12_oddsThat : ByteArray := prog_14_method_108_code
noncomputable def yX12_oddsThat : MethodName := ⟨RX12, "oddsThat", "(IIII)Z"⟩
noncomputable abbrev cX12_ask : ByteArray := prog_14_method_109_code
noncomputable def yX12_ask : MethodName := ⟨RX12, "ask", "(III)I"⟩
noncomputable abbrev cX12_kindestOf : ByteArray := prog_14_method_110_code
noncomputable def yX12_kindestOf : MethodName := ⟨RX12, "kindestOf", "(J)I"⟩
noncomputable abbrev cX12_kindestAt : ByteArray := prog_14_method_111_code
noncomputable def yX12_kindestAt : MethodName := ⟨RX12, "kindestAt", "(III)I"⟩
noncomputable abbrev cX12_greedyAt : ByteArray := prog_14_method_112_code
noncomputable def yX12_greedyAt : MethodName := ⟨RX12, "greedyAt", "(III)I"⟩
noncomputable abbrev cX12_whyNoRow : ByteArray := prog_14_method_113_code
noncomputable def yX12_whyNoRow : MethodName := ⟨RX12, "whyNoRow", "(IIII)I"⟩
noncomputable abbrev cX12_isRow : ByteArray := prog_14_method_114_code
noncomputable def yX12_isRow : MethodName := ⟨RX12, "isRow", "(IIIIJ)Z"⟩
noncomputable abbrev cX12_laysSlips : ByteArray := prog_14_method_115_code
noncomputable def yX12_laysSlips : MethodName := ⟨RX12, "laysSlips", "(IIIJ)V"⟩
noncomputable abbrev cX12_slips : ByteArray := prog_14_method_116_code
noncomputable def yX12_slips : MethodName := ⟨RX12, "slips", "(IIII)I"⟩
noncomputable abbrev cX12_slipAt : ByteArray := prog_14_method_117_code
noncomputable def yX12_slipAt : MethodName := ⟨RX12, "slipAt", "(IIIIII)I"⟩
noncomputable abbrev cX12_comesOf : ByteArray := prog_14_method_118_code
noncomputable def yX12_comesOf : MethodName := ⟨RX12, "comesOf", "(II)Z"⟩
noncomputable abbrev cX12_laysReach : ByteArray := prog_14_method_119_code
noncomputable def yX12_laysReach : MethodName := ⟨RX12, "laysReach", "(I)V"⟩
noncomputable abbrev cX12_reachFrom : ByteArray := prog_14_method_120_code
noncomputable def yX12_reachFrom : MethodName := ⟨RX12, "reachFrom", "(I)I"⟩
noncomputable abbrev cX12_reach : ByteArray := prog_14_method_121_code
noncomputable def yX12_reach : MethodName := ⟨RX12, "reach", "(I)I"⟩
noncomputable abbrev cX12_reachAt : ByteArray := prog_14_method_122_code
noncomputable def yX12_reachAt : MethodName := ⟨RX12, "reachAt", "(II)I"⟩
noncomputable abbrev cX12_fillOf : ByteArray := prog_14_method_123_code
noncomputable def yX12_fillOf : MethodName := ⟨RX12, "fillOf", "(I)I"⟩
noncomputable abbrev cX12_fill : ByteArray := prog_14_method_124_code
noncomputable def yX12_fill : MethodName := ⟨RX12, "fill", "(I)I"⟩
noncomputable abbrev cX12_fillAt : ByteArray := prog_14_method_125_code
noncomputable def yX12_fillAt : MethodName := ⟨RX12, "fillAt", "(II)I"⟩
noncomputable abbrev cX12_isSet : ByteArray := prog_14_method_126_code
noncomputable def yX12_isSet : MethodName := ⟨RX12, "isSet", "(I)Z"⟩
noncomputable abbrev cX12_plate : ByteArray := prog_14_method_127_code
noncomputable def yX12_plate : MethodName := ⟨RX12, "plate", "(I)I"⟩
noncomputable abbrev cX12_plateMove : ByteArray := prog_14_method_128_code
noncomputable def yX12_plateMove : MethodName := ⟨RX12, "plateMove", "(I)I"⟩
noncomputable abbrev cX12_plates : ByteArray := prog_14_method_129_code
noncomputable def yX12_plates : MethodName := ⟨RX12, "plates", "(I)I"⟩
noncomputable abbrev cX12_lucks : ByteArray := prog_14_method_130_code
noncomputable def yX12_lucks : MethodName := ⟨RX12, "lucks", "(IIIJ)J"⟩
noncomputable abbrev cX12_choices : ByteArray := prog_14_method_131_code
noncomputable def yX12_choices : MethodName := ⟨RX12, "choices", "(II)J"⟩
noncomputable abbrev cX12_luck : ByteArray := prog_14_method_132_code
noncomputable def yX12_luck : MethodName := ⟨RX12, "luck", "(IIII)Z"⟩
noncomputable abbrev cX12_burnt : ByteArray := prog_14_method_133_code
noncomputable def yX12_burnt : MethodName := ⟨RX12, "burnt", "(II)Z"⟩
noncomputable abbrev cX12_draw : ByteArray := prog_14_method_134_code
noncomputable def yX12_draw : MethodName := ⟨RX12, "draw", "(I)I"⟩
noncomputable abbrev cX12_isGiven : ByteArray := prog_14_method_135_code
noncomputable def yX12_isGiven : MethodName := ⟨RX12, "isGiven", "(II)Z"⟩
noncomputable abbrev cX12_isBaked : ByteArray := prog_14_method_136_code
noncomputable def yX12_isBaked : MethodName := ⟨RX12, "isBaked", "(I)Z"⟩
noncomputable abbrev cX12_isAny : ByteArray := prog_14_method_137_code
noncomputable def yX12_isAny : MethodName := ⟨RX12, "isAny", "()Z"⟩
noncomputable abbrev cX12_does : ByteArray := prog_14_method_138_code
noncomputable def yX12_does : MethodName := ⟨RX12, "does", "(I)Z"⟩
noncomputable abbrev cX12_holds : ByteArray := prog_14_method_139_code
noncomputable def yX12_holds : MethodName := ⟨RX12, "holds", "(I)Z"⟩
noncomputable abbrev cX12_doOne : ByteArray := prog_14_method_140_code
noncomputable def yX12_doOne : MethodName := ⟨RX12, "doOne", "(I)V"⟩
noncomputable abbrev cX12_doAll : ByteArray := prog_14_method_141_code
noncomputable def yX12_doAll : MethodName := ⟨RX12, "doAll", "(II)V"⟩
noncomputable abbrev cX12_runsDays : ByteArray := prog_14_method_142_code
noncomputable def yX12_runsDays : MethodName := ⟨RX12, "runsDays", "(I)V"⟩
noncomputable abbrev cX12_live : ByteArray := prog_14_method_143_code
noncomputable def yX12_live : MethodName := ⟨RX12, "live", "(I)I"⟩
noncomputable abbrev cX12_lived : ByteArray := prog_14_method_144_code
noncomputable def yX12_lived : MethodName := ⟨RX12, "lived", "(I)I"⟩
noncomputable abbrev cX12_mean : ByteArray := prog_14_method_145_code
noncomputable def yX12_mean : MethodName := ⟨RX12, "mean", "(II)Z"⟩
noncomputable abbrev cX12_copy : ByteArray := prog_14_method_146_code
noncomputable def yX12_copy : MethodName := ⟨RX12, "copy", "(II)V"⟩
noncomputable abbrev cX12_mark : ByteArray := prog_14_method_147_code
noncomputable def yX12_mark : MethodName := ⟨RX12, "mark", "()I"⟩
noncomputable abbrev cX12_back : ByteArray := prog_14_method_148_code
noncomputable def yX12_back : MethodName := ⟨RX12, "back", "()I"⟩
noncomputable def RJ6 : String := "java/lang/Integer"
noncomputable abbrev cJ6_bitCount_0f7a4 : ByteArray := prog_15_method_49_code
noncomputable def yJ6_bitCount_0f7a4 : MethodName := ⟨RJ6, "bitCount", "(I)I"⟩
noncomputable def RJ0 : String := "java/lang/String"
noncomputable abbrev cJ0_length_8abf5 : ByteArray := prog_17_method_54_code
noncomputable def yJ0_length_8abf5 : MethodName := ⟨RJ0, "length", "()I"⟩
noncomputable abbrev cJ0_charAt_5068e : ByteArray := prog_17_method_56_code
noncomputable def yJ0_charAt_5068e : MethodName := ⟨RJ0, "charAt", "(I)C"⟩
noncomputable abbrev cJ0_coder_7d493 : ByteArray := prog_17_method_152_code
noncomputable def yJ0_coder_7d493 : MethodName := ⟨RJ0, "coder", "()B"⟩
noncomputable abbrev cJ0_isLatin1_aae02 : ByteArray := prog_17_method_154_code
noncomputable def yJ0_isLatin1_aae02 : MethodName := ⟨RJ0, "isLatin1", "()Z"⟩
noncomputable abbrev cJ0_checkIndex_df160 : ByteArray := prog_17_method_155_code
noncomputable def yJ0_checkIndex_df160 : MethodName := ⟨RJ0, "checkIndex", "(II)V"⟩
noncomputable def RJ1 : String := "java/lang/StringLatin1"
noncomputable abbrev cJ1_charAt_3b067 : ByteArray := prog_18_method_2_code
noncomputable def yJ1_charAt_3b067 : MethodName := ⟨RJ1, "charAt", "([BI)C"⟩
noncomputable def RJ7 : String := "java/util/Arrays"
noncomputable abbrev cJ7_fill_d0a16 : ByteArray := prog_21_method_101_code
noncomputable def yJ7_fill_d0a16 : MethodName := ⟨RJ7, "fill", "([JJ)V"⟩
noncomputable abbrev cJ7_fill_53178 : ByteArray := prog_21_method_103_code
noncomputable def yJ7_fill_53178 : MethodName := ⟨RJ7, "fill", "([II)V"⟩
noncomputable def RJ3 : String := "jdk/internal/util/Preconditions"
noncomputable abbrev cJ3_checkIndex_8e157 : ByteArray := prog_22_method_11_code
noncomputable def yJ3_checkIndex_8e157 : MethodName := ⟨RJ3, "checkIndex", "(IILjava/util/function/BiFunction;)I"⟩
noncomputable def RL : String := "BreadScribesLaw"
