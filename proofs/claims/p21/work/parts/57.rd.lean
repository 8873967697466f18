/-! printed by rd.py: the Reader's constructor, all steps but those with the text -/
noncomputable def kRd : List En := [
  (0, .aload_n 0, 1, [], [], 0),
  (1, .invokespecial 3, 3, [3], [], 0),
  (4, .aload_n 0, 1, [], [], 0),
  (5, .sipush 900, 3, [], [900], 0),
  (8, .newarray .byte, 2, [2], [], 0),
  (10, .putfield 9, 3, [6, 0, 4, 1], [], 0),
  (13, .aload_n 0, 1, [], [], 0),
  (14, .iconst 0, 1, [], [0], 0),
  (15, .putfield 15, 3, [6, 1, 0, 0], [], 0),
  (18, .aload_n 0, 1, [], [], 0),
  (19, .bipush 22, 2, [], [22], 0),
  (21, .newarray .long, 2, [1], [], 0),
  (23, .putfield 19, 3, [6, 2, 4, 2], [], 0),
  (26, .aload_n 0, 1, [], [], 0),
  (27, .iconst 0, 1, [], [0], 0),
  (28, .putfield 23, 3, [6, 3, 1, 0], [], 0),
  (31, .aload_n 0, 1, [], [], 0),
  (32, .iconst 0, 1, [], [0], 0),
  (33, .putfield 27, 3, [6, 4, 0, 0], [], 0),
  (36, .aload_n 0, 1, [], [], 0),
  (37, .iconst 0, 1, [], [0], 0),
  (38, .putfield 30, 3, [6, 5, 0, 0], [], 0),
  (41, .aload_n 0, 1, [], [], 0),
  (42, .iconst 0, 1, [], [0], 0),
  (43, .putfield 33, 3, [6, 6, 0, 0], [], 0),
  (46, .aload_n 0, 1, [], [], 0),
  (47, .iconst 0, 1, [], [0], 0),
  (48, .putfield 36, 3, [6, 7, 0, 0], [], 0),
  (51, .aload_n 0, 1, [], [], 0),
  (52, .iconst 0, 1, [], [0], 0),
  (53, .putfield 39, 3, [6, 8, 0, 0], [], 0),
  (56, .aload_n 0, 1, [], [], 0),
  (57, .iconst (-1), 1, [], [(-1)], 0),
  (58, .putfield 42, 3, [6, 9, 0, 0], [], 0),
  (61, .aload_n 0, 1, [], [], 0),
  (62, .lconst 0, 1, [], [], 0),
  (63, .putfield 45, 3, [6, 10, 2, 0], [], 0),
  (66, .aload_n 0, 1, [], [], 0),
  (67, .iconst 0, 1, [], [0], 0),
  (68, .putfield 49, 3, [6, 11, 0, 0], [], 0),
  (71, .aload_n 0, 1, [], [], 0),
  (72, .iconst 0, 1, [], [0], 0),
  (73, .putfield 52, 3, [6, 12, 0, 0], [], 0),
  (76, .aload_n 0, 1, [], [], 0),
  (77, .iconst (-1), 1, [], [(-1)], 0),
  (78, .putfield 55, 3, [6, 13, 0, 0], [], 0),
  (81, .iconst 1, 1, [], [1], 0),
  (82, .istore_n 1, 1, [], [], 0),
  (83, .iconst 0, 1, [], [0], 0),
  (84, .istore_n 2, 1, [], [], 0),
  (85, .iload_n 2, 1, [], [], 0),
  (91, .if_icmp .ge 58, 3, [149], [], 0),
  (96, .iload_n 2, 1, [], [], 0),
  (100, .istore_n 3, 1, [], [], 0),
  (101, .iload_n 3, 1, [], [], 0),
  (102, .bipush 32, 2, [], [32], 0),
  (104, .if_icmp .ne 9, 3, [113], [], 0),
  (107, .iinc 1 1, 3, [], [1], 0),
  (110, .goto 33, 3, [143], [], 0),
  (113, .iload_n 1, 1, [], [], 0),
  (114, .bipush 21, 2, [], [21], 0),
  (116, .if_icmp .gt 27, 3, [143], [], 0),
  (119, .aload_n 0, 1, [], [], 0),
  (120, .getfield 19, 3, [6, 2, 4, 2], [], 0),
  (123, .iload_n 1, 1, [], [], 0),
  (124, .aload_n 0, 1, [], [], 0),
  (125, .getfield 19, 3, [6, 2, 4, 2], [], 0),
  (128, .iload_n 1, 1, [], [], 0),
  (129, .laload, 1, [], [], 0),
  (130, .ldc2_w 70, 3, [], [], 32),
  (133, .lmul, 1, [], [], 0),
  (134, .iload_n 3, 1, [], [], 0),
  (135, .bipush 97, 2, [], [97], 0),
  (137, .isub, 1, [], [], 0),
  (138, .iconst 1, 1, [], [1], 0),
  (139, .iadd, 1, [], [], 0),
  (140, .i2l, 1, [], [], 0),
  (141, .ladd, 1, [], [], 0),
  (142, .lastore, 1, [], [], 0),
  (143, .iinc 2 1, 3, [], [1], 0),
  (146, .goto (-61), 3, [85], [], 0),
  (149, .return_, 1, [], [], 0)]
set_option maxRecDepth 100000 in
theorem rd_okE : ∀ e ∈ kRd, okE RX6 cX6_init 4 1 e = true := List.all_eq_true.mp (by decide +kernel)
set_option maxRecDepth 100000 in
theorem rd_need : ∀ e ∈ kRd, ∀ w ∈ needE RX6 e, w ∈ wsG := need_ok [157, 148, 260, 208, 209, 261, 211, 212, 214, 215, 216, 217, 218, 221, 224, 225, 226, 229, 211, 211, 207] (by decide +kernel) (by decide +kernel)
set_option maxRecDepth 100000 in
theorem wj_cs : Cond.fieldLink RJ0 38 "java/lang/String" "COMPACT_STRINGS" "Z" ∈ wsG := tb_mem 167 rfl rfl
set_option maxRecDepth 100000 in
theorem wj_co : Cond.fieldLink RJ0 15 "java/lang/String" "coder" "B" ∈ wsG := tb_mem 2052 rfl rfl
set_option maxRecDepth 100000 in
theorem wj_va : Cond.fieldLink RJ0 9 "java/lang/String" "value" "[B" ∈ wsG := tb_mem 2051 rfl rfl
set_option maxRecDepth 100000 in
theorem wj_fm : Cond.fieldLink RJ0 1053 "jdk/internal/util/Preconditions" "SIOOBE_FORMATTER" "Ljava/util/function/BiFunction;" ∈ wsG := tb_mem 183 rfl rfl
set_option maxRecDepth 100000 in
theorem wv_coder : ∀ w ∈ ([.methodLink RJ0 335 yJ0_coder_7d493, .instanceMethod yJ0_coder_7d493, .selects RJ0 yJ0_coder_7d493 yJ0_coder_7d493, .initialized RJ0] : List Cond), w ∈ wsG := tb_list [163, 164, 165, 123] (by decide +kernel) (by decide +kernel)
set_option maxRecDepth 100000 in
theorem wv_isLatin1 : ∀ w ∈ ([.methodLink RJ0 492 yJ0_isLatin1_aae02, .instanceMethod yJ0_isLatin1_aae02, .selects RJ0 yJ0_isLatin1_aae02 yJ0_isLatin1_aae02, .initialized RJ0] : List Cond), w ∈ wsG := tb_list [173, 174, 175, 123] (by decide +kernel) (by decide +kernel)
set_option maxRecDepth 100000 in
theorem wv_length : ∀ w ∈ ([.methodLink RX6 60 yJ0_length_8abf5, .instanceMethod yJ0_length_8abf5, .selects RJ0 yJ0_length_8abf5 yJ0_length_8abf5, .initialized RJ0] : List Cond), w ∈ wsG := tb_list [159, 160, 161, 123] (by decide +kernel) (by decide +kernel)
set_option maxRecDepth 100000 in
theorem wv_charAt : ∀ w ∈ ([.methodLink RX6 66 yJ0_charAt_5068e, .instanceMethod yJ0_charAt_5068e, .selects RJ0 yJ0_charAt_5068e yJ0_charAt_5068e, .initialized RJ0] : List Cond), w ∈ wsG := tb_list [169, 170, 171, 123] (by decide +kernel) (by decide +kernel)
set_option maxRecDepth 100000 in
theorem ws_c1 : ∀ w ∈ ([.methodLink RJ0 495 yJ1_charAt_3b067, .static yJ1_charAt_3b067, .initialized RJ1] : List Cond), w ∈ wsG := tb_list [177, 178, 124] (by decide +kernel) (by decide +kernel)
set_option maxRecDepth 100000 in
theorem ws_ci : ∀ w ∈ ([.methodLink RJ1 9 yJ0_checkIndex_df160, .static yJ0_checkIndex_df160, .initialized RJ0] : List Cond), w ∈ wsG := tb_list [180, 181, 123] (by decide +kernel) (by decide +kernel)
set_option maxRecDepth 100000 in
theorem ws_pre : ∀ w ∈ ([.methodLink RJ0 1059 yJ3_checkIndex_8e157, .static yJ3_checkIndex_8e157, .initialized RJ3] : List Cond), w ∈ wsG := tb_list [185, 186, 125] (by decide +kernel) (by decide +kernel)
noncomputable abbrev kc_coder : Cond := .code yJ0_coder_7d493 cJ0_coder_7d493 1 (some .byte)
set_option maxRecDepth 100000 in
theorem wc_coder : kc_coder ∈ wsG := tb_mem 166 rfl rfl
theorem dJ0_coder_7d493_0 : decode cJ0_coder_7d493 0 = .ok (.getstatic 38, 3) := by decide +kernel
theorem dJ0_coder_7d493_3 : decode cJ0_coder_7d493 3 = .ok (.ifCond .eq 10, 3) := by decide +kernel
theorem dJ0_coder_7d493_6 : decode cJ0_coder_7d493 6 = .ok (.aload_n 0, 1) := by decide +kernel
theorem dJ0_coder_7d493_7 : decode cJ0_coder_7d493 7 = .ok (.getfield 15, 3) := by decide +kernel
theorem dJ0_coder_7d493_10 : decode cJ0_coder_7d493 10 = .ok (.goto 4, 3) := by decide +kernel
theorem dJ0_coder_7d493_14 : decode cJ0_coder_7d493 14 = .ok (.ireturn, 1) := by decide +kernel
noncomputable abbrev kc_length : Cond := .code yJ0_length_8abf5 cJ0_length_8abf5 1 (some .int)
set_option maxRecDepth 100000 in
theorem wc_length : kc_length ∈ wsG := tb_mem 162 rfl rfl
theorem dJ0_length_8abf5_0 : decode cJ0_length_8abf5 0 = .ok (.aload_n 0, 1) := by decide +kernel
theorem dJ0_length_8abf5_1 : decode cJ0_length_8abf5 1 = .ok (.getfield 9, 3) := by decide +kernel
theorem dJ0_length_8abf5_4 : decode cJ0_length_8abf5 4 = .ok (.arraylength, 1) := by decide +kernel
theorem dJ0_length_8abf5_5 : decode cJ0_length_8abf5 5 = .ok (.aload_n 0, 1) := by decide +kernel
theorem dJ0_length_8abf5_6 : decode cJ0_length_8abf5 6 = .ok (.invokevirtual 335, 3) := by decide +kernel
theorem dJ0_length_8abf5_9 : decode cJ0_length_8abf5 9 = .ok (.ishr, 1) := by decide +kernel
theorem dJ0_length_8abf5_10 : decode cJ0_length_8abf5 10 = .ok (.ireturn, 1) := by decide +kernel
noncomputable abbrev kc_isLatin1 : Cond := .code yJ0_isLatin1_aae02 cJ0_isLatin1_aae02 1 (some .boolean)
set_option maxRecDepth 100000 in
theorem wc_isLatin1 : kc_isLatin1 ∈ wsG := tb_mem 176 rfl rfl
theorem dJ0_isLatin1_aae02_0 : decode cJ0_isLatin1_aae02 0 = .ok (.getstatic 38, 3) := by decide +kernel
theorem dJ0_isLatin1_aae02_3 : decode cJ0_isLatin1_aae02 3 = .ok (.ifCond .eq 14, 3) := by decide +kernel
theorem dJ0_isLatin1_aae02_6 : decode cJ0_isLatin1_aae02 6 = .ok (.aload_n 0, 1) := by decide +kernel
theorem dJ0_isLatin1_aae02_7 : decode cJ0_isLatin1_aae02 7 = .ok (.getfield 15, 3) := by decide +kernel
theorem dJ0_isLatin1_aae02_10 : decode cJ0_isLatin1_aae02 10 = .ok (.ifCond .ne 7, 3) := by decide +kernel
theorem dJ0_isLatin1_aae02_13 : decode cJ0_isLatin1_aae02 13 = .ok (.iconst 1, 1) := by decide +kernel
theorem dJ0_isLatin1_aae02_14 : decode cJ0_isLatin1_aae02 14 = .ok (.goto 4, 3) := by decide +kernel
theorem dJ0_isLatin1_aae02_18 : decode cJ0_isLatin1_aae02 18 = .ok (.ireturn, 1) := by decide +kernel
noncomputable abbrev kc_ci : Cond := .code yJ0_checkIndex_df160 cJ0_checkIndex_df160 2 none
set_option maxRecDepth 100000 in
theorem wc_ci : kc_ci ∈ wsG := tb_mem 182 rfl rfl
theorem dJ0_checkIndex_df160_0 : decode cJ0_checkIndex_df160 0 = .ok (.iload_n 0, 1) := by decide +kernel
theorem dJ0_checkIndex_df160_1 : decode cJ0_checkIndex_df160 1 = .ok (.iload_n 1, 1) := by decide +kernel
theorem dJ0_checkIndex_df160_2 : decode cJ0_checkIndex_df160 2 = .ok (.getstatic 1053, 3) := by decide +kernel
theorem dJ0_checkIndex_df160_5 : decode cJ0_checkIndex_df160 5 = .ok (.invokestatic 1059, 3) := by decide +kernel
theorem dJ0_checkIndex_df160_8 : decode cJ0_checkIndex_df160 8 = .ok (.pop, 1) := by decide +kernel
theorem dJ0_checkIndex_df160_9 : decode cJ0_checkIndex_df160 9 = .ok (.return_, 1) := by decide +kernel
noncomputable abbrev kc_c1 : Cond := .code yJ1_charAt_3b067 cJ1_charAt_3b067 2 (some .char)
set_option maxRecDepth 100000 in
theorem wc_c1 : kc_c1 ∈ wsG := tb_mem 179 rfl rfl
theorem dJ1_charAt_3b067_0 : decode cJ1_charAt_3b067 0 = .ok (.iload_n 1, 1) := by decide +kernel
theorem dJ1_charAt_3b067_1 : decode cJ1_charAt_3b067 1 = .ok (.aload_n 0, 1) := by decide +kernel
theorem dJ1_charAt_3b067_2 : decode cJ1_charAt_3b067 2 = .ok (.arraylength, 1) := by decide +kernel
theorem dJ1_charAt_3b067_3 : decode cJ1_charAt_3b067 3 = .ok (.invokestatic 9, 3) := by decide +kernel
theorem dJ1_charAt_3b067_6 : decode cJ1_charAt_3b067 6 = .ok (.aload_n 0, 1) := by decide +kernel
theorem dJ1_charAt_3b067_7 : decode cJ1_charAt_3b067 7 = .ok (.iload_n 1, 1) := by decide +kernel
theorem dJ1_charAt_3b067_8 : decode cJ1_charAt_3b067 8 = .ok (.baload, 1) := by decide +kernel
theorem dJ1_charAt_3b067_9 : decode cJ1_charAt_3b067 9 = .ok (.sipush 255, 3) := by decide +kernel
theorem dJ1_charAt_3b067_12 : decode cJ1_charAt_3b067 12 = .ok (.iand, 1) := by decide +kernel
theorem dJ1_charAt_3b067_13 : decode cJ1_charAt_3b067 13 = .ok (.i2c, 1) := by decide +kernel
theorem dJ1_charAt_3b067_14 : decode cJ1_charAt_3b067 14 = .ok (.ireturn, 1) := by decide +kernel
noncomputable abbrev kc_charAt : Cond := .code yJ0_charAt_5068e cJ0_charAt_5068e 2 (some .char)
set_option maxRecDepth 100000 in
theorem wc_charAt : kc_charAt ∈ wsG := tb_mem 172 rfl rfl
theorem dJ0_charAt_5068e_0 : decode cJ0_charAt_5068e 0 = .ok (.aload_n 0, 1) := by decide +kernel
theorem dJ0_charAt_5068e_1 : decode cJ0_charAt_5068e 1 = .ok (.invokevirtual 492, 3) := by decide +kernel
theorem dJ0_charAt_5068e_4 : decode cJ0_charAt_5068e 4 = .ok (.ifCond .eq 12, 3) := by decide +kernel
theorem dJ0_charAt_5068e_7 : decode cJ0_charAt_5068e 7 = .ok (.aload_n 0, 1) := by decide +kernel
theorem dJ0_charAt_5068e_8 : decode cJ0_charAt_5068e 8 = .ok (.getfield 9, 3) := by decide +kernel
theorem dJ0_charAt_5068e_11 : decode cJ0_charAt_5068e 11 = .ok (.iload_n 1, 1) := by decide +kernel
theorem dJ0_charAt_5068e_12 : decode cJ0_charAt_5068e 12 = .ok (.invokestatic 495, 3) := by decide +kernel
theorem dJ0_charAt_5068e_15 : decode cJ0_charAt_5068e 15 = .ok (.ireturn, 1) := by decide +kernel
noncomputable abbrev kc_pre : Cond := .code yJ3_checkIndex_8e157 cJ3_checkIndex_8e157 3 (some .int)
set_option maxRecDepth 100000 in
theorem wc_pre : kc_pre ∈ wsG := tb_mem 187 rfl rfl
theorem dJ3_checkIndex_8e157_0 : decode cJ3_checkIndex_8e157 0 = .ok (.iload_n 0, 1) := by decide +kernel
theorem dJ3_checkIndex_8e157_1 : decode cJ3_checkIndex_8e157 1 = .ok (.ifCond .lt 8, 3) := by decide +kernel
theorem dJ3_checkIndex_8e157_4 : decode cJ3_checkIndex_8e157 4 = .ok (.iload_n 0, 1) := by decide +kernel
theorem dJ3_checkIndex_8e157_5 : decode cJ3_checkIndex_8e157 5 = .ok (.iload_n 1, 1) := by decide +kernel
theorem dJ3_checkIndex_8e157_6 : decode cJ3_checkIndex_8e157 6 = .ok (.if_icmp .lt 10, 3) := by decide +kernel
theorem dJ3_checkIndex_8e157_16 : decode cJ3_checkIndex_8e157 16 = .ok (.iload_n 0, 1) := by decide +kernel
theorem dJ3_checkIndex_8e157_17 : decode cJ3_checkIndex_8e157 17 = .ok (.ireturn, 1) := by decide +kernel
noncomputable def rd_tx : String := "odds store times man due by has known cut split give take bake any when even holds lacks loop end stop"
set_option maxRecDepth 100000 in
theorem wt_tx : Cond.stringRef RX6 58 rd_tx ∈ lw_tbl := List.mem_of_getElem? (i := 158) (by decide +kernel)
set_option maxRecDepth 100000 in
theorem wt_cs : Cond.laysStatic "java/lang/String" "COMPACT_STRINGS" "Z" ∈ lw_tbl := List.mem_of_getElem? (i := 168) (by decide +kernel)
set_option maxRecDepth 100000 in
theorem wt_fm : Cond.laysStatic "jdk/internal/util/Preconditions" "SIOOBE_FORMATTER" "Ljava/util/function/BiFunction;" ∈ lw_tbl := List.mem_of_getElem? (i := 184) (by decide +kernel)
set_option maxRecDepth 100000 in
theorem wt_is : Cond.initialized "java/lang/String" ∈ lw_tbl := List.mem_of_getElem? (i := 123) (by decide +kernel)
set_option maxRecDepth 100000 in
theorem wt_ip : Cond.initialized "jdk/internal/util/Preconditions" ∈ lw_tbl := List.mem_of_getElem? (i := 125) (by decide +kernel)
theorem skp_start {p : Program} {s : State} {m : MethodId} {meth : Method} {c : Code} {b L : Nat} {xs : Nat → Int32} (C0 : lw_At p s m meth c b L xs) : SKp s.heap.size s := by
  obtain ⟨hx, hb, hr, hml, hown, hts, hX, hbl, hlocks, hgv⟩ := C0
  have hs := flat_of_before _ hgv
  have hA : ∀ a : Nat, a < s.heap.size → ¬ s.heap.size ≤ a := fun a h => by omega
  have z0 : ∀ i : Nat, i < 1 → i = 0 := fun i h => by omega
  have hel : ∀ j, j < 102 → (Cond.eq (.elem (.field (.string RX6 58) "java/lang/String" "value" "[B") (.int (Int32.ofNat j))) (.int (rd_by.getD j 0))) ∈ flatC (Jvm.Cond.and given_1 narrow_1) := by decide +kernel
  obtain ⟨adK, adV, hS, hE⟩ := vk_Sof (args := #[Value.ref b]) (s := s) (N := 1) (tm := fun _ => .string RX6 58) (len := [102]) (byt := [rd_by]) (A := fun q => s.heap.size ≤ q)
    (fun i hi => by rw [z0 i hi]; decide) (fun i hi => hs _ (by decide +kernel)) (fun i hi => hs _ (by decide +kernel)) (fun i hi => hs _ (by decide +kernel)) (fun i hi => by rw [z0 i hi]; exact hs _ (by decide +kernel))
    (fun i hi j hj => by rw [z0 i hi] at hj ⊢; exact hs _ (hel j hj)) (fun i j hi hj hn => absurd ((z0 i hi).trans (z0 j hj).symm) hn) hA
  refine ⟨rd_tx, adK 0, adV 0, rd_by, rfl, vk_R.of (hts _ wt_tx) (hE 0 (by decide)), ⟨fun i hi => ?_, fun i j hi hj _ => (z0 i hi).trans (z0 j hj).symm⟩, va_Zof (hts _ wt_cs) (hts _ wt_is) (va_eqi (hs _ (by decide +kernel))) hA, va_Zqof (hts _ wt_fm) (hts _ wt_ip) (hs _ (by decide +kernel)) hA⟩
  rw [z0 i hi]
  exact hS.1 0 (by decide)
/-! ===== the JDK's length() and charAt() of the one text ===== -/
noncomputable def nF : Nat → Prop := fun _ => False
noncomputable def SKc (aK aV : Nat) (byt : List Int32) (U : State) : Prop := vk_S 1 [102] [byt] (fun _ => aK) (fun _ => aV) nF U U.heap ∧ va_Z "java/lang/String" "COMPACT_STRINGS" "Z" (.int 1) nF U U.heap ∧ va_Zq "jdk/internal/util/Preconditions" "SIOOBE_FORMATTER" "Ljava/util/function/BiFunction;" nF U U.heap
theorem SKc.next {aK aV : Nat} {byt : List Int32} {s U : State} (hW : s.WarmedH U.vm) (hq : ∀ a : Nat, a < s.heap.size → U.heap[a]? = s.heap[a]?) (h : SKc aK aV byt s) : SKc aK aV byt U :=
  ⟨(vk_S.moved hW.alike h.1).kept (fun a h1 _ => hq a h1), (va_Z.moved hW.alike h.2.1).kept (fun a h1 _ => hq a h1), (va_Zq.moved hW.alike h.2.2).kept (fun a h1 _ => hq a h1)⟩
theorem SKc.blind {aK aV : Nat} {byt : List Int32} {av : List Value} : FrameBlind (va_Pc av (SKc aK aV byt)) := fun a U g mk q => ⟨q.1, SKc.next (s := U) (U := U.calling g mk a) (State.WarmedH.refl U) (fun _ _ => rfl) q.2⟩
noncomputable def wsY (w : Cond) : List Cond := w :: wsG
theorem wsY_in {w0 : Cond} : ∀ w ∈ wsG, w ∈ wsY w0 := fun _ h => List.mem_cons_of_mem _ h
theorem wsY_good {Ts : List Cond} {w0 : Cond} (hG : ∀ w ∈ wsG, w ∈ Ts) (hq : w0 ∈ wsG) : GoodIn Ts (wsY w0) := by
  intro w hw
  rcases List.mem_cons.mp hw with rfl | h
  · exact ⟨hG _ hq, good_of_word (wsG_good hq)⟩
  · exact ⟨hG _ h, good_of_word (wsG_good h)⟩
noncomputable abbrev QJ (P : Int32 → Prop) : Array Value → State → Outcome → State → Prop := va_Qi (fun x (_ : Unit) => P x) (fun _ _ => True) nF
theorem m_coder (l : Launch) {aK aV : Nat} {byt : List Int32} : Met l yJ0_coder_7d493 (wsY kc_coder) (rmD 1 0 0) (va_Pc [.ref aK] (SKc aK aV byt)) (QJ (fun x => x = 0)) 0 0 nF := by
  refine Met.ofW (cc := cJ0_coder_7d493) (maxL := 1) (ret := some .byte) (by decide) rfl ?_
  intro p e s m args below meth c s₁ B hml hv
  obtain ⟨rfl, hv⟩ := hv
  have hx := B.exec
  have hb := B.bytes
  have hr := B.returns
  have hts := atoms_spec (ws := wsY kc_coder) B.pre
  have hG := fun w h => hts w (wsY_in w h)
  have hown : s.vm.findClass RJ0 = some m.cls := findClass_of_methodNamed B.named
  have hlocks := B.notSynchronized
  have hl := lv_entry ([.ref aK]) (n := 1) (Nat.le_of_ble_eq_true rfl)
  rw [lg_entry_eq]
  have hS : va_S nF s.heap s.heap [] := va_S.rf
  have l0 := lv_at hl 0 (i := 0) (v := .ref aK) rfl
  refine va_gets hx hb hv.2.1 hS hown (hG _ wj_cs) (fun _ h => h) dJ0_coder_7d493_0 ?_
  refine lv_if_eq hx hb dJ0_coder_7d493_3 (tgt := 13) (by decide) (fun h => absurd h (by decide)) (fun _ => ?_)
  refine lv_aload_n hx hb dJ0_coder_7d493_6 rfl l0 ?_
  refine vk_getf hx hb (hv.1.1 0 (by decide)).2.1 hS hown (hG _ wj_co) (fun _ h => h) dJ0_coder_7d493_7 ?_
  refine lv_goto hx hb dJ0_coder_7d493_10 (tgt := 14) (by decide) ?_
  exact W.zret (ty := .byte) hx hb hr rfl (fun t ht hW => ⟨⟨0, (), rfl, rfl, trivial⟩, hS.F ht⟩) hS.2.2 dJ0_coder_7d493_14
theorem m_isLatin1 (l : Launch) {aK aV : Nat} {byt : List Int32} : Met l yJ0_isLatin1_aae02 (wsY kc_isLatin1) (rmD 1 0 0) (va_Pc [.ref aK] (SKc aK aV byt)) (QJ (fun x => x = 1)) 0 0 nF := by
  refine Met.ofW (cc := cJ0_isLatin1_aae02) (maxL := 1) (ret := some .boolean) (by decide) rfl ?_
  intro p e s m args below meth c s₁ B hml hv
  obtain ⟨rfl, hv⟩ := hv
  have hx := B.exec
  have hb := B.bytes
  have hr := B.returns
  have hts := atoms_spec (ws := wsY kc_isLatin1) B.pre
  have hG := fun w h => hts w (wsY_in w h)
  have hown : s.vm.findClass RJ0 = some m.cls := findClass_of_methodNamed B.named
  have hlocks := B.notSynchronized
  have hl := lv_entry ([.ref aK]) (n := 1) (Nat.le_of_ble_eq_true rfl)
  rw [lg_entry_eq]
  have hS : va_S nF s.heap s.heap [] := va_S.rf
  have l0 := lv_at hl 0 (i := 0) (v := .ref aK) rfl
  refine va_gets hx hb hv.2.1 hS hown (hG _ wj_cs) (fun _ h => h) dJ0_isLatin1_aae02_0 ?_
  refine lv_if_eq hx hb dJ0_isLatin1_aae02_3 (tgt := 17) (by decide) (fun h => absurd h (by decide)) (fun _ => ?_)
  refine lv_aload_n hx hb dJ0_isLatin1_aae02_6 rfl l0 ?_
  refine vk_getf hx hb (hv.1.1 0 (by decide)).2.1 hS hown (hG _ wj_co) (fun _ h => h) dJ0_isLatin1_aae02_7 ?_
  refine lv_if_ne hx hb dJ0_isLatin1_aae02_10 (tgt := 17) (by decide) (fun h => absurd rfl h) (fun _ => ?_)
  refine lv_iconst hx hb dJ0_isLatin1_aae02_13 (v := 1) (by decide) ?_
  refine lv_goto hx hb dJ0_isLatin1_aae02_14 (tgt := 18) (by decide) ?_
  exact W.zret (ty := .boolean) hx hb hr rfl (fun t ht hW => ⟨⟨1, (), rfl, rfl, trivial⟩, hS.F ht⟩) hS.2.2 dJ0_isLatin1_aae02_18
theorem m_length (l : Launch) {aK aV : Nat} {byt : List Int32} : Met l yJ0_length_8abf5 (wsY kc_length) (rmD 2 0 0) (va_Pc [.ref aK] (SKc aK aV byt)) (QJ (fun x => x = 102)) 0 0 nF := by
  refine Met.ofW (cc := cJ0_length_8abf5) (maxL := 1) (ret := some .int) (by decide) rfl ?_
  intro p e s m args below meth c s₁ B hml hv
  obtain ⟨rfl, hv⟩ := hv
  have hx := B.exec
  have hb := B.bytes
  have hr := B.returns
  have hts := atoms_spec (ws := wsY kc_length) B.pre
  have hG := fun w h => hts w (wsY_in w h)
  have hown : s.vm.findClass RJ0 = some m.cls := findClass_of_methodNamed B.named
  have hlocks := B.notSynchronized
  have hl := lv_entry ([.ref aK]) (n := 1) (Nat.le_of_ble_eq_true rfl)
  rw [lg_entry_eq]
  have hS : va_S nF s.heap s.heap [] := va_S.rf
  have l0 := lv_at hl 0 (i := 0) (v := .ref aK) rfl
  have hT : va_T .byte aV 102 (fun j => .int (byt.getD j 0)) nF s s.heap := (hv.1.1 0 (by decide)).2.2.2
  refine lv_aload_n hx hb dJ0_length_8abf5_0 rfl l0 ?_
  refine vk_getf hx hb (hv.1.1 0 (by decide)).2.2.1 hS hown (hG _ wj_va) (fun _ h => h) dJ0_length_8abf5_1 ?_
  refine va_tlen hx hb hT hS (v := 102) (by decide) dJ0_length_8abf5_4 ?_
  refine lv_aload_n hx hb dJ0_length_8abf5_5 rfl l0 ?_
  refine va_calli (va_runV (As := []) (b := aK) (rest := [.int 102]) ⟨hx, hb, hml, hown, hts⟩ (m_coder l (aK := aK) (aV := aV) (byt := byt))
    (cwV 0 hts (by unfold wsV; exact good_app (good_list wsY_in wv_coder) (wsY_good wsY_in wc_coder)) rfl rfl rfl ⟨rfl, by decide +kernel⟩ ⟨by decide, by decide⟩)
    ⟨SKc.blind, vk_recv (i := 0) hv.1 (by decide) hS, fun U hU hW => ⟨rfl, SKc.next hW (fun a _ => by rw [hU]) hv⟩⟩ rfl rfl hl.1 rfl (Nat.le_of_ble_eq_true rfl) dJ0_length_8abf5_6 ⟨Nat.le_refl _, Nat.le_refl _⟩) hS (fun _ _ h => h) (fun _ h => h) (fun x u t H1 locs1 ht hal hp hB hz hk hS1 => ?_)
  subst hp
  refine lv_ishr hx hb dJ0_length_8abf5_9 ?_
  exact W.iret hx hb hr (fun t ht hW => ⟨⟨102, (), rfl, rfl, trivial⟩, hS1.F ht⟩) hS1.2.2 dJ0_length_8abf5_10
theorem m_pre (l : Launch) {i : Int32} {v : Value} (h0 : ¬ i < 0) (h1 : i < 102) (hv0 : v = .null ∨ ∃ t, v = .ref t) : Met l yJ3_checkIndex_8e157 (wsY kc_pre) (rmD 1 0 0) (va_Pc [.int i, .int 102, v] (fun _ => True)) (QJ (fun _ => True)) 0 0 nF := by
  refine Met.ofW (cc := cJ3_checkIndex_8e157) (maxL := 3) (ret := some .int) (by decide) rfl ?_
  intro p e s m args below meth c s₁ B hml hv
  obtain ⟨rfl, hv⟩ := hv
  have hx := B.exec
  have hb := B.bytes
  have hr := B.returns
  have hlocks := B.notSynchronized
  have hl := lv_entry ([.int i, .int 102, v]) (n := 3) (by rcases hv0 with rfl | ⟨t, rfl⟩ <;> exact Nat.le_of_ble_eq_true rfl)
  rw [lg_entry_eq]
  have hS : va_S nF s.heap s.heap [] := va_S.rf
  have l0 := lv_at hl 0 (i := 0) (v := .int i) rfl
  have l1 := lv_at hl 1 (i := 1) (v := .int 102) rfl
  refine lv_iload_n hx hb dJ3_checkIndex_8e157_0 rfl l0 ?_
  refine lv_if_lt hx hb dJ3_checkIndex_8e157_1 (tgt := 9) (by decide) (fun h => absurd h h0) (fun _ => ?_)
  refine lv_iload_n hx hb dJ3_checkIndex_8e157_4 rfl l0 ?_
  refine lv_iload_n hx hb dJ3_checkIndex_8e157_5 rfl l1 ?_
  refine lv_icmp_lt hx hb dJ3_checkIndex_8e157_6 (tgt := 16) (by decide) (fun _ => ?_) (fun h => absurd h1 h)
  refine lv_iload_n hx hb dJ3_checkIndex_8e157_16 rfl l0 ?_
  exact W.iret hx hb hr (fun t ht hW => ⟨⟨i, (), rfl, trivial, trivial⟩, hS.F ht⟩) hS.2.2 dJ3_checkIndex_8e157_17
theorem m_ci (l : Launch) {aK aV : Nat} {byt : List Int32} {i : Int32} (h0 : ¬ i < 0) (h1 : i < 102) : Met l yJ0_checkIndex_df160 (wsY kc_ci) (rmD 2 0 0) (va_Pc [.int i, .int 102] (SKc aK aV byt)) (va_Qv (fun (_ : Unit) => True) (fun _ _ => True) nF) 0 0 nF := by
  refine Met.ofW (cc := cJ0_checkIndex_df160) (maxL := 2) (ret := none) (by decide) rfl ?_
  intro p e s m args below meth c s₁ B hml hv
  obtain ⟨rfl, hv⟩ := hv
  have hx := B.exec
  have hb := B.bytes
  have hr := B.returns
  have hts := atoms_spec (ws := wsY kc_ci) B.pre
  have hG := fun w h => hts w (wsY_in w h)
  have hown : s.vm.findClass RJ0 = some m.cls := findClass_of_methodNamed B.named
  have hlocks := B.notSynchronized
  have hl := lv_entry ([.int i, .int 102]) (n := 2) (Nat.le_of_ble_eq_true rfl)
  rw [lg_entry_eq]
  have hS : va_S nF s.heap s.heap [] := va_S.rf
  have l0 := lv_at hl 0 (i := 0) (v := .int i) rfl
  have l1 := lv_at hl 1 (i := 1) (v := .int 102) rfl
  refine lv_iload_n hx hb dJ0_checkIndex_df160_0 rfl l0 ?_
  refine lv_iload_n hx hb dJ0_checkIndex_df160_1 rfl l1 ?_
  have key : ∀ v : Value, (v = .null ∨ ∃ t, v = .ref t) → va_Z "jdk/internal/util/Preconditions" "SIOOBE_FORMATTER" "Ljava/util/function/BiFunction;" v nF s s.heap → W p l e (rmD 2 0 0) s m ([.int i, .int 102] : List Value).toArray below meth c s.heap [] 0 0 (MQ below (va_Qv (fun (_ : Unit) => True) (fun _ _ => True) nF) ([.int i, .int 102] : List Value).toArray s 0 0 nF) (F0 m 2 ((lg_sl ([.int i, .int 102] : List Value) ++ List.replicate (2 - (lg_sl ([.int i, .int 102] : List Value)).length) Slot.unset).toArray) [.int 102, .int i]) := by
    intro v hv0 hZ
    refine va_gets hx hb hZ hS hown (hG _ wj_fm) (fun _ h => h) dJ0_checkIndex_df160_2 ?_
    refine va_calli (va_runS (As := [.int i, .int 102, v]) (rest := []) ⟨hx, hb, hml, hown, hts⟩ (m_pre l h0 h1 hv0)
      (va_cwS 3 hts (by unfold va_wsS; exact good_app (good_list wsY_in ws_pre) (wsY_good wsY_in wc_pre)) rfl rfl rfl (by decide +kernel) ⟨by decide, by decide⟩)
      ⟨fun a U g mk q => q, fun U hU hW => ⟨rfl, trivial⟩⟩ rfl rfl hl.1 rfl (Nat.le_of_ble_eq_true rfl) dJ0_checkIndex_df160_5 ⟨Nat.le_refl _, Nat.le_refl _⟩) hS (fun _ _ h => h) (fun _ h => h) (fun x u t H1 locs1 ht hal hp hB hz hk hS1 => ?_)
    refine lv_pop hx hb dJ0_checkIndex_df160_8 rfl ?_
    exact W.vret hx hb hr (fun t ht hW => ⟨⟨(), rfl, trivial, trivial⟩, hS1.F ht⟩) hS1.2.2 dJ0_checkIndex_df160_9
  rcases hv.2.2 with hZ | ⟨t, hZ⟩
  · exact key .null (Or.inl rfl) hZ
  · exact key (.ref t) (Or.inr ⟨t, rfl⟩) hZ
theorem m_c1 (l : Launch) {aK aV : Nat} {byt : List Int32} {i : Int32} (h0 : ¬ i < 0) (h1 : i < 102) : Met l yJ1_charAt_3b067 (wsY kc_c1) (rmD 3 0 0) (va_Pc [.ref aV, .int i] (SKc aK aV byt)) (QJ (fun x => x = byt.getD i.toNatClampNeg 0 &&& 255)) 0 0 nF := by
  refine Met.ofW (cc := cJ1_charAt_3b067) (maxL := 2) (ret := some .char) (by decide) rfl ?_
  intro p e s m args below meth c s₁ B hml hv
  obtain ⟨rfl, hv⟩ := hv
  have hx := B.exec
  have hb := B.bytes
  have hr := B.returns
  have hts := atoms_spec (ws := wsY kc_c1) B.pre
  have hown : s.vm.findClass RJ1 = some m.cls := findClass_of_methodNamed B.named
  have hlocks := B.notSynchronized
  have hl := lv_entry ([.ref aV, .int i]) (n := 2) (Nat.le_of_ble_eq_true rfl)
  rw [lg_entry_eq]
  have hS : va_S nF s.heap s.heap [] := va_S.rf
  have l0 := lv_at hl 0 (i := 0) (v := .ref aV) rfl
  have l1 := lv_at hl 1 (i := 1) (v := .int i) rfl
  have hT : va_T .byte aV 102 (fun j => .int (byt.getD j 0)) nF s s.heap := (hv.1.1 0 (by decide)).2.2.2
  refine lv_iload_n hx hb dJ1_charAt_3b067_0 rfl l1 ?_
  refine lv_aload_n hx hb dJ1_charAt_3b067_1 rfl l0 ?_
  refine va_tlen hx hb hT hS (v := 102) (by decide) dJ1_charAt_3b067_2 ?_
  refine va_callv (va_runS (As := [.int i, .int 102]) (rest := []) ⟨hx, hb, hml, hown, hts⟩ (m_ci l (aK := aK) (aV := aV) (byt := byt) h0 h1)
    (va_cwS 2 hts (by unfold va_wsS; exact good_app (good_list wsY_in ws_ci) (wsY_good wsY_in wc_ci)) rfl rfl rfl (by decide +kernel) ⟨by decide, by decide⟩)
    ⟨SKc.blind, fun U hU hW => ⟨rfl, SKc.next hW (fun a _ => by rw [hU]) hv⟩⟩ rfl rfl hl.1 rfl (Nat.le_of_ble_eq_true rfl) dJ1_charAt_3b067_3 ⟨Nat.le_refl _, Nat.le_refl _⟩) hS (fun _ _ h => h) (fun _ h => h) (fun u t H1 locs1 ht hal hp hB hz hk hS1 => ?_)
  refine lv_aload_n hx hb dJ1_charAt_3b067_6 rfl l0 ?_
  refine lv_iload_n hx hb dJ1_charAt_3b067_7 rfl l1 ?_
  have hin : vp_in i 102 := by
    have e1 : ¬ i.toInt < 0 := fun z => h0 (Int32.lt_iff_toInt_lt.mpr z)
    have e2 : i.toInt < 102 := Int32.lt_iff_toInt_lt.mp h1
    exact vp_in_iff.mpr ⟨by omega, by omega⟩
  refine va_tb hx hb hT hS1 hin rfl dJ1_charAt_3b067_8 ?_
  refine lv_sipush hx hb dJ1_charAt_3b067_9 (v := 255) (by decide) ?_
  refine lv_iand hx hb dJ1_charAt_3b067_12 ?_
  refine lv_i2c hx hb dJ1_charAt_3b067_13 (sc_c2 _) ?_
  exact W.zret (ty := .char) hx hb hr (sc_nar _) (fun t ht hW => ⟨⟨_, (), rfl, rfl, trivial⟩, hS1.F ht⟩) hS1.2.2 dJ1_charAt_3b067_14
theorem m_charAt (l : Launch) {aK aV : Nat} {byt : List Int32} {i : Int32} (h0 : ¬ i < 0) (h1 : i < 102) : Met l yJ0_charAt_5068e (wsY kc_charAt) (rmD 4 0 0) (va_Pc [.ref aK, .int i] (SKc aK aV byt)) (QJ (fun x => x = byt.getD i.toNatClampNeg 0 &&& 255)) 0 0 nF := by
  refine Met.ofW (cc := cJ0_charAt_5068e) (maxL := 2) (ret := some .char) (by decide) rfl ?_
  intro p e s m args below meth c s₁ B hml hv
  obtain ⟨rfl, hv⟩ := hv
  have hx := B.exec
  have hb := B.bytes
  have hr := B.returns
  have hts := atoms_spec (ws := wsY kc_charAt) B.pre
  have hG := fun w h => hts w (wsY_in w h)
  have hown : s.vm.findClass RJ0 = some m.cls := findClass_of_methodNamed B.named
  have hlocks := B.notSynchronized
  have hl := lv_entry ([.ref aK, .int i]) (n := 2) (Nat.le_of_ble_eq_true rfl)
  rw [lg_entry_eq]
  have hS : va_S nF s.heap s.heap [] := va_S.rf
  have l0 := lv_at hl 0 (i := 0) (v := .ref aK) rfl
  have l1 := lv_at hl 1 (i := 1) (v := .int i) rfl
  refine lv_aload_n hx hb dJ0_charAt_5068e_0 rfl l0 ?_
  refine va_calli (va_runV (As := []) (b := aK) (rest := []) ⟨hx, hb, hml, hown, hts⟩ (m_isLatin1 l (aK := aK) (aV := aV) (byt := byt))
    (cwV 0 hts (by unfold wsV; exact good_app (good_list wsY_in wv_isLatin1) (wsY_good wsY_in wc_isLatin1)) rfl rfl rfl ⟨rfl, by decide +kernel⟩ ⟨by decide, by decide⟩)
    ⟨SKc.blind, vk_recv (i := 0) hv.1 (by decide) hS, fun U hU hW => ⟨rfl, SKc.next hW (fun a _ => by rw [hU]) hv⟩⟩ rfl rfl hl.1 rfl (Nat.le_of_ble_eq_true rfl) dJ0_charAt_5068e_1 ⟨Nat.le_refl _, Nat.le_refl _⟩) hS (fun _ _ h => h) (fun _ h => h) (fun x u t H1 locs1 ht hal hp hB hz hk hS1 => ?_)
  subst hp
  refine lv_if_eq hx hb dJ0_charAt_5068e_4 (tgt := 16) (by decide) (fun h => absurd h (by decide)) (fun _ => ?_)
  refine lv_aload_n hx hb dJ0_charAt_5068e_7 rfl l0 ?_
  refine vk_getf hx hb (hv.1.1 0 (by decide)).2.2.1 hS1 hown (hG _ wj_va) (fun _ h => h) dJ0_charAt_5068e_8 ?_
  refine lv_iload_n hx hb dJ0_charAt_5068e_11 rfl l1 ?_
  refine va_calli (va_runS (As := [.ref aV, .int i]) (rest := []) ⟨hx, hb, hml, hown, hts⟩ (m_c1 l (aK := aK) (aV := aV) (byt := byt) h0 h1)
    (va_cwS 2 hts (by unfold va_wsS; exact good_app (good_list wsY_in ws_c1) (wsY_good wsY_in wc_c1)) rfl rfl rfl (by decide +kernel) ⟨by decide, by decide⟩)
    ⟨SKc.blind, fun U hU hW => ⟨rfl, SKc.next hW (fun a ha => by rw [hU]; exact hk a ha (fun z => z)) hv⟩⟩ rfl rfl hl.1 rfl (Nat.le_of_ble_eq_true rfl) dJ0_charAt_5068e_12 ⟨Nat.le_refl _, Nat.le_refl _⟩) hS1 (fun _ _ h => h) (fun _ h => h) (fun x u t H2 locs2 ht2 hal2 hp2 hB2 hz2 hk2 hS2 => ?_)
  exact W.zret (ty := .char) hx hb hr (by rw [hp2]; exact sc_nar _) (fun t ht hW => ⟨⟨x, (), rfl, hp2, trivial⟩, hS2.F ht⟩) hS2.2.2 dJ0_charAt_5068e_15
