/-! printed by chk.py: the code tables held against the bytes and the words -/
theorem need_ok {own : String} {k : List En} (ps : List Nat) (h : k.flatMap (needE own) = ps.filterMap (fun i => lw_tbl[i]?)) (g : (k.flatMap (needE own)).all goodWord = true) : ∀ e ∈ k, ∀ w ∈ needE own e, w ∈ wsG := by
  intro e he w hw
  have h1 : w ∈ k.flatMap (needE own) := List.mem_flatMap.mpr ⟨e, he, hw⟩
  have h2 := List.all_eq_true.mp g w h1
  rw [h] at h1
  obtain ⟨i, -, hi⟩ := List.mem_filterMap.mp h1
  exact wsG_in (List.mem_of_getElem? hi) h2
theorem okm_of {q : Mt} (h1 : q.1.all (okE q.2.1.cls q.2.2.1 (qL q) (qIni q)) = true) (h2 : ∀ e ∈ q.1, ∀ w ∈ needE q.2.1.cls e, w ∈ wsG) (h3 : (plainName q.2.1.cls && (decide (qIni q = 1 → q.2.1.name = "<init>") && (decide (qRk q = 0 → q.2.2.2.1 = none) && (decide (qRk q = 1 → q.2.2.2.1 = some .int) && (decide (qRk q = 2 → q.2.2.2.1 = some .boolean) && decide (qRk q = 3 → q.2.2.2.1 = some .long)))))) = true) : OkM q := by
  simp only [Bool.and_eq_true, decide_eq_true_eq] at h3
  exact ⟨List.all_eq_true.mp h1, h2, h3.1, h3.2.1, h3.2.2.1, h3.2.2.2.1, h3.2.2.2.2.1, h3.2.2.2.2.2⟩
set_option maxRecDepth 100000 in
theorem ok_X0_init : OkM (mQ 0) := okm_of (by decide +kernel) (need_ok (own := RX0) [297, 148, 291, 299, 303, 298, 307, 310, 312, 261, 316, 291, 317, 291, 319, 291, 321] (by decide +kernel) (by decide +kernel)) (by decide +kernel)
set_option maxRecDepth 100000 in
theorem ok_X0_forget : OkM (mQ 1) := okm_of (by decide +kernel) (need_ok (own := RX0) [299, 722, 723, 138, 303, 298, 307, 310, 312] (by decide +kernel) (by decide +kernel)) (by decide +kernel)
set_option maxRecDepth 100000 in
theorem ok_X0_copyFrom : OkM (mQ 2) := okm_of (by decide +kernel) (need_ok (own := RX0) [299, 299, 299, 1286, 674, 673, 139, 303, 303, 307, 307, 310, 310, 312, 312, 316, 316, 1286, 674, 673, 139, 317, 317, 1286, 674, 673, 139, 319, 319, 1286, 674, 673, 139, 321, 321, 1286, 674, 673, 139] (by decide +kernel) (by decide +kernel)) (by decide +kernel)
set_option maxRecDepth 100000 in
theorem ok_X0_isMan : OkM (mQ 3) := okm_of (by decide +kernel) (need_ok (own := RX0) [312] (by decide +kernel) (by decide +kernel)) (by decide +kernel)
set_option maxRecDepth 100000 in
theorem ok_X0_addMan : OkM (mQ 4) := okm_of (by decide +kernel) (need_ok (own := RX0) [312, 316, 312, 317, 312, 319, 312, 321, 312, 312, 312, 312] (by decide +kernel) (by decide +kernel)) (by decide +kernel)
set_option maxRecDepth 100000 in
theorem ok_X0_manNamed : OkM (mQ 5) := okm_of (by decide +kernel) (need_ok (own := RX0) [312, 316] (by decide +kernel) (by decide +kernel)) (by decide +kernel)
set_option maxRecDepth 100000 in
theorem ok_X0_pieces : OkM (mQ 6) := okm_of (by decide +kernel) (need_ok (own := RX0) [299] (by decide +kernel) (by decide +kernel)) (by decide +kernel)
set_option maxRecDepth 100000 in
theorem ok_X0_stockSet : OkM (mQ 7) := okm_of (by decide +kernel) (need_ok (own := RX0) [299, 766, 121] (by decide +kernel) (by decide +kernel)) (by decide +kernel)
set_option maxRecDepth 100000 in
theorem ok_X0_stockCrumbs : OkM (mQ 8) := okm_of (by decide +kernel) (need_ok (own := RX0) [299, 887, 121] (by decide +kernel) (by decide +kernel)) (by decide +kernel)
set_option maxRecDepth 100000 in
theorem ok_X0_holding : OkM (mQ 9) := okm_of (by decide +kernel) (need_ok (own := RX0) [321, 763, 121, 887, 121] (by decide +kernel) (by decide +kernel)) (by decide +kernel)
set_option maxRecDepth 100000 in
theorem ok_X0_allHoldings : OkM (mQ 10) := okm_of (by decide +kernel) (need_ok (own := RX0) [312, 890, 891, 892, 129] (by decide +kernel) (by decide +kernel)) (by decide +kernel)
set_option maxRecDepth 100000 in
theorem ok_X0_lacking : OkM (mQ 11) := okm_of (by decide +kernel) (need_ok (own := RX0) [317, 319, 887, 121, 890, 891, 892, 129] (by decide +kernel) (by decide +kernel)) (by decide +kernel)
set_option maxRecDepth 100000 in
theorem ok_X0_evenMen : OkM (mQ 12) := okm_of (by decide +kernel) (need_ok (own := RX0) [312, 882, 883, 884, 129] (by decide +kernel) (by decide +kernel)) (by decide +kernel)
set_option maxRecDepth 100000 in
theorem ok_X0_giftsFor : OkM (mQ 13) := okm_of (by decide +kernel) (need_ok (own := RX0) [1158, 868, 869, 129, 321] (by decide +kernel) (by decide +kernel)) (by decide +kernel)
set_option maxRecDepth 100000 in
theorem ok_X0_addLoaves : OkM (mQ 14) := okm_of (by decide +kernel) (need_ok (own := RX0) [299, 299] (by decide +kernel) (by decide +kernel)) (by decide +kernel)
set_option maxRecDepth 100000 in
theorem ok_X0_cutUp : OkM (mQ 15) := okm_of (by decide +kernel) (need_ok (own := RX0) [760, 121, 760, 121, 760, 121, 958, 960, 17, 129, 958, 960, 17, 129, 299, 299, 299, 299, 310, 310] (by decide +kernel) (by decide +kernel)) (by decide +kernel)
set_option maxRecDepth 100000 in
theorem ok_X0_stockAfterCut : OkM (mQ 16) := okm_of (by decide +kernel) (need_ok (own := RX0) [299] (by decide +kernel) (by decide +kernel)) (by decide +kernel)
set_option maxRecDepth 100000 in
theorem ok_X0_splitUp : OkM (mQ 17) := okm_of (by decide +kernel) (need_ok (own := RX0) [760, 121, 760, 121, 299, 299, 760, 121, 299, 299, 310, 310] (by decide +kernel) (by decide +kernel)) (by decide +kernel)
set_option maxRecDepth 100000 in
theorem ok_X0_handOver : OkM (mQ 18) := okm_of (by decide +kernel) (need_ok (own := RX0) [978, 788, 789, 129, 760, 121, 299, 321, 763, 121, 299, 321, 766, 121] (by decide +kernel) (by decide +kernel)) (by decide +kernel)
set_option maxRecDepth 100000 in
theorem ok_X0_handBack : OkM (mQ 19) := okm_of (by decide +kernel) (need_ok (own := RX0) [978, 788, 789, 129, 760, 121, 299, 321, 763, 121, 299, 321, 766, 121] (by decide +kernel) (by decide +kernel)) (by decide +kernel)
set_option maxRecDepth 100000 in
theorem ok_X1_init : OkM (mQ 20) := okm_of (by decide +kernel) (need_ok (own := RX1) [267, 148, 268, 269, 270] (by decide +kernel) (by decide +kernel)) (by decide +kernel)
set_option maxRecDepth 100000 in
theorem ok_X1_readInto : OkM (mQ 21) := okm_of (by decide +kernel) (need_ok (own := RX1) [718, 719, 720, 129, 268, 269, 270, 220, 223, 725, 727, 8, 127, 755, 757, 10, 127, 768, 769, 127, 794, 796, 11, 127, 798, 746, 747, 122] (by decide +kernel) (by decide +kernel)) (by decide +kernel)
set_option maxRecDepth 100000 in
theorem ok_X1_readOdds : OkM (mQ 22) := okm_of (by decide +kernel) (need_ok (own := RX1) [729, 730, 731, 122, 268, 733, 734, 735, 122, 268, 741, 742, 743, 122, 304, 304, 750, 751, 752, 122] (by decide +kernel) (by decide +kernel)) (by decide +kernel)
set_option maxRecDepth 100000 in
theorem ok_X1_readStore : OkM (mQ 23) := okm_of (by decide +kernel) (need_ok (own := RX1) [729, 730, 731, 122, 741, 742, 743, 122, 760, 121, 270, 763, 121, 733, 734, 735, 122, 270, 766, 121, 270, 223, 729, 730, 731, 122, 741, 742, 743, 122, 300, 750, 751, 752, 122] (by decide +kernel) (by decide +kernel)) (by decide +kernel)
set_option maxRecDepth 100000 in
theorem ok_X1_readMan : OkM (mQ 24) := okm_of (by decide +kernel) (need_ok (own := RX1) [729, 730, 731, 122, 313, 733, 734, 735, 122, 771, 772, 773, 122, 775, 776, 777, 129, 733, 734, 735, 122, 779, 780, 781, 122, 741, 742, 743, 122, 779, 780, 781, 122, 741, 742, 743, 122, 783, 784, 785, 129, 223, 787, 788, 789, 129, 729, 730, 731, 122, 322, 791, 792, 127, 227, 750, 751, 752, 122] (by decide +kernel) (by decide +kernel)) (by decide +kernel)
set_option maxRecDepth 100000 in
theorem ok_X1_readKnown : OkM (mQ 25) := okm_of (by decide +kernel) (need_ok (own := RX1) [729, 730, 731, 122, 269, 733, 734, 735, 122, 269, 791, 792, 127, 308, 227, 750, 751, 752, 122] (by decide +kernel) (by decide +kernel)) (by decide +kernel)
set_option maxRecDepth 100000 in
theorem ok_X1_takeSlices : OkM (mQ 26) := okm_of (by decide +kernel) (need_ok (own := RX1) [227, 220, 741, 742, 743, 122, 760, 121, 763, 121, 733, 734, 735, 122, 760, 121, 766, 121] (by decide +kernel) (by decide +kernel)) (by decide +kernel)
set_option maxRecDepth 100000 in
theorem ok_X2_init : OkM (mQ 27) := okm_of (by decide +kernel) (need_ok (own := RX2) [348, 148, 349, 352, 355, 291, 358, 291, 360, 291, 362, 291, 364, 291, 366] (by decide +kernel) (by decide +kernel)) (by decide +kernel)
set_option maxRecDepth 100000 in
theorem ok_X2_forget : OkM (mQ 28) := okm_of (by decide +kernel) (need_ok (own := RX2) [349, 352, 355] (by decide +kernel) (by decide +kernel)) (by decide +kernel)
set_option maxRecDepth 100000 in
theorem ok_X2_copyFrom : OkM (mQ 29) := okm_of (by decide +kernel) (need_ok (own := RX2) [349, 349, 352, 352, 355, 355, 358, 358, 1299, 674, 673, 139, 360, 360, 1299, 674, 673, 139, 362, 362, 1299, 674, 673, 139, 364, 364, 1299, 674, 673, 139, 366, 366, 1299, 674, 673, 139] (by decide +kernel) (by decide +kernel)) (by decide +kernel)
set_option maxRecDepth 100000 in
theorem ok_X2_add : OkM (mQ 30) := okm_of (by decide +kernel) (need_ok (own := RX2) [355, 358, 355, 360, 355, 362, 355, 364, 355, 366, 355, 355, 355, 355] (by decide +kernel) (by decide +kernel)) (by decide +kernel)
set_option maxRecDepth 100000 in
theorem ok_X2_pair : OkM (mQ 31) := okm_of (by decide +kernel) (need_ok (own := RX2) [355, 355, 366, 366] (by decide +kernel) (by decide +kernel)) (by decide +kernel)
set_option maxRecDepth 100000 in
theorem ok_X3_init : OkM (mQ 32) := okm_of (by decide +kernel) (need_ok (own := RX3) [283, 148, 291, 284, 285] (by decide +kernel) (by decide +kernel)) (by decide +kernel)
set_option maxRecDepth 100000 in
theorem ok_X3_readInto : OkM (mQ 33) := okm_of (by decide +kernel) (need_ok (own := RX3) [815, 800, 801, 130, 285, 219, 222, 816, 818, 13, 128, 831, 833, 14, 128, 285, 820, 746, 747, 122, 350] (by decide +kernel) (by decide +kernel)) (by decide +kernel)
set_option maxRecDepth 100000 in
theorem ok_X3_readEnd : OkM (mQ 34) := okm_of (by decide +kernel) (need_ok (own := RX3) [285, 820, 746, 747, 122, 821, 730, 731, 122, 285, 285, 822, 823, 824, 130, 284, 285, 357, 826, 827, 828, 130, 830, 751, 752, 122] (by decide +kernel) (by decide +kernel)) (by decide +kernel)
set_option maxRecDepth 100000 in
theorem ok_X3_readStep : OkM (mQ 35) := okm_of (by decide +kernel) (need_ok (own := RX3) [222, 820, 746, 747, 122, 821, 730, 731, 122, 353, 835, 734, 735, 122, 285, 835, 734, 735, 122, 353, 353, 284, 285, 357, 285, 285, 836, 837, 128, 849, 850, 128, 830, 751, 752, 122] (by decide +kernel) (by decide +kernel)) (by decide +kernel)
set_option maxRecDepth 100000 in
theorem ok_X3_readAct : OkM (mQ 36) := okm_of (by decide +kernel) (need_ok (own := RX3) [852, 853, 128, 839, 742, 743, 122, 839, 742, 743, 122, 822, 823, 824, 130, 840, 841, 128, 839, 742, 743, 122, 822, 823, 824, 130, 839, 742, 743, 122, 822, 823, 824, 130, 839, 742, 743, 122, 822, 823, 824, 130, 822, 823, 824, 130] (by decide +kernel) (by decide +kernel)) (by decide +kernel)
set_option maxRecDepth 100000 in
theorem ok_X3_readCut : OkM (mQ 37) := okm_of (by decide +kernel) (need_ok (own := RX3) [839, 742, 743, 122, 839, 742, 743, 122, 839, 742, 743, 122, 822, 823, 824, 130] (by decide +kernel) (by decide +kernel)) (by decide +kernel)
set_option maxRecDepth 100000 in
theorem ok_X3_readTest : OkM (mQ 38) := okm_of (by decide +kernel) (need_ok (own := RX3) [222, 820, 746, 747, 122, 821, 730, 731, 122, 839, 742, 743, 122, 840, 841, 128, 822, 823, 824, 130, 845, 846, 847, 122, 839, 742, 743, 122, 822, 823, 824, 130] (by decide +kernel) (by decide +kernel)) (by decide +kernel)
set_option maxRecDepth 100000 in
theorem ok_X3_takeMan : OkM (mQ 39) := okm_of (by decide +kernel) (need_ok (own := RX3) [843, 772, 773, 122, 844, 776, 777, 129, 835, 734, 735, 122] (by decide +kernel) (by decide +kernel)) (by decide +kernel)
set_option maxRecDepth 100000 in
theorem ok_X4_init : OkM (mQ 40) := okm_of (by decide +kernel) (need_ok (own := RX4) [485, 148, 486, 488, 490, 492, 494, 496, 498, 500, 291, 501] (by decide +kernel) (by decide +kernel)) (by decide +kernel)
set_option maxRecDepth 100000 in
theorem ok_X4_run : OkM (mQ 41) := okm_of (by decide +kernel) (need_ok (own := RX4) [486, 488, 490, 492, 494, 496, 498, 500, 1221, 498, 356, 359, 1222, 1224, 29, 135, 488, 498, 488, 488, 1226, 1228, 30, 135] (by decide +kernel) (by decide +kernel)) (by decide +kernel)
set_option maxRecDepth 100000 in
theorem ok_X4_behindEnd : OkM (mQ 42) := okm_of (by decide +kernel) (need_ok (own := RX4) [367, 359, 501, 501] (by decide +kernel) (by decide +kernel)) (by decide +kernel)
set_option maxRecDepth 100000 in
theorem ok_X4_behindStep : OkM (mQ 43) := okm_of (by decide +kernel) (need_ok (own := RX4) [359, 356, 501, 361, 1230, 1231, 135, 367, 490, 1240, 1242, 31, 135, 490, 490, 1259, 1261, 35, 135, 490] (by decide +kernel) (by decide +kernel)) (by decide +kernel)
set_option maxRecDepth 100000 in
theorem ok_X4_holdsTrue : OkM (mQ 44) := okm_of (by decide +kernel) (need_ok (own := RX4) [361, 365, 359, 1233, 788, 789, 129, 1234, 883, 884, 129, 760, 121, 301, 363, 1236, 1237, 135, 1233, 788, 789, 129, 1234, 883, 884, 129, 363, 1239, 1236, 1237, 135] (by decide +kernel) (by decide +kernel)) (by decide +kernel)
set_option maxRecDepth 100000 in
theorem ok_X4_compares : OkM (mQ 45) := okm_of (by decide +kernel) (need_ok (own := RX4) [] (by decide +kernel) (by decide +kernel)) (by decide +kernel)
set_option maxRecDepth 100000 in
theorem ok_X4_act : OkM (mQ 46) := okm_of (by decide +kernel) (need_ok (own := RX4) [361, 363, 359, 365, 1263, 1265, 36, 135, 1249, 1251, 33, 135, 1254, 1256, 34, 135, 1268, 984, 985, 129, 1269, 1271, 37, 135] (by decide +kernel) (by decide +kernel)) (by decide +kernel)
set_option maxRecDepth 100000 in
theorem ok_X4_doAny : OkM (mQ 47) := okm_of (by decide +kernel) (need_ok (own := RX4) [314, 314, 1244, 1246, 32, 135, 1244, 1246, 32, 135, 1244, 1246, 32, 135, 305, 1249, 1251, 33, 135, 1254, 1256, 34, 135] (by decide +kernel) (by decide +kernel)) (by decide +kernel)
set_option maxRecDepth 100000 in
theorem ok_X4_cutUp : OkM (mQ 48) := okm_of (by decide +kernel) (need_ok (own := RX4) [1267, 954, 955, 129, 492, 492] (by decide +kernel) (by decide +kernel)) (by decide +kernel)
set_option maxRecDepth 100000 in
theorem ok_X4_splitUp : OkM (mQ 49) := okm_of (by decide +kernel) (need_ok (own := RX4) [1253, 967, 968, 129, 492, 492] (by decide +kernel) (by decide +kernel)) (by decide +kernel)
set_option maxRecDepth 100000 in
theorem ok_X4_handOver : OkM (mQ 50) := okm_of (by decide +kernel) (need_ok (own := RX4) [1258, 975, 976, 129, 494, 494] (by decide +kernel) (by decide +kernel)) (by decide +kernel)
set_option maxRecDepth 100000 in
theorem ok_X4_addLoaves : OkM (mQ 51) := okm_of (by decide +kernel) (need_ok (own := RX4) [1273, 946, 947, 129, 496, 496] (by decide +kernel) (by decide +kernel)) (by decide +kernel)
set_option maxRecDepth 100000 in
theorem ok_X4_draw : OkM (mQ 52) := okm_of (by decide +kernel) (need_ok (own := RX4) [500, 1248, 500, 500] (by decide +kernel) (by decide +kernel)) (by decide +kernel)
set_option maxRecDepth 100000 in
theorem ok_X5_init : OkM (mQ 53) := okm_of (by decide +kernel) (need_ok (own := RX5) [446, 148, 291, 447, 291, 448, 450] (by decide +kernel) (by decide +kernel)) (by decide +kernel)
set_option maxRecDepth 100000 in
theorem ok_X5_find : OkM (mQ 54) := okm_of (by decide +kernel) (need_ok (own := RX5) [1133, 1135, 25, 133, 763, 121, 447, 447, 1142, 1144, 26, 133] (by decide +kernel) (by decide +kernel)) (by decide +kernel)
set_option maxRecDepth 100000 in
theorem ok_X5_countSteps : OkM (mQ 55) := okm_of (by decide +kernel) (need_ok (own := RX5) [447, 447, 1137, 1138, 133, 447, 447, 447, 1140, 697, 140] (by decide +kernel) (by decide +kernel)) (by decide +kernel)
set_option maxRecDepth 100000 in
theorem ok_X5_follow : OkM (mQ 56) := okm_of (by decide +kernel) (need_ok (own := RX5) [448, 450, 447, 447, 1137, 1138, 133, 448, 450, 450, 450] (by decide +kernel) (by decide +kernel)) (by decide +kernel)
set_option maxRecDepth 100000 in
theorem ok_X5_comesOf : OkM (mQ 57) := okm_of (by decide +kernel) (need_ok (own := RX5) [] (by decide +kernel) (by decide +kernel)) (by decide +kernel)
set_option maxRecDepth 100000 in
theorem ok_X6_init : OkM (mQ 58) := okm_of (by decide +kernel) (need_ok (own := RX6) [] (by decide +kernel) (by decide +kernel)) (by decide +kernel)
set_option maxRecDepth 100000 in
theorem ok_X6_hasRoom : OkM (mQ 59) := okm_of (by decide +kernel) (need_ok (own := RX6) [209] (by decide +kernel) (by decide +kernel)) (by decide +kernel)
set_option maxRecDepth 100000 in
theorem ok_X6_append : OkM (mQ 60) := okm_of (by decide +kernel) (need_ok (own := RX6) [687, 680, 681, 122, 208, 209, 209, 209] (by decide +kernel) (by decide +kernel)) (by decide +kernel)
set_option maxRecDepth 100000 in
theorem ok_X6_open : OkM (mQ 61) := okm_of (by decide +kernel) (need_ok (own := RX6) [209, 696, 697, 140, 699, 700, 140, 214, 209, 212, 215, 226, 229, 702, 704, 5, 122] (by decide +kernel) (by decide +kernel)) (by decide +kernel)
set_option maxRecDepth 100000 in
theorem ok_X6_advance : OkM (mQ 62) := okm_of (by decide +kernel) (need_ok (own := RX6) [216, 217, 215, 214, 208, 208, 215, 215, 216, 221, 215, 214, 218, 208, 215, 706, 708, 6, 122, 710, 712, 7, 122, 218, 225, 215, 215] (by decide +kernel) (by decide +kernel)) (by decide +kernel)
set_option maxRecDepth 100000 in
theorem ok_X6_readWord : OkM (mQ 63) := okm_of (by decide +kernel) (need_ok (own := RX6) [218, 224, 216, 214, 208, 208, 215, 215, 216, 224, 207, 208, 224, 221, 211, 224, 221] (by decide +kernel) (by decide +kernel)) (by decide +kernel)
set_option maxRecDepth 100000 in
theorem ok_X6_readNumber : OkM (mQ 64) := okm_of (by decide +kernel) (need_ok (own := RX6) [225, 216, 214, 208, 208, 215, 215, 216, 225, 208, 225, 215, 216, 218] (by decide +kernel) (by decide +kernel)) (by decide +kernel)
set_option maxRecDepth 100000 in
theorem ok_X6_wrong : OkM (mQ 65) := okm_of (by decide +kernel) (need_ok (own := RX6) [226, 229] (by decide +kernel) (by decide +kernel)) (by decide +kernel)
set_option maxRecDepth 100000 in
theorem ok_X6_misplaced : OkM (mQ 66) := okm_of (by decide +kernel) (need_ok (own := RX6) [218, 216, 737, 739, 9, 122] (by decide +kernel) (by decide +kernel)) (by decide +kernel)
set_option maxRecDepth 100000 in
theorem ok_X6_wrongTaken : OkM (mQ 67) := okm_of (by decide +kernel) (need_ok (own := RX6) [217, 737, 739, 9, 122] (by decide +kernel) (by decide +kernel)) (by decide +kernel)
set_option maxRecDepth 100000 in
theorem ok_X6_takeAny : OkM (mQ 68) := okm_of (by decide +kernel) (need_ok (own := RX6) [702, 704, 5, 122] (by decide +kernel) (by decide +kernel)) (by decide +kernel)
set_option maxRecDepth 100000 in
theorem ok_X6_takeWord : OkM (mQ 69) := okm_of (by decide +kernel) (need_ok (own := RX6) [221, 754, 730, 731, 122, 745, 746, 747, 122] (by decide +kernel) (by decide +kernel)) (by decide +kernel)
set_option maxRecDepth 100000 in
theorem ok_X6_takeSemicolon : OkM (mQ 70) := okm_of (by decide +kernel) (need_ok (own := RX6) [218, 225, 754, 730, 731, 122, 745, 746, 747, 122] (by decide +kernel) (by decide +kernel)) (by decide +kernel)
set_option maxRecDepth 100000 in
theorem ok_X6_takeCompares : OkM (mQ 71) := okm_of (by decide +kernel) (need_ok (own := RX6) [218, 225, 745, 746, 747, 122, 225, 702, 704, 5, 122] (by decide +kernel) (by decide +kernel)) (by decide +kernel)
set_option maxRecDepth 100000 in
theorem ok_X6_takeNumber : OkM (mQ 72) := okm_of (by decide +kernel) (need_ok (own := RX6) [218, 745, 746, 747, 122, 225, 702, 704, 5, 122, 749, 734, 735, 122] (by decide +kernel) (by decide +kernel)) (by decide +kernel)
set_option maxRecDepth 100000 in
theorem ok_X6_takeName : OkM (mQ 73) := okm_of (by decide +kernel) (need_ok (own := RX6) [221, 224, 745, 746, 747, 122, 224, 702, 704, 5, 122] (by decide +kernel) (by decide +kernel)) (by decide +kernel)
set_option maxRecDepth 100000 in
theorem ok_X7_init : OkM (mQ 74) := okm_of (by decide +kernel) (need_ok (own := RX7) [392, 148, 393, 394, 395, 291, 396, 291, 397, 399, 401, 291, 403] (by decide +kernel) (by decide +kernel)) (by decide +kernel)
set_option maxRecDepth 100000 in
theorem ok_X7_begin : OkM (mQ 75) := okm_of (by decide +kernel) (need_ok (own := RX7) [393, 394, 399, 401, 403, 1022, 723, 138] (by decide +kernel) (by decide +kernel)) (by decide +kernel)
set_option maxRecDepth 100000 in
theorem ok_X7_findFewest : OkM (mQ 76) := okm_of (by decide +kernel) (need_ok (own := RX7) [1018, 1020, 18, 131, 1023, 1025, 19, 131] (by decide +kernel) (by decide +kernel)) (by decide +kernel)
set_option maxRecDepth 100000 in
theorem ok_X7_findKindest : OkM (mQ 77) := okm_of (by decide +kernel) (need_ok (own := RX7) [1018, 1020, 18, 131, 1023, 1025, 19, 131, 399] (by decide +kernel) (by decide +kernel)) (by decide +kernel)
set_option maxRecDepth 100000 in
theorem ok_X7_countAll : OkM (mQ 78) := okm_of (by decide +kernel) (need_ok (own := RX7) [1018, 1020, 18, 131, 1023, 1025, 19, 131] (by decide +kernel) (by decide +kernel)) (by decide +kernel)
set_option maxRecDepth 100000 in
theorem ok_X7_seekRowsOf : OkM (mQ 79) := okm_of (by decide +kernel) (need_ok (own := RX7) [395, 1027, 1028, 131] (by decide +kernel) (by decide +kernel)) (by decide +kernel)
