set_option maxRecDepth 100000 in
theorem ok_X7_hasBest : OkM (mQ 80) := okm_of (by decide +kernel) (need_ok (own := RX7) [399] (by decide +kernel) (by decide +kernel)) (by decide +kernel)
set_option maxRecDepth 100000 in
theorem ok_X7_bestQuestion : OkM (mQ 81) := okm_of (by decide +kernel) (need_ok (own := RX7) [401, 403, 401, 403, 1083, 700, 140, 763, 121] (by decide +kernel) (by decide +kernel)) (by decide +kernel)
set_option maxRecDepth 100000 in
theorem ok_X7_seek : OkM (mQ 82) := okm_of (by decide +kernel) (need_ok (own := RX7) [395, 1030, 1032, 20, 131, 887, 121, 394, 763, 121, 396, 1027, 1028, 131] (by decide +kernel) (by decide +kernel)) (by decide +kernel)
set_option maxRecDepth 100000 in
theorem ok_X7_putLast : OkM (mQ 83) := okm_of (by decide +kernel) (need_ok (own := RX7) [1034, 1034, 1035, 394, 763, 121, 396, 1037, 1039, 21, 131] (by decide +kernel) (by decide +kernel)) (by decide +kernel)
set_option maxRecDepth 100000 in
theorem ok_X7_meet : OkM (mQ 84) := okm_of (by decide +kernel) (need_ok (own := RX7) [393, 401, 401, 395, 403, 396, 396, 397, 395, 1041, 674, 673, 139, 395, 399, 393, 394, 766, 121, 394, 394, 393] (by decide +kernel) (by decide +kernel)) (by decide +kernel)
set_option maxRecDepth 100000 in
theorem ok_X8_init : OkM (mQ 85) := okm_of (by decide +kernel) (need_ok (own := RX8) [427, 148, 291, 428, 291, 430, 432] (by decide +kernel) (by decide +kernel)) (by decide +kernel)
set_option maxRecDepth 100000 in
theorem ok_X8_findAll : OkM (mQ 86) := okm_of (by decide +kernel) (need_ok (own := RX8) [432, 1113, 1114, 132, 531, 428, 432, 430, 432, 432, 432] (by decide +kernel) (by decide +kernel)) (by decide +kernel)
set_option maxRecDepth 100000 in
theorem ok_X8_fixAt : OkM (mQ 87) := okm_of (by decide +kernel) (need_ok (own := RX8) [531, 763, 121, 766, 121, 887, 121, 1119, 1119, 1120, 1119, 763, 121] (by decide +kernel) (by decide +kernel)) (by decide +kernel)
set_option maxRecDepth 100000 in
theorem ok_X9_init : OkM (mQ 88) := okm_of (by decide +kernel) (need_ok (own := RX9) [464, 148, 291, 465, 467, 261, 469, 260, 470] (by decide +kernel) (by decide +kernel)) (by decide +kernel)
set_option maxRecDepth 100000 in
theorem ok_X9_lay : OkM (mQ 89) := okm_of (by decide +kernel) (need_ok (own := RX9) [467, 467, 763, 121, 1176, 1178, 27, 134] (by decide +kernel) (by decide +kernel)) (by decide +kernel)
set_option maxRecDepth 100000 in
theorem ok_X9_addSlice : OkM (mQ 90) := okm_of (by decide +kernel) (need_ok (own := RX9) [467, 469, 469, 887, 121, 465, 467, 467, 467] (by decide +kernel) (by decide +kernel)) (by decide +kernel)
set_option maxRecDepth 100000 in
theorem ok_X9_firstWinning : OkM (mQ 91) := okm_of (by decide +kernel) (need_ok (own := RX9) [467, 469, 1185, 470, 1186, 1188, 28, 134, 1186, 1188, 28, 134] (by decide +kernel) (by decide +kernel)) (by decide +kernel)
set_option maxRecDepth 100000 in
theorem ok_X9_winningPlace : OkM (mQ 92) := okm_of (by decide +kernel) (need_ok (own := RX9) [467, 469, 1185, 470] (by decide +kernel) (by decide +kernel)) (by decide +kernel)
set_option maxRecDepth 100000 in
theorem ok_X9_countWithin : OkM (mQ 93) := okm_of (by decide +kernel) (need_ok (own := RX9) [467, 1202, 873, 141, 469] (by decide +kernel) (by decide +kernel)) (by decide +kernel)
set_option maxRecDepth 100000 in
theorem ok_X10_init : OkM (mQ 94) := okm_of (by decide +kernel) (need_ok (own := RX10) [525, 148, 526, 528, 261, 530] (by decide +kernel) (by decide +kernel)) (by decide +kernel)
set_option maxRecDepth 100000 in
theorem ok_X10_isMissing : OkM (mQ 95) := okm_of (by decide +kernel) (need_ok (own := RX10) [528] (by decide +kernel) (by decide +kernel)) (by decide +kernel)
set_option maxRecDepth 100000 in
theorem ok_X10_lay : OkM (mQ 96) := okm_of (by decide +kernel) (need_ok (own := RX10) [526, 528, 530, 628, 629, 138] (by decide +kernel) (by decide +kernel)) (by decide +kernel)
set_option maxRecDepth 100000 in
theorem ok_X10_hasPlaces : OkM (mQ 97) := okm_of (by decide +kernel) (need_ok (own := RX10) [528] (by decide +kernel) (by decide +kernel)) (by decide +kernel)
set_option maxRecDepth 100000 in
theorem ok_X10_put : OkM (mQ 98) := okm_of (by decide +kernel) (need_ok (own := RX10) [659, 652, 653, 136, 530, 526, 526, 526] (by decide +kernel) (by decide +kernel)) (by decide +kernel)
set_option maxRecDepth 100000 in
theorem ok_X11_init : OkM (mQ 99) := okm_of (by decide +kernel) (need_ok (own := RX11) [147, 148, 540, 541, 542, 150, 543, 152, 153, 122, 154, 155, 122, 544, 262, 263, 127, 265, 127, 545, 278, 279, 128, 281, 128, 546, 292, 293, 129, 295, 129, 547, 292, 293, 129, 295, 129, 548, 343, 344, 130, 346, 130, 549, 343, 344, 130, 346, 130, 550, 292, 551, 343, 552, 553, 387, 388, 131, 390, 131, 554, 422, 423, 132, 425, 132, 555, 441, 442, 133, 444, 133, 556, 459, 460, 134, 462, 134, 557, 480, 481, 135, 483, 135, 558, 480, 481, 135, 483, 135, 559, 543, 150, 521, 136, 523, 136, 551, 292, 293, 129, 295, 129, 552, 343, 344, 130, 346, 130] (by decide +kernel) (by decide +kernel)) (by decide +kernel)
set_option maxRecDepth 100000 in
theorem ok_X11_status : OkM (mQ 100) := okm_of (by decide +kernel) (need_ok (own := RX11) [540] (by decide +kernel) (by decide +kernel)) (by decide +kernel)
set_option maxRecDepth 100000 in
theorem ok_X11_top : OkM (mQ 101) := okm_of (by decide +kernel) (need_ok (own := RX11) [541] (by decide +kernel) (by decide +kernel)) (by decide +kernel)
set_option maxRecDepth 100000 in
theorem ok_X11_bottom : OkM (mQ 102) := okm_of (by decide +kernel) (need_ok (own := RX11) [542] (by decide +kernel) (by decide +kernel)) (by decide +kernel)
set_option maxRecDepth 100000 in
theorem ok_X11_tray : OkM (mQ 103) := okm_of (by decide +kernel) (need_ok (own := RX11) [617, 618, 121, 620, 622, 0, 121, 620, 622, 0, 121, 620, 622, 0, 121, 543, 624, 625, 626, 136, 631, 633, 1, 121] (by decide +kernel) (by decide +kernel)) (by decide +kernel)
set_option maxRecDepth 100000 in
theorem ok_X11_write : OkM (mQ 104) := okm_of (by decide +kernel) (need_ok (own := RX11) [639, 641, 2, 121, 620, 622, 0, 121, 543, 655, 656, 657, 136, 631, 633, 1, 121] (by decide +kernel) (by decide +kernel)) (by decide +kernel)
set_option maxRecDepth 100000 in
theorem ok_X11_read : OkM (mQ 105) := okm_of (by decide +kernel) (need_ok (own := RX11) [639, 641, 2, 121, 664, 666, 4, 121, 540, 543, 532] (by decide +kernel) (by decide +kernel)) (by decide +kernel)
set_option maxRecDepth 100000 in
theorem ok_X11_pour : OkM (mQ 106) := okm_of (by decide +kernel) (need_ok (own := RX11) [617, 618, 121, 617, 618, 121, 620, 622, 0, 121, 543, 543, 647, 648, 649, 136, 647, 648, 649, 136, 620, 622, 0, 121, 527, 527, 620, 622, 0, 121, 620, 622, 0, 121, 651, 652, 653, 136, 651, 652, 653, 136, 620, 622, 0, 121, 532, 532, 672, 674, 673, 139, 631, 633, 1, 121] (by decide +kernel) (by decide +kernel)) (by decide +kernel)
set_option maxRecDepth 100000 in
theorem ok_X11_feed : OkM (mQ 107) := okm_of (by decide +kernel) (need_ok (own := RX11) [544, 679, 680, 681, 122, 544, 683, 684, 685, 122, 544, 683, 684, 685, 122, 544, 683, 684, 685, 122, 544, 683, 684, 685, 122, 544, 683, 684, 685, 122, 544, 210] (by decide +kernel) (by decide +kernel)) (by decide +kernel)
set_option maxRecDepth 100000 in
theorem ok_X11_bakery : OkM (mQ 108) := okm_of (by decide +kernel) (need_ok (own := RX11) [544, 210, 664, 666, 4, 121, 544, 692, 693, 694, 122, 545, 548, 544, 714, 715, 716, 127, 664, 666, 4, 121, 547, 548, 547, 548, 549, 799, 800, 801, 130, 547, 315, 803, 805, 12, 121] (by decide +kernel) (by decide +kernel)) (by decide +kernel)
set_option maxRecDepth 100000 in
theorem ok_X11_days : OkM (mQ 109) := okm_of (by decide +kernel) (need_ok (own := RX11) [544, 210, 664, 666, 4, 121, 544, 692, 693, 694, 122, 546, 550, 547, 544, 811, 812, 813, 128, 664, 666, 4, 121, 549, 550, 549, 550, 549, 354, 803, 805, 12, 121] (by decide +kernel) (by decide +kernel)) (by decide +kernel)
set_option maxRecDepth 100000 in
theorem ok_X11_fault : OkM (mQ 110) := okm_of (by decide +kernel) (need_ok (own := RX11) [544, 213, 544, 228, 544, 230] (by decide +kernel) (by decide +kernel)) (by decide +kernel)
set_option maxRecDepth 100000 in
theorem ok_X11_many : OkM (mQ 111) := okm_of (by decide +kernel) (need_ok (own := RX11) [547, 315, 803, 805, 12, 121, 547, 863, 864, 865, 129, 803, 805, 12, 121, 547, 867, 868, 869, 129, 872, 873, 141, 803, 805, 12, 121, 547, 306, 803, 805, 12, 121, 547, 309, 803, 805, 12, 121, 547, 311, 803, 805, 12, 121, 547, 878, 879, 880, 129, 803, 805, 12, 121, 664, 666, 4, 121] (by decide +kernel) (by decide +kernel)) (by decide +kernel)
set_option maxRecDepth 100000 in
theorem ok_X11_store : OkM (mQ 112) := okm_of (by decide +kernel) (need_ok (own := RX11) [899, 760, 121, 664, 666, 4, 121, 547, 302, 803, 805, 12, 121] (by decide +kernel) (by decide +kernel)) (by decide +kernel)
set_option maxRecDepth 100000 in
theorem ok_X11_man : OkM (mQ 113) := okm_of (by decide +kernel) (need_ok (own := RX11) [547, 904, 788, 789, 129, 664, 666, 4, 121, 547, 318, 803, 805, 12, 121, 547, 320, 803, 805, 12, 121, 547, 323, 803, 805, 12, 121, 664, 666, 4, 121] (by decide +kernel) (by decide +kernel)) (by decide +kernel)
set_option maxRecDepth 100000 in
theorem ok_X11_has : OkM (mQ 114) := okm_of (by decide +kernel) (need_ok (own := RX11) [547, 904, 788, 789, 129, 620, 622, 0, 121, 547, 909, 891, 892, 129, 889, 910, 912, 15, 121] (by decide +kernel) (by decide +kernel)) (by decide +kernel)
set_option maxRecDepth 100000 in
theorem ok_X11_lacks : OkM (mQ 115) := okm_of (by decide +kernel) (need_ok (own := RX11) [547, 904, 788, 789, 129, 620, 622, 0, 121, 547, 924, 883, 884, 129, 889, 910, 912, 15, 121] (by decide +kernel) (by decide +kernel)) (by decide +kernel)
set_option maxRecDepth 100000 in
theorem ok_X11_worth : OkM (mQ 116) := okm_of (by decide +kernel) (need_ok (own := RX11) [547, 929, 930, 931, 129, 889, 910, 912, 15, 121] (by decide +kernel) (by decide +kernel)) (by decide +kernel)
set_option maxRecDepth 100000 in
theorem ok_X11_copyStore : OkM (mQ 117) := okm_of (by decide +kernel) (need_ok (own := RX11) [937, 939, 16, 121, 664, 666, 4, 121, 664, 666, 4, 121, 543, 547, 302, 655, 656, 657, 136, 803, 805, 12, 121] (by decide +kernel) (by decide +kernel)) (by decide +kernel)
set_option maxRecDepth 100000 in
theorem ok_X11_bake : OkM (mQ 118) := okm_of (by decide +kernel) (need_ok (own := RX11) [547, 945, 946, 947, 129, 547, 302, 803, 805, 12, 121, 664, 666, 4, 121] (by decide +kernel) (by decide +kernel)) (by decide +kernel)
set_option maxRecDepth 100000 in
theorem ok_X11_cut : OkM (mQ 119) := okm_of (by decide +kernel) (need_ok (own := RX11) [547, 953, 954, 955, 129, 547, 863, 864, 865, 129, 803, 805, 12, 121, 664, 666, 4, 121] (by decide +kernel) (by decide +kernel)) (by decide +kernel)
set_option maxRecDepth 100000 in
theorem ok_X11_split : OkM (mQ 120) := okm_of (by decide +kernel) (need_ok (own := RX11) [547, 966, 967, 968, 129, 547, 863, 864, 865, 129, 803, 805, 12, 121, 664, 666, 4, 121] (by decide +kernel) (by decide +kernel)) (by decide +kernel)
set_option maxRecDepth 100000 in
theorem ok_X11_give : OkM (mQ 121) := okm_of (by decide +kernel) (need_ok (own := RX11) [547, 974, 975, 976, 129, 547, 323, 872, 873, 141, 803, 805, 12, 121, 664, 666, 4, 121] (by decide +kernel) (by decide +kernel)) (by decide +kernel)
set_option maxRecDepth 100000 in
theorem ok_X11_take : OkM (mQ 122) := okm_of (by decide +kernel) (need_ok (own := RX11) [547, 983, 984, 985, 129, 547, 323, 872, 873, 141, 803, 805, 12, 121, 664, 666, 4, 121] (by decide +kernel) (by decide +kernel)) (by decide +kernel)
set_option maxRecDepth 100000 in
theorem ok_X11_owe : OkM (mQ 123) := okm_of (by decide +kernel) (need_ok (own := RX11) [547, 904, 788, 789, 129, 620, 622, 0, 121, 991, 992, 121, 620, 622, 0, 121, 547, 318, 547, 320, 631, 633, 1, 121] (by decide +kernel) (by decide +kernel)) (by decide +kernel)
set_option maxRecDepth 100000 in
theorem ok_X11_come : OkM (mQ 124) := okm_of (by decide +kernel) (need_ok (own := RX11) [991, 992, 121, 664, 666, 4, 121, 547, 315, 664, 666, 4, 121, 547, 998, 784, 785, 129, 803, 805, 12, 121] (by decide +kernel) (by decide +kernel)) (by decide +kernel)
set_option maxRecDepth 100000 in
theorem ok_X11_learn : OkM (mQ 125) := okm_of (by decide +kernel) (need_ok (own := RX11) [899, 760, 121, 620, 622, 0, 121, 547, 309, 1003, 763, 121, 620, 622, 0, 121, 547, 309, 1004, 766, 121, 309, 631, 633, 1, 121] (by decide +kernel) (by decide +kernel)) (by decide +kernel)
set_option maxRecDepth 100000 in
theorem ok_X11_rule : OkM (mQ 126) := okm_of (by decide +kernel) (need_ok (own := RX11) [620, 622, 0, 121, 547, 306, 631, 633, 1, 121] (by decide +kernel) (by decide +kernel)) (by decide +kernel)
set_option maxRecDepth 100000 in
theorem ok_X11_fewest : OkM (mQ 127) := okm_of (by decide +kernel) (need_ok (own := RX11) [991, 992, 121, 664, 666, 4, 121, 554, 547, 309, 1013, 887, 121, 1014, 1015, 1016, 131, 1044, 1046, 22, 121] (by decide +kernel) (by decide +kernel)) (by decide +kernel)
set_option maxRecDepth 100000 in
theorem ok_X11_fewestAt : OkM (mQ 128) := okm_of (by decide +kernel) (need_ok (own := RX11) [991, 992, 121, 664, 666, 4, 121, 554, 547, 309, 1013, 887, 121, 1014, 1015, 1016, 131, 1052, 1054, 23, 121] (by decide +kernel) (by decide +kernel)) (by decide +kernel)
set_option maxRecDepth 100000 in
theorem ok_X11_ways : OkM (mQ 129) := okm_of (by decide +kernel) (need_ok (own := RX11) [991, 992, 121, 1064, 1065, 121, 664, 666, 4, 121, 554, 547, 309, 1013, 887, 121, 1067, 1068, 1069, 131, 554, 402, 803, 805, 12, 121] (by decide +kernel) (by decide +kernel)) (by decide +kernel)
set_option maxRecDepth 100000 in
theorem ok_X11_oddsThat : OkM (mQ 130) := okm_of (by decide +kernel) (need_ok (own := RX11) [899, 760, 121, 620, 622, 0, 121, 991, 992, 121, 1064, 1065, 121, 620, 622, 0, 121, 554, 547, 309, 1013, 887, 121, 1067, 1068, 1069, 131, 554, 402, 620, 622, 0, 121, 554, 404, 554, 402, 910, 912, 15, 121] (by decide +kernel) (by decide +kernel)) (by decide +kernel)
set_option maxRecDepth 100000 in
theorem ok_X11_ask : OkM (mQ 131) := okm_of (by decide +kernel) (need_ok (own := RX11) [991, 992, 121, 1064, 1065, 121, 664, 666, 4, 121, 554, 547, 309, 1013, 887, 121, 1067, 1068, 1069, 131, 554, 402, 664, 666, 4, 121, 554, 547, 309, 1079, 1080, 1081, 131, 803, 805, 12, 121] (by decide +kernel) (by decide +kernel)) (by decide +kernel)
set_option maxRecDepth 100000 in
theorem ok_X11_kindestAt : OkM (mQ 132) := okm_of (by decide +kernel) (need_ok (own := RX11) [991, 992, 121, 664, 666, 4, 121, 554, 547, 309, 1013, 887, 121, 1088, 1089, 1090, 131, 1052, 1054, 23, 121] (by decide +kernel) (by decide +kernel)) (by decide +kernel)
set_option maxRecDepth 100000 in
theorem ok_X11_greedyAt : OkM (mQ 133) := okm_of (by decide +kernel) (need_ok (own := RX11) [991, 992, 121, 664, 666, 4, 121, 1096, 1097, 121, 664, 666, 4, 121, 1099, 664, 666, 4, 121, 803, 805, 12, 121] (by decide +kernel) (by decide +kernel)) (by decide +kernel)
set_option maxRecDepth 100000 in
theorem ok_X11_slips : OkM (mQ 134) := okm_of (by decide +kernel) (need_ok (own := RX11) [1104, 1106, 24, 121, 664, 666, 4, 121, 555, 543, 547, 309, 1013, 887, 121, 1109, 1110, 1111, 132, 555, 433, 803, 805, 12, 121] (by decide +kernel) (by decide +kernel)) (by decide +kernel)
set_option maxRecDepth 100000 in
theorem ok_X11_slipAt : OkM (mQ 135) := okm_of (by decide +kernel) (need_ok (own := RX11) [1104, 1106, 24, 121, 664, 666, 4, 121, 664, 666, 4, 121, 555, 543, 547, 309, 1013, 887, 121, 1109, 1110, 1111, 132, 555, 433, 664, 666, 4, 121, 555, 429, 555, 431, 803, 805, 12, 121] (by decide +kernel) (by decide +kernel)) (by decide +kernel)
set_option maxRecDepth 100000 in
theorem ok_X11_reach : OkM (mQ 136) := okm_of (by decide +kernel) (need_ok (own := RX11) [899, 760, 121, 664, 666, 4, 121, 556, 547, 867, 868, 869, 129, 1129, 1130, 1131, 133, 664, 666, 4, 121, 556, 451, 803, 805, 12, 121] (by decide +kernel) (by decide +kernel)) (by decide +kernel)
set_option maxRecDepth 100000 in
theorem ok_X11_reachAt : OkM (mQ 137) := okm_of (by decide +kernel) (need_ok (own := RX11) [899, 760, 121, 664, 666, 4, 121, 556, 547, 867, 868, 869, 129, 1129, 1130, 1131, 133, 556, 451, 664, 666, 4, 121, 556, 449, 803, 805, 12, 121] (by decide +kernel) (by decide +kernel)) (by decide +kernel)
set_option maxRecDepth 100000 in
theorem ok_X11_fill : OkM (mQ 138) := okm_of (by decide +kernel) (need_ok (own := RX11) [547, 904, 788, 789, 129, 664, 666, 4, 121, 554, 547, 1154, 1155, 1156, 129, 547, 924, 883, 884, 129, 1014, 1015, 1016, 131, 1044, 1046, 22, 121] (by decide +kernel) (by decide +kernel)) (by decide +kernel)
set_option maxRecDepth 100000 in
theorem ok_X11_fillAt : OkM (mQ 139) := okm_of (by decide +kernel) (need_ok (own := RX11) [547, 904, 788, 789, 129, 664, 666, 4, 121, 554, 547, 1154, 1155, 1156, 129, 547, 924, 883, 884, 129, 1014, 1015, 1016, 131, 1052, 1054, 23, 121] (by decide +kernel) (by decide +kernel)) (by decide +kernel)
set_option maxRecDepth 100000 in
theorem ok_X11_plate : OkM (mQ 140) := okm_of (by decide +kernel) (need_ok (own := RX11) [1167, 1168, 121, 664, 666, 4, 121, 557, 1171, 1172, 1173, 134, 557, 1181, 1182, 1183, 134, 803, 805, 12, 121] (by decide +kernel) (by decide +kernel)) (by decide +kernel)
set_option maxRecDepth 100000 in
theorem ok_X11_plateMove : OkM (mQ 141) := okm_of (by decide +kernel) (need_ok (own := RX11) [1167, 1168, 121, 664, 666, 4, 121, 557, 1171, 1172, 1173, 134, 557, 1181, 1182, 1183, 134, 664, 666, 4, 121, 557, 466, 803, 805, 12, 121] (by decide +kernel) (by decide +kernel)) (by decide +kernel)
set_option maxRecDepth 100000 in
theorem ok_X11_luck : OkM (mQ 142) := okm_of (by decide +kernel) (need_ok (own := RX11) [1167, 1168, 121, 991, 992, 121, 620, 622, 0, 121, 872, 873, 141, 620, 622, 0, 121, 557, 1171, 1172, 1173, 134, 557, 1013, 887, 121, 1198, 1199, 1200, 134, 557, 468, 1203, 1204, 121, 910, 912, 15, 121] (by decide +kernel) (by decide +kernel)) (by decide +kernel)
set_option maxRecDepth 100000 in
theorem ok_X11_burnt : OkM (mQ 143) := okm_of (by decide +kernel) (need_ok (own := RX11) [620, 622, 0, 121, 1203, 1204, 121, 547, 306, 1210, 1211, 121, 547, 306, 1210, 1211, 121, 1210, 1211, 121, 910, 912, 15, 121] (by decide +kernel) (by decide +kernel)) (by decide +kernel)
set_option maxRecDepth 100000 in
theorem ok_X11_live : OkM (mQ 144) := okm_of (by decide +kernel) (need_ok (own := RX11) [664, 666, 4, 121, 549, 351, 664, 666, 4, 121, 558, 547, 549, 1217, 1218, 1219, 135, 558, 489, 803, 805, 12, 121] (by decide +kernel) (by decide +kernel)) (by decide +kernel)
set_option maxRecDepth 100000 in
theorem ok_X11_lived : OkM (mQ 145) := okm_of (by decide +kernel) (need_ok (own := RX11) [664, 666, 4, 121, 558, 487, 664, 666, 4, 121, 558, 491, 803, 805, 12, 121, 558, 493, 803, 805, 12, 121, 558, 495, 803, 805, 12, 121, 558, 497, 803, 805, 12, 121, 558, 499, 803, 805, 12, 121] (by decide +kernel) (by decide +kernel)) (by decide +kernel)
set_option maxRecDepth 100000 in
theorem ok_X11_mean : OkM (mQ 146) := okm_of (by decide +kernel) (need_ok (own := RX11) [620, 622, 0, 121, 549, 351, 620, 622, 0, 121, 548, 547, 1282, 1283, 1284, 129, 559, 548, 549, 1217, 1218, 1219, 135, 548, 1287, 1288, 1289, 129, 889, 910, 912, 15, 121] (by decide +kernel) (by decide +kernel)) (by decide +kernel)
set_option maxRecDepth 100000 in
theorem ok_X11_mark : OkM (mQ 147) := okm_of (by decide +kernel) (need_ok (own := RX11) [553, 664, 666, 4, 121, 551, 553, 547, 1282, 1283, 1284, 129, 552, 553, 549, 1295, 1296, 1297, 130, 553, 553, 553, 803, 805, 12, 121] (by decide +kernel) (by decide +kernel)) (by decide +kernel)
set_option maxRecDepth 100000 in
theorem ok_X11_back : OkM (mQ 148) := okm_of (by decide +kernel) (need_ok (own := RX11) [553, 664, 666, 4, 121, 553, 553, 547, 551, 553, 1282, 1283, 1284, 129, 549, 552, 553, 1295, 1296, 1297, 130, 553, 803, 805, 12, 121] (by decide +kernel) (by decide +kernel)) (by decide +kernel)
set_option maxRecDepth 100000 in
theorem ok_X11_refuse : OkM (mQ 149) := okm_of (by decide +kernel) (need_ok (own := RX11) [540] (by decide +kernel) (by decide +kernel)) (by decide +kernel)
set_option maxRecDepth 100000 in
theorem ok_X11_deny : OkM (mQ 150) := okm_of (by decide +kernel) (need_ok (own := RX11) [540] (by decide +kernel) (by decide +kernel)) (by decide +kernel)
set_option maxRecDepth 100000 in
theorem ok_X11_answer : OkM (mQ 151) := okm_of (by decide +kernel) (need_ok (own := RX11) [540] (by decide +kernel) (by decide +kernel)) (by decide +kernel)
set_option maxRecDepth 100000 in
theorem ok_X11_allow : OkM (mQ 152) := okm_of (by decide +kernel) (need_ok (own := RX11) [540] (by decide +kernel) (by decide +kernel)) (by decide +kernel)
set_option maxRecDepth 100000 in
theorem ok_X11_answerSize : OkM (mQ 153) := okm_of (by decide +kernel) (need_ok (own := RX11) [554, 400, 803, 805, 12, 121, 664, 666, 4, 121] (by decide +kernel) (by decide +kernel)) (by decide +kernel)
set_option maxRecDepth 100000 in
theorem ok_X11_answerSlice : OkM (mQ 154) := okm_of (by decide +kernel) (need_ok (own := RX11) [554, 1056, 1057, 1058, 131, 554, 398, 803, 805, 12, 121, 664, 666, 4, 121] (by decide +kernel) (by decide +kernel)) (by decide +kernel)
set_option maxRecDepth 100000 in
theorem ok_X11_tell : OkM (mQ 155) := okm_of (by decide +kernel) (need_ok (own := RX11) [914, 915, 140, 917, 918, 121, 541, 542, 631, 633, 1, 121] (by decide +kernel) (by decide +kernel)) (by decide +kernel)
set_option maxRecDepth 100000 in
theorem ok_X11_trayStatus : OkM (mQ 156) := okm_of (by decide +kernel) (need_ok (own := RX11) [617, 618, 121, 543, 647, 648, 649, 136] (by decide +kernel) (by decide +kernel)) (by decide +kernel)
set_option maxRecDepth 100000 in
theorem ok_X11_placeStatus : OkM (mQ 157) := okm_of (by decide +kernel) (need_ok (own := RX11) [643, 645, 3, 121, 543, 651, 652, 653, 136] (by decide +kernel) (by decide +kernel)) (by decide +kernel)
set_option maxRecDepth 100000 in
theorem ok_X11_placesStatus : OkM (mQ 158) := okm_of (by decide +kernel) (need_ok (own := RX11) [643, 645, 3, 121, 543, 529] (by decide +kernel) (by decide +kernel)) (by decide +kernel)
set_option maxRecDepth 100000 in
theorem ok_X11_slipStatus : OkM (mQ 159) := okm_of (by decide +kernel) (need_ok (own := RX11) [937, 939, 16, 121, 991, 992, 121, 543, 532, 1108] (by decide +kernel) (by decide +kernel)) (by decide +kernel)
