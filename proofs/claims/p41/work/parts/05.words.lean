/-! printed by chk.py: words of the tables by their places -/
theorem tb_mem {w : Cond} (i : Nat) (h : tbF i = some w) (g : goodWord w = true) : w ∈ wsG := wsG_in (tbF_in h) g
theorem tb_mc {w : Cond} (c j : Nat) (h : (tbC c)[j]? = some w) (g : goodWord w = true) : w ∈ wsG := wsG_in (List.mem_append_right _ (tb_in c j h)) g
theorem tb_list {ws : List Cond} (ps : List Nat) (h : ws = ps.filterMap tbF) (g : ws.all goodWord = true) : ∀ w ∈ ws, w ∈ wsG := by
  intro w hw
  have h2 := List.all_eq_true.mp g w hw
  rw [h] at hw
  obtain ⟨i, -, hi⟩ := List.mem_filterMap.mp hw
  exact tb_mem i hi h2
set_option maxRecDepth 100000 in
theorem cw_X0_init : qW (mQ 0) ∈ wsG := tb_mc 0 176 rfl rfl
set_option maxRecDepth 100000 in
theorem cw_X0_forget : qW (mQ 1) ∈ wsG := tb_mc 2 121 rfl rfl
set_option maxRecDepth 100000 in
theorem cw_X0_copyFrom : qW (mQ 2) ∈ wsG := tb_mc 4 205 rfl rfl
set_option maxRecDepth 100000 in
theorem cw_X0_isMan : qW (mQ 3) ∈ wsG := tb_mc 2 190 rfl rfl
set_option maxRecDepth 100000 in
theorem cw_X0_addMan : qW (mQ 4) ∈ wsG := tb_mc 2 186 rfl rfl
set_option maxRecDepth 100000 in
theorem cw_X0_manNamed : qW (mQ 5) ∈ wsG := tb_mc 2 178 rfl rfl
set_option maxRecDepth 100000 in
theorem cw_X0_pieces : qW (mQ 6) ∈ wsG := tb_mc 3 26 rfl rfl
set_option maxRecDepth 100000 in
theorem cw_X0_stockSet : qW (mQ 7) ∈ wsG := tb_mc 3 30 rfl rfl
set_option maxRecDepth 100000 in
theorem cw_X0_stockCrumbs : qW (mQ 8) ∈ wsG := tb_mc 3 92 rfl rfl
set_option maxRecDepth 100000 in
theorem cw_X0_holding : qW (mQ 9) ∈ wsG := tb_mc 3 53 rfl rfl
set_option maxRecDepth 100000 in
theorem cw_X0_allHoldings : qW (mQ 10) ∈ wsG := tb_mc 4 210 rfl rfl
set_option maxRecDepth 100000 in
theorem cw_X0_lacking : qW (mQ 11) ∈ wsG := tb_mc 3 45 rfl rfl
set_option maxRecDepth 100000 in
theorem cw_X0_evenMen : qW (mQ 12) ∈ wsG := tb_mc 3 41 rfl rfl
set_option maxRecDepth 100000 in
theorem cw_X0_giftsFor : qW (mQ 13) ∈ wsG := tb_mc 4 77 rfl rfl
set_option maxRecDepth 100000 in
theorem cw_X0_addLoaves : qW (mQ 14) ∈ wsG := tb_mc 3 108 rfl rfl
set_option maxRecDepth 100000 in
theorem cw_X0_cutUp : qW (mQ 15) ∈ wsG := tb_mc 3 116 rfl rfl
set_option maxRecDepth 100000 in
theorem cw_X0_stockAfterCut : qW (mQ 16) ∈ wsG := tb_mc 3 121 rfl rfl
set_option maxRecDepth 100000 in
theorem cw_X0_splitUp : qW (mQ 17) ∈ wsG := tb_mc 3 129 rfl rfl
set_option maxRecDepth 100000 in
theorem cw_X0_handOver : qW (mQ 18) ∈ wsG := tb_mc 3 137 rfl rfl
set_option maxRecDepth 100000 in
theorem cw_X0_handBack : qW (mQ 19) ∈ wsG := tb_mc 3 146 rfl rfl
set_option maxRecDepth 100000 in
theorem cw_X1_init : qW (mQ 20) ∈ wsG := tb_mc 0 146 rfl rfl
set_option maxRecDepth 100000 in
theorem cw_X1_readInto : qW (mQ 21) ∈ wsG := tb_mc 2 117 rfl rfl
set_option maxRecDepth 100000 in
theorem cw_X1_readOdds : qW (mQ 22) ∈ wsG := tb_mc 2 128 rfl rfl
set_option maxRecDepth 100000 in
theorem cw_X1_readStore : qW (mQ 23) ∈ wsG := tb_mc 2 158 rfl rfl
set_option maxRecDepth 100000 in
theorem cw_X1_readMan : qW (mQ 24) ∈ wsG := tb_mc 2 170 rfl rfl
set_option maxRecDepth 100000 in
theorem cw_X1_readKnown : qW (mQ 25) ∈ wsG := tb_mc 2 197 rfl rfl
set_option maxRecDepth 100000 in
theorem cw_X1_takeSlices : qW (mQ 26) ∈ wsG := tb_mc 2 193 rfl rfl
set_option maxRecDepth 100000 in
theorem cw_X2_init : qW (mQ 27) ∈ wsG := tb_mc 0 227 rfl rfl
set_option maxRecDepth 100000 in
theorem cw_X2_forget : qW (mQ 28) ∈ wsG := tb_mc 2 202 rfl rfl
set_option maxRecDepth 100000 in
theorem cw_X2_copyFrom : qW (mQ 29) ∈ wsG := tb_mc 4 218 rfl rfl
set_option maxRecDepth 100000 in
theorem cw_X2_add : qW (mQ 30) ∈ wsG := tb_mc 2 225 rfl rfl
set_option maxRecDepth 100000 in
theorem cw_X2_pair : qW (mQ 31) ∈ wsG := tb_mc 2 229 rfl rfl
set_option maxRecDepth 100000 in
theorem cw_X3_init : qW (mQ 32) ∈ wsG := tb_mc 0 162 rfl rfl
set_option maxRecDepth 100000 in
theorem cw_X3_readInto : qW (mQ 33) ∈ wsG := tb_mc 2 214 rfl rfl
set_option maxRecDepth 100000 in
theorem cw_X3_readEnd : qW (mQ 34) ∈ wsG := tb_mc 2 219 rfl rfl
set_option maxRecDepth 100000 in
theorem cw_X3_readStep : qW (mQ 35) ∈ wsG := tb_mc 2 234 rfl rfl
set_option maxRecDepth 100000 in
theorem cw_X3_readAct : qW (mQ 36) ∈ wsG := tb_mc 3 11 rfl rfl
set_option maxRecDepth 100000 in
theorem cw_X3_readCut : qW (mQ 37) ∈ wsG := tb_mc 3 14 rfl rfl
set_option maxRecDepth 100000 in
theorem cw_X3_readTest : qW (mQ 38) ∈ wsG := tb_mc 2 238 rfl rfl
set_option maxRecDepth 100000 in
theorem cw_X3_takeMan : qW (mQ 39) ∈ wsG := tb_mc 3 2 rfl rfl
set_option maxRecDepth 100000 in
theorem cw_X4_init : qW (mQ 40) ∈ wsG := tb_mc 1 124 rfl rfl
set_option maxRecDepth 100000 in
theorem cw_X4_run : qW (mQ 41) ∈ wsG := tb_mc 4 140 rfl rfl
set_option maxRecDepth 100000 in
theorem cw_X4_behindEnd : qW (mQ 42) ∈ wsG := tb_mc 4 145 rfl rfl
set_option maxRecDepth 100000 in
theorem cw_X4_behindStep : qW (mQ 43) ∈ wsG := tb_mc 4 149 rfl rfl
set_option maxRecDepth 100000 in
theorem cw_X4_holdsTrue : qW (mQ 44) ∈ wsG := tb_mc 4 152 rfl rfl
set_option maxRecDepth 100000 in
theorem cw_X4_compares : qW (mQ 45) ∈ wsG := tb_mc 4 158 rfl rfl
set_option maxRecDepth 100000 in
theorem cw_X4_act : qW (mQ 46) ∈ wsG := tb_mc 4 182 rfl rfl
set_option maxRecDepth 100000 in
theorem cw_X4_doAny : qW (mQ 47) ∈ wsG := tb_mc 4 163 rfl rfl
set_option maxRecDepth 100000 in
theorem cw_X4_cutUp : qW (mQ 48) ∈ wsG := tb_mc 4 186 rfl rfl
set_option maxRecDepth 100000 in
theorem cw_X4_splitUp : qW (mQ 49) ∈ wsG := tb_mc 4 172 rfl rfl
set_option maxRecDepth 100000 in
theorem cw_X4_handOver : qW (mQ 50) ∈ wsG := tb_mc 4 177 rfl rfl
set_option maxRecDepth 100000 in
theorem cw_X4_addLoaves : qW (mQ 51) ∈ wsG := tb_mc 4 192 rfl rfl
set_option maxRecDepth 100000 in
theorem cw_X4_draw : qW (mQ 52) ∈ wsG := tb_mc 4 167 rfl rfl
set_option maxRecDepth 100000 in
theorem cw_X5_init : qW (mQ 53) ∈ wsG := tb_mc 1 85 rfl rfl
set_option maxRecDepth 100000 in
theorem cw_X5_find : qW (mQ 54) ∈ wsG := tb_mc 4 52 rfl rfl
set_option maxRecDepth 100000 in
theorem cw_X5_countSteps : qW (mQ 55) ∈ wsG := tb_mc 4 56 rfl rfl
set_option maxRecDepth 100000 in
theorem cw_X5_follow : qW (mQ 56) ∈ wsG := tb_mc 4 65 rfl rfl
set_option maxRecDepth 100000 in
theorem cw_X5_comesOf : qW (mQ 57) ∈ wsG := tb_mc 4 59 rfl rfl
set_option maxRecDepth 100000 in
theorem cw_X6_init : qW (mQ 58) ∈ wsG := tb_mc 0 36 rfl rfl
set_option maxRecDepth 100000 in
theorem cw_X6_hasRoom : qW (mQ 59) ∈ wsG := tb_mc 2 82 rfl rfl
set_option maxRecDepth 100000 in
theorem cw_X6_append : qW (mQ 60) ∈ wsG := tb_mc 2 86 rfl rfl
set_option maxRecDepth 100000 in
theorem cw_X6_open : qW (mQ 61) ∈ wsG := tb_mc 2 95 rfl rfl
set_option maxRecDepth 100000 in
theorem cw_X6_advance : qW (mQ 62) ∈ wsG := tb_mc 2 105 rfl rfl
set_option maxRecDepth 100000 in
theorem cw_X6_readWord : qW (mQ 63) ∈ wsG := tb_mc 2 109 rfl rfl
set_option maxRecDepth 100000 in
theorem cw_X6_readNumber : qW (mQ 64) ∈ wsG := tb_mc 2 113 rfl rfl
set_option maxRecDepth 100000 in
theorem cw_X6_wrong : qW (mQ 65) ∈ wsG := tb_mc 2 140 rfl rfl
set_option maxRecDepth 100000 in
theorem cw_X6_misplaced : qW (mQ 66) ∈ wsG := tb_mc 2 148 rfl rfl
set_option maxRecDepth 100000 in
theorem cw_X6_wrongTaken : qW (mQ 67) ∈ wsG := tb_mc 2 136 rfl rfl
set_option maxRecDepth 100000 in
theorem cw_X6_takeAny : qW (mQ 68) ∈ wsG := tb_mc 2 132 rfl rfl
set_option maxRecDepth 100000 in
theorem cw_X6_takeWord : qW (mQ 69) ∈ wsG := tb_mc 2 182 rfl rfl
set_option maxRecDepth 100000 in
theorem cw_X6_takeSemicolon : qW (mQ 70) ∈ wsG := tb_mc 2 153 rfl rfl
set_option maxRecDepth 100000 in
theorem cw_X6_takeCompares : qW (mQ 71) ∈ wsG := tb_mc 3 8 rfl rfl
set_option maxRecDepth 100000 in
theorem cw_X6_takeNumber : qW (mQ 72) ∈ wsG := tb_mc 2 144 rfl rfl
set_option maxRecDepth 100000 in
theorem cw_X6_takeName : qW (mQ 73) ∈ wsG := tb_mc 2 174 rfl rfl
set_option maxRecDepth 100000 in
theorem cw_X7_init : qW (mQ 74) ∈ wsG := tb_mc 1 31 rfl rfl
set_option maxRecDepth 100000 in
theorem cw_X7_begin : qW (mQ 75) ∈ wsG := tb_mc 3 181 rfl rfl
set_option maxRecDepth 100000 in
theorem cw_X7_findFewest : qW (mQ 76) ∈ wsG := tb_mc 3 177 rfl rfl
set_option maxRecDepth 100000 in
theorem cw_X7_findKindest : qW (mQ 77) ∈ wsG := tb_mc 4 11 rfl rfl
set_option maxRecDepth 100000 in
theorem cw_X7_countAll : qW (mQ 78) ∈ wsG := tb_mc 3 230 rfl rfl
set_option maxRecDepth 100000 in
theorem cw_X7_seekRowsOf : qW (mQ 79) ∈ wsG := tb_mc 3 186 rfl rfl
set_option maxRecDepth 100000 in
theorem cw_X7_hasBest : qW (mQ 80) ∈ wsG := tb_mc 3 219 rfl rfl
set_option maxRecDepth 100000 in
theorem cw_X7_bestQuestion : qW (mQ 81) ∈ wsG := tb_mc 4 2 rfl rfl
set_option maxRecDepth 100000 in
theorem cw_X7_seek : qW (mQ 82) ∈ wsG := tb_mc 3 189 rfl rfl
set_option maxRecDepth 100000 in
theorem cw_X7_putLast : qW (mQ 83) ∈ wsG := tb_mc 3 193 rfl rfl
set_option maxRecDepth 100000 in
theorem cw_X7_meet : qW (mQ 84) ∈ wsG := tb_mc 3 200 rfl rfl
set_option maxRecDepth 100000 in
theorem cw_X8_init : qW (mQ 85) ∈ wsG := tb_mc 1 66 rfl rfl
set_option maxRecDepth 100000 in
theorem cw_X8_findAll : qW (mQ 86) ∈ wsG := tb_mc 4 32 rfl rfl
set_option maxRecDepth 100000 in
theorem cw_X8_fixAt : qW (mQ 87) ∈ wsG := tb_mc 4 35 rfl rfl
set_option maxRecDepth 100000 in
theorem cw_X9_init : qW (mQ 88) ∈ wsG := tb_mc 1 103 rfl rfl
set_option maxRecDepth 100000 in
theorem cw_X9_lay : qW (mQ 89) ∈ wsG := tb_mc 4 94 rfl rfl
set_option maxRecDepth 100000 in
theorem cw_X9_addSlice : qW (mQ 90) ∈ wsG := tb_mc 4 99 rfl rfl
set_option maxRecDepth 100000 in
theorem cw_X9_firstWinning : qW (mQ 91) ∈ wsG := tb_mc 4 104 rfl rfl
set_option maxRecDepth 100000 in
theorem cw_X9_winningPlace : qW (mQ 92) ∈ wsG := tb_mc 4 109 rfl rfl
set_option maxRecDepth 100000 in
theorem cw_X9_countWithin : qW (mQ 93) ∈ wsG := tb_mc 4 121 rfl rfl
set_option maxRecDepth 100000 in
theorem cw_X10_init : qW (mQ 94) ∈ wsG := tb_mc 1 164 rfl rfl
set_option maxRecDepth 100000 in
theorem cw_X10_isMissing : qW (mQ 95) ∈ wsG := tb_mc 2 50 rfl rfl
set_option maxRecDepth 100000 in
theorem cw_X10_lay : qW (mQ 96) ∈ wsG := tb_mc 2 27 rfl rfl
set_option maxRecDepth 100000 in
theorem cw_X10_hasPlaces : qW (mQ 97) ∈ wsG := tb_mc 2 54 rfl rfl
set_option maxRecDepth 100000 in
theorem cw_X10_put : qW (mQ 98) ∈ wsG := tb_mc 2 58 rfl rfl
set_option maxRecDepth 100000 in
theorem cw_X11_init : qW (mQ 99) ∈ wsG := tb_mc 0 26 rfl rfl
set_option maxRecDepth 100000 in
theorem cw_X11_status : qW (mQ 100) ∈ wsG := tb_mc 2 4 rfl rfl
set_option maxRecDepth 100000 in
theorem cw_X11_top : qW (mQ 101) ∈ wsG := tb_mc 2 8 rfl rfl
set_option maxRecDepth 100000 in
theorem cw_X11_bottom : qW (mQ 102) ∈ wsG := tb_mc 2 12 rfl rfl
set_option maxRecDepth 100000 in
theorem cw_X11_tray : qW (mQ 103) ∈ wsG := tb_mc 2 16 rfl rfl
set_option maxRecDepth 100000 in
theorem cw_X11_write : qW (mQ 104) ∈ wsG := tb_mc 2 38 rfl rfl
set_option maxRecDepth 100000 in
theorem cw_X11_read : qW (mQ 105) ∈ wsG := tb_mc 2 63 rfl rfl
set_option maxRecDepth 100000 in
theorem cw_X11_pour : qW (mQ 106) ∈ wsG := tb_mc 2 71 rfl rfl
set_option maxRecDepth 100000 in
theorem cw_X11_feed : qW (mQ 107) ∈ wsG := tb_mc 2 78 rfl rfl
set_option maxRecDepth 100000 in
theorem cw_X11_bakery : qW (mQ 108) ∈ wsG := tb_mc 2 91 rfl rfl
set_option maxRecDepth 100000 in
theorem cw_X11_days : qW (mQ 109) ∈ wsG := tb_mc 2 210 rfl rfl
set_option maxRecDepth 100000 in
theorem cw_X11_fault : qW (mQ 110) ∈ wsG := tb_mc 3 18 rfl rfl
set_option maxRecDepth 100000 in
theorem cw_X11_many : qW (mQ 111) ∈ wsG := tb_mc 3 22 rfl rfl
set_option maxRecDepth 100000 in
theorem cw_X11_store : qW (mQ 112) ∈ wsG := tb_mc 3 58 rfl rfl
set_option maxRecDepth 100000 in
theorem cw_X11_man : qW (mQ 113) ∈ wsG := tb_mc 3 63 rfl rfl
set_option maxRecDepth 100000 in
theorem cw_X11_has : qW (mQ 114) ∈ wsG := tb_mc 3 68 rfl rfl
set_option maxRecDepth 100000 in
theorem cw_X11_lacks : qW (mQ 115) ∈ wsG := tb_mc 3 83 rfl rfl
set_option maxRecDepth 100000 in
theorem cw_X11_worth : qW (mQ 116) ∈ wsG := tb_mc 3 88 rfl rfl
set_option maxRecDepth 100000 in
theorem cw_X11_copyStore : qW (mQ 117) ∈ wsG := tb_mc 3 96 rfl rfl
set_option maxRecDepth 100000 in
theorem cw_X11_bake : qW (mQ 118) ∈ wsG := tb_mc 3 104 rfl rfl
set_option maxRecDepth 100000 in
theorem cw_X11_cut : qW (mQ 119) ∈ wsG := tb_mc 3 112 rfl rfl
set_option maxRecDepth 100000 in
theorem cw_X11_split : qW (mQ 120) ∈ wsG := tb_mc 3 125 rfl rfl
set_option maxRecDepth 100000 in
theorem cw_X11_give : qW (mQ 121) ∈ wsG := tb_mc 3 133 rfl rfl
set_option maxRecDepth 100000 in
theorem cw_X11_take : qW (mQ 122) ∈ wsG := tb_mc 3 142 rfl rfl
set_option maxRecDepth 100000 in
theorem cw_X11_owe : qW (mQ 123) ∈ wsG := tb_mc 3 150 rfl rfl
set_option maxRecDepth 100000 in
theorem cw_X11_come : qW (mQ 124) ∈ wsG := tb_mc 3 157 rfl rfl
set_option maxRecDepth 100000 in
theorem cw_X11_learn : qW (mQ 125) ∈ wsG := tb_mc 3 162 rfl rfl
set_option maxRecDepth 100000 in
theorem cw_X11_rule : qW (mQ 126) ∈ wsG := tb_mc 3 168 rfl rfl
set_option maxRecDepth 100000 in
theorem cw_X11_fewest : qW (mQ 127) ∈ wsG := tb_mc 3 172 rfl rfl
set_option maxRecDepth 100000 in
theorem cw_X11_fewestAt : qW (mQ 128) ∈ wsG := tb_mc 3 211 rfl rfl
set_option maxRecDepth 100000 in
theorem cw_X11_ways : qW (mQ 129) ∈ wsG := tb_mc 3 223 rfl rfl
set_option maxRecDepth 100000 in
theorem cw_X11_oddsThat : qW (mQ 130) ∈ wsG := tb_mc 3 234 rfl rfl
set_option maxRecDepth 100000 in
theorem cw_X11_ask : qW (mQ 131) ∈ wsG := tb_mc 3 238 rfl rfl
set_option maxRecDepth 100000 in
theorem cw_X11_kindestAt : qW (mQ 132) ∈ wsG := tb_mc 4 7 rfl rfl
set_option maxRecDepth 100000 in
theorem cw_X11_greedyAt : qW (mQ 133) ∈ wsG := tb_mc 4 15 rfl rfl
set_option maxRecDepth 100000 in
theorem cw_X11_slips : qW (mQ 134) ∈ wsG := tb_mc 4 23 rfl rfl
set_option maxRecDepth 100000 in
theorem cw_X11_slipAt : qW (mQ 135) ∈ wsG := tb_mc 4 44 rfl rfl
set_option maxRecDepth 100000 in
theorem cw_X11_reach : qW (mQ 136) ∈ wsG := tb_mc 4 48 rfl rfl
set_option maxRecDepth 100000 in
theorem cw_X11_reachAt : qW (mQ 137) ∈ wsG := tb_mc 4 69 rfl rfl
set_option maxRecDepth 100000 in
theorem cw_X11_fill : qW (mQ 138) ∈ wsG := tb_mc 4 73 rfl rfl
set_option maxRecDepth 100000 in
theorem cw_X11_fillAt : qW (mQ 139) ∈ wsG := tb_mc 4 82 rfl rfl
set_option maxRecDepth 100000 in
theorem cw_X11_plate : qW (mQ 140) ∈ wsG := tb_mc 4 86 rfl rfl
set_option maxRecDepth 100000 in
theorem cw_X11_plateMove : qW (mQ 141) ∈ wsG := tb_mc 4 113 rfl rfl
set_option maxRecDepth 100000 in
theorem cw_X11_luck : qW (mQ 142) ∈ wsG := tb_mc 4 117 rfl rfl
set_option maxRecDepth 100000 in
theorem cw_X11_burnt : qW (mQ 143) ∈ wsG := tb_mc 4 129 rfl rfl
set_option maxRecDepth 100000 in
theorem cw_X11_live : qW (mQ 144) ∈ wsG := tb_mc 4 136 rfl rfl
set_option maxRecDepth 100000 in
theorem cw_X11_lived : qW (mQ 145) ∈ wsG := tb_mc 4 197 rfl rfl
set_option maxRecDepth 100000 in
theorem cw_X11_mean : qW (mQ 146) ∈ wsG := tb_mc 4 201 rfl rfl
set_option maxRecDepth 100000 in
theorem cw_X11_mark : qW (mQ 147) ∈ wsG := tb_mc 4 214 rfl rfl
set_option maxRecDepth 100000 in
theorem cw_X11_back : qW (mQ 148) ∈ wsG := tb_mc 4 223 rfl rfl
set_option maxRecDepth 100000 in
theorem cw_X11_refuse : qW (mQ 149) ∈ wsG := tb_mc 2 67 rfl rfl
set_option maxRecDepth 100000 in
theorem cw_X11_deny : qW (mQ 150) ∈ wsG := tb_mc 2 23 rfl rfl
set_option maxRecDepth 100000 in
theorem cw_X11_answer : qW (mQ 151) ∈ wsG := tb_mc 2 206 rfl rfl
set_option maxRecDepth 100000 in
theorem cw_X11_allow : qW (mQ 152) ∈ wsG := tb_mc 2 34 rfl rfl
set_option maxRecDepth 100000 in
theorem cw_X11_answerSize : qW (mQ 153) ∈ wsG := tb_mc 3 207 rfl rfl
set_option maxRecDepth 100000 in
theorem cw_X11_answerSlice : qW (mQ 154) ∈ wsG := tb_mc 3 215 rfl rfl
set_option maxRecDepth 100000 in
theorem cw_X11_tell : qW (mQ 155) ∈ wsG := tb_mc 3 73 rfl rfl
set_option maxRecDepth 100000 in
theorem cw_X11_trayStatus : qW (mQ 156) ∈ wsG := tb_mc 2 46 rfl rfl
set_option maxRecDepth 100000 in
theorem cw_X11_placeStatus : qW (mQ 157) ∈ wsG := tb_mc 2 42 rfl rfl
set_option maxRecDepth 100000 in
theorem cw_X11_placesStatus : qW (mQ 158) ∈ wsG := tb_mc 3 100 rfl rfl
set_option maxRecDepth 100000 in
theorem cw_X11_slipStatus : qW (mQ 159) ∈ wsG := tb_mc 4 27 rfl rfl
set_option maxRecDepth 100000 in
theorem cw_X11_isTray : qW (mQ 160) ∈ wsG := tb_mc 2 19 rfl rfl
set_option maxRecDepth 100000 in
theorem cw_X11_isSlice : qW (mQ 161) ∈ wsG := tb_mc 2 161 rfl rfl
set_option maxRecDepth 100000 in
theorem cw_X11_isShare : qW (mQ 162) ∈ wsG := tb_mc 3 153 rfl rfl
set_option maxRecDepth 100000 in
theorem cw_X11_isRowSize : qW (mQ 163) ∈ wsG := tb_mc 3 226 rfl rfl
set_option maxRecDepth 100000 in
theorem cw_X11_isPlateSet : qW (mQ 164) ∈ wsG := tb_mc 4 89 rfl rfl
set_option maxRecDepth 100000 in
theorem cw_X11_bit : qW (mQ 165) ∈ wsG := tb_mc 2 167 rfl rfl
set_option maxRecDepth 100000 in
theorem cw_X11_isIn : qW (mQ 166) ∈ wsG := tb_mc 2 164 rfl rfl
set_option maxRecDepth 100000 in
theorem cw_X11_crumbs : qW (mQ 167) ∈ wsG := tb_mc 3 48 rfl rfl
set_option maxRecDepth 100000 in
theorem cw_X11_commonDivisor : qW (mQ 168) ∈ wsG := tb_mc 3 79 rfl rfl
set_option maxRecDepth 100000 in
theorem cw_X11_power : qW (mQ 169) ∈ wsG := tb_mc 4 132 rfl rfl
set_option maxRecDepth 100000 in
theorem cw_X11_choices : qW (mQ 170) ∈ wsG := tb_mc 4 125 rfl rfl
set_option maxRecDepth 100000 in
theorem cw_X11_greedyNumber : qW (mQ 171) ∈ wsG := tb_mc 4 18 rfl rfl
set_option maxRecDepth 100000 in
theorem cw_X12_init : qW (mQ 172) ∈ wsG := tb_mc 4 228 rfl rfl
set_option maxRecDepth 100000 in
theorem cw_X12_status : qW (mQ 173) ∈ wsG := tb_mc 5 146 rfl rfl
set_option maxRecDepth 100000 in
theorem cw_X12_top : qW (mQ 174) ∈ wsG := tb_mc 5 150 rfl rfl
set_option maxRecDepth 100000 in
theorem cw_X12_bottom : qW (mQ 175) ∈ wsG := tb_mc 5 154 rfl rfl
set_option maxRecDepth 100000 in
theorem cw_X12_refuse : qW (mQ 176) ∈ wsG := tb_mc 6 149 rfl rfl
set_option maxRecDepth 100000 in
theorem cw_X12_no : qW (mQ 177) ∈ wsG := tb_mc 5 162 rfl rfl
set_option maxRecDepth 100000 in
theorem cw_X12_isIn : qW (mQ 178) ∈ wsG := tb_mc 6 28 rfl rfl
set_option maxRecDepth 100000 in
theorem cw_X12_fraction : qW (mQ 179) ∈ wsG := tb_mc 6 203 rfl rfl
set_option maxRecDepth 100000 in
theorem cw_X12_trims : qW (mQ 180) ∈ wsG := tb_mc 5 177 rfl rfl
set_option maxRecDepth 100000 in
theorem cw_X12_tray : qW (mQ 181) ∈ wsG := tb_mc 5 158 rfl rfl
set_option maxRecDepth 100000 in
theorem cw_X12_trayed : qW (mQ 182) ∈ wsG := tb_mc 5 174 rfl rfl
set_option maxRecDepth 100000 in
theorem cw_X12_placed : qW (mQ 183) ∈ wsG := tb_mc 5 170 rfl rfl
set_option maxRecDepth 100000 in
theorem cw_X12_write : qW (mQ 184) ∈ wsG := tb_mc 5 166 rfl rfl
set_option maxRecDepth 100000 in
theorem cw_X12_read : qW (mQ 185) ∈ wsG := tb_mc 5 181 rfl rfl
set_option maxRecDepth 100000 in
theorem cw_X12_pour : qW (mQ 186) ∈ wsG := tb_mc 5 186 rfl rfl
set_option maxRecDepth 100000 in
theorem cw_X12_numberOf : qW (mQ 187) ∈ wsG := tb_mc 7 114 rfl rfl
set_option maxRecDepth 100000 in
theorem cw_X12_isTray : qW (mQ 188) ∈ wsG := tb_mc 6 220 rfl rfl
set_option maxRecDepth 100000 in
theorem cw_X12_isOf : qW (mQ 189) ∈ wsG := tb_mc 6 39 rfl rfl
set_option maxRecDepth 100000 in
theorem cw_X12_sizeOf : qW (mQ 190) ∈ wsG := tb_mc 6 160 rfl rfl
set_option maxRecDepth 100000 in
theorem cw_X12_look2 : qW (mQ 191) ∈ wsG := tb_mc 5 214 rfl rfl
set_option maxRecDepth 100000 in
theorem cw_X12_isLetter : qW (mQ 192) ∈ wsG := tb_mc 5 217 rfl rfl
set_option maxRecDepth 100000 in
theorem cw_X12_isDigit : qW (mQ 193) ∈ wsG := tb_mc 5 222 rfl rfl
set_option maxRecDepth 100000 in
theorem cw_X12_isSignByte : qW (mQ 194) ∈ wsG := tb_mc 5 226 rfl rfl
set_option maxRecDepth 100000 in
theorem cw_X12_advance : qW (mQ 195) ∈ wsG := tb_mc 5 210 rfl rfl
set_option maxRecDepth 100000 in
theorem cw_X12_isSign : qW (mQ 196) ∈ wsG := tb_mc 6 111 rfl rfl
set_option maxRecDepth 100000 in
theorem cw_X12_spelled : qW (mQ 197) ∈ wsG := tb_mc 5 237 rfl rfl
set_option maxRecDepth 100000 in
theorem cw_X12_isWord : qW (mQ 198) ∈ wsG := tb_mc 6 1 rfl rfl
set_option maxRecDepth 100000 in
theorem cw_X12_isOdds : qW (mQ 199) ∈ wsG := tb_mc 5 234 rfl rfl
set_option maxRecDepth 100000 in
theorem cw_X12_isStore : qW (mQ 200) ∈ wsG := tb_mc 6 32 rfl rfl
set_option maxRecDepth 100000 in
theorem cw_X12_isTimes : qW (mQ 201) ∈ wsG := tb_mc 6 43 rfl rfl
set_option maxRecDepth 100000 in
theorem cw_X12_isMan : qW (mQ 202) ∈ wsG := tb_mc 6 51 rfl rfl
set_option maxRecDepth 100000 in
theorem cw_X12_isDue : qW (mQ 203) ∈ wsG := tb_mc 6 67 rfl rfl
set_option maxRecDepth 100000 in
theorem cw_X12_isBy : qW (mQ 204) ∈ wsG := tb_mc 6 71 rfl rfl
set_option maxRecDepth 100000 in
theorem cw_X12_isHas : qW (mQ 205) ∈ wsG := tb_mc 6 75 rfl rfl
set_option maxRecDepth 100000 in
theorem cw_X12_isKnown : qW (mQ 206) ∈ wsG := tb_mc 6 79 rfl rfl
set_option maxRecDepth 100000 in
theorem cw_X12_stepWord : qW (mQ 207) ∈ wsG := tb_mc 6 83 rfl rfl
set_option maxRecDepth 100000 in
theorem cw_X12_testWord : qW (mQ 208) ∈ wsG := tb_mc 6 87 rfl rfl
set_option maxRecDepth 100000 in
theorem cw_X12_isEnd : qW (mQ 209) ∈ wsG := tb_mc 6 91 rfl rfl
set_option maxRecDepth 100000 in
theorem cw_X12_isKept : qW (mQ 210) ∈ wsG := tb_mc 6 63 rfl rfl
set_option maxRecDepth 100000 in
theorem cw_X12_isName : qW (mQ 211) ∈ wsG := tb_mc 6 59 rfl rfl
set_option maxRecDepth 100000 in
theorem cw_X12_fail : qW (mQ 212) ∈ wsG := tb_mc 6 9 rfl rfl
set_option maxRecDepth 100000 in
theorem cw_X12_amiss : qW (mQ 213) ∈ wsG := tb_mc 6 17 rfl rfl
set_option maxRecDepth 100000 in
theorem cw_X12_must : qW (mQ 214) ∈ wsG := tb_mc 6 13 rfl rfl
set_option maxRecDepth 100000 in
theorem cw_X12_mayBe : qW (mQ 215) ∈ wsG := tb_mc 6 25 rfl rfl
set_option maxRecDepth 100000 in
theorem cw_X12_count : qW (mQ 216) ∈ wsG := tb_mc 6 21 rfl rfl
set_option maxRecDepth 100000 in
theorem cw_X12_behindWord : qW (mQ 217) ∈ wsG := tb_mc 6 99 rfl rfl
set_option maxRecDepth 100000 in
theorem cw_X12_perhaps : qW (mQ 218) ∈ wsG := tb_mc 6 47 rfl rfl
set_option maxRecDepth 100000 in
theorem cw_X12_readSlices : qW (mQ 219) ∈ wsG := tb_mc 6 103 rfl rfl
set_option maxRecDepth 100000 in
theorem cw_X12_feed : qW (mQ 220) ∈ wsG := tb_mc 5 190 rfl rfl
set_option maxRecDepth 100000 in
theorem cw_X12_lay : qW (mQ 221) ∈ wsG := tb_mc 5 194 rfl rfl
set_option maxRecDepth 100000 in
theorem cw_X12_starts : qW (mQ 222) ∈ wsG := tb_mc 5 206 rfl rfl
set_option maxRecDepth 100000 in
theorem cw_X12_isWell : qW (mQ 223) ∈ wsG := tb_mc 6 115 rfl rfl
set_option maxRecDepth 100000 in
theorem cw_X12_fault : qW (mQ 224) ∈ wsG := tb_mc 5 198 rfl rfl
set_option maxRecDepth 100000 in
theorem cw_X12_empties : qW (mQ 225) ∈ wsG := tb_mc 4 233 rfl rfl
set_option maxRecDepth 100000 in
theorem cw_X12_named : qW (mQ 226) ∈ wsG := tb_mc 6 95 rfl rfl
set_option maxRecDepth 100000 in
theorem cw_X12_readTold : qW (mQ 227) ∈ wsG := tb_mc 6 135 rfl rfl
set_option maxRecDepth 100000 in
theorem cw_X12_readOdds : qW (mQ 228) ∈ wsG := tb_mc 6 5 rfl rfl
set_option maxRecDepth 100000 in
theorem cw_X12_readKnown : qW (mQ 229) ∈ wsG := tb_mc 6 107 rfl rfl
set_option maxRecDepth 100000 in
theorem cw_X12_readStore : qW (mQ 230) ∈ wsG := tb_mc 6 36 rfl rfl
set_option maxRecDepth 100000 in
theorem cw_X12_readMan : qW (mQ 231) ∈ wsG := tb_mc 6 55 rfl rfl
set_option maxRecDepth 100000 in
theorem cw_X12_readPart : qW (mQ 232) ∈ wsG := tb_mc 5 230 rfl rfl
set_option maxRecDepth 100000 in
theorem cw_X12_bakery : qW (mQ 233) ∈ wsG := tb_mc 5 202 rfl rfl
set_option maxRecDepth 100000 in
theorem cw_X12_readTest : qW (mQ 234) ∈ wsG := tb_mc 6 140 rfl rfl
set_option maxRecDepth 100000 in
theorem cw_X12_readRest : qW (mQ 235) ∈ wsG := tb_mc 6 131 rfl rfl
set_option maxRecDepth 100000 in
theorem cw_X12_readStep : qW (mQ 236) ∈ wsG := tb_mc 6 127 rfl rfl
set_option maxRecDepth 100000 in
theorem cw_X12_days : qW (mQ 237) ∈ wsG := tb_mc 6 123 rfl rfl
set_option maxRecDepth 100000 in
theorem cw_X12_isSlice : qW (mQ 238) ∈ wsG := tb_mc 6 185 rfl rfl
set_option maxRecDepth 100000 in
theorem cw_X12_isManAt : qW (mQ 239) ∈ wsG := tb_mc 6 194 rfl rfl
set_option maxRecDepth 100000 in
theorem cw_X12_partsOf : qW (mQ 240) ∈ wsG := tb_mc 6 178 rfl rfl
set_option maxRecDepth 100000 in
theorem cw_X12_shareOf : qW (mQ 241) ∈ wsG := tb_mc 6 171 rfl rfl
set_option maxRecDepth 100000 in
theorem cw_X12_isShare : qW (mQ 242) ∈ wsG := tb_mc 7 38 rfl rfl
set_option maxRecDepth 100000 in
theorem cw_X12_sumOf : qW (mQ 243) ∈ wsG := tb_mc 6 175 rfl rfl
set_option maxRecDepth 100000 in
theorem cw_X12_lackOf : qW (mQ 244) ∈ wsG := tb_mc 6 168 rfl rfl
set_option maxRecDepth 100000 in
theorem cw_X12_held : qW (mQ 245) ∈ wsG := tb_mc 6 153 rfl rfl
set_option maxRecDepth 100000 in
theorem cw_X12_heldSet : qW (mQ 246) ∈ wsG := tb_mc 6 157 rfl rfl
set_option maxRecDepth 100000 in
theorem cw_X12_evenOnes : qW (mQ 247) ∈ wsG := tb_mc 6 164 rfl rfl
set_option maxRecDepth 100000 in
theorem cw_X12_many : qW (mQ 248) ∈ wsG := tb_mc 6 144 rfl rfl
set_option maxRecDepth 100000 in
theorem cw_X12_store : qW (mQ 249) ∈ wsG := tb_mc 6 182 rfl rfl
set_option maxRecDepth 100000 in
theorem cw_X12_man : qW (mQ 250) ∈ wsG := tb_mc 6 190 rfl rfl
set_option maxRecDepth 100000 in
theorem cw_X12_has : qW (mQ 251) ∈ wsG := tb_mc 6 199 rfl rfl
set_option maxRecDepth 100000 in
theorem cw_X12_lacks : qW (mQ 252) ∈ wsG := tb_mc 6 208 rfl rfl
set_option maxRecDepth 100000 in
theorem cw_X12_worth : qW (mQ 253) ∈ wsG := tb_mc 6 212 rfl rfl
set_option maxRecDepth 100000 in
theorem cw_X12_copyStore : qW (mQ 254) ∈ wsG := tb_mc 6 216 rfl rfl
set_option maxRecDepth 100000 in
theorem cw_X12_areMore : qW (mQ 255) ∈ wsG := tb_mc 7 2 rfl rfl
set_option maxRecDepth 100000 in
theorem cw_X12_isOver : qW (mQ 256) ∈ wsG := tb_mc 6 230 rfl rfl
set_option maxRecDepth 100000 in
theorem cw_X12_cuts : qW (mQ 257) ∈ wsG := tb_mc 6 234 rfl rfl
set_option maxRecDepth 100000 in
theorem cw_X12_cut : qW (mQ 258) ∈ wsG := tb_mc 6 226 rfl rfl
set_option maxRecDepth 100000 in
theorem cw_X12_splits : qW (mQ 259) ∈ wsG := tb_mc 7 6 rfl rfl
set_option maxRecDepth 100000 in
theorem cw_X12_split : qW (mQ 260) ∈ wsG := tb_mc 6 238 rfl rfl
set_option maxRecDepth 100000 in
theorem cw_X12_bakes : qW (mQ 261) ∈ wsG := tb_mc 7 15 rfl rfl
set_option maxRecDepth 100000 in
theorem cw_X12_bake : qW (mQ 262) ∈ wsG := tb_mc 7 10 rfl rfl
set_option maxRecDepth 100000 in
theorem cw_X12_gives : qW (mQ 263) ∈ wsG := tb_mc 7 23 rfl rfl
set_option maxRecDepth 100000 in
theorem cw_X12_give : qW (mQ 264) ∈ wsG := tb_mc 7 19 rfl rfl
set_option maxRecDepth 100000 in
theorem cw_X12_takes : qW (mQ 265) ∈ wsG := tb_mc 7 31 rfl rfl
set_option maxRecDepth 100000 in
theorem cw_X12_take : qW (mQ 266) ∈ wsG := tb_mc 7 27 rfl rfl
set_option maxRecDepth 100000 in
theorem cw_X12_owe : qW (mQ 267) ∈ wsG := tb_mc 7 35 rfl rfl
set_option maxRecDepth 100000 in
theorem cw_X12_come : qW (mQ 268) ∈ wsG := tb_mc 7 42 rfl rfl
set_option maxRecDepth 100000 in
theorem cw_X12_learn : qW (mQ 269) ∈ wsG := tb_mc 7 46 rfl rfl
set_option maxRecDepth 100000 in
theorem cw_X12_rule : qW (mQ 270) ∈ wsG := tb_mc 7 50 rfl rfl
set_option maxRecDepth 100000 in
theorem cw_X12_rows : qW (mQ 271) ∈ wsG := tb_mc 7 67 rfl rfl
set_option maxRecDepth 100000 in
theorem cw_X12_laysRows : qW (mQ 272) ∈ wsG := tb_mc 7 63 rfl rfl
set_option maxRecDepth 100000 in
theorem cw_X12_fewestOf : qW (mQ 273) ∈ wsG := tb_mc 7 59 rfl rfl
set_option maxRecDepth 100000 in
theorem cw_X12_answer : qW (mQ 274) ∈ wsG := tb_mc 7 71 rfl rfl
set_option maxRecDepth 100000 in
theorem cw_X12_fewest : qW (mQ 275) ∈ wsG := tb_mc 7 55 rfl rfl
set_option maxRecDepth 100000 in
theorem cw_X12_fewestAt : qW (mQ 276) ∈ wsG := tb_mc 7 75 rfl rfl
set_option maxRecDepth 100000 in
theorem cw_X12_ways : qW (mQ 277) ∈ wsG := tb_mc 7 79 rfl rfl
set_option maxRecDepth 100000 in
theorem cw_X12_oddsThat : qW (mQ 278) ∈ wsG := tb_mc 7 84 rfl rfl
set_option maxRecDepth 100000 in
theorem cw_X12_ask : qW (mQ 279) ∈ wsG := tb_mc 7 88 rfl rfl
set_option maxRecDepth 100000 in
theorem cw_X12_kindestOf : qW (mQ 280) ∈ wsG := tb_mc 7 96 rfl rfl
set_option maxRecDepth 100000 in
theorem cw_X12_kindestAt : qW (mQ 281) ∈ wsG := tb_mc 7 92 rfl rfl
set_option maxRecDepth 100000 in
theorem cw_X12_greedyAt : qW (mQ 282) ∈ wsG := tb_mc 7 100 rfl rfl
set_option maxRecDepth 100000 in
theorem cw_X12_whyNoRow : qW (mQ 283) ∈ wsG := tb_mc 7 109 rfl rfl
set_option maxRecDepth 100000 in
theorem cw_X12_isRow : qW (mQ 284) ∈ wsG := tb_mc 7 122 rfl rfl
set_option maxRecDepth 100000 in
theorem cw_X12_laysSlips : qW (mQ 285) ∈ wsG := tb_mc 7 118 rfl rfl
set_option maxRecDepth 100000 in
theorem cw_X12_slips : qW (mQ 286) ∈ wsG := tb_mc 7 105 rfl rfl
set_option maxRecDepth 100000 in
theorem cw_X12_slipAt : qW (mQ 287) ∈ wsG := tb_mc 7 126 rfl rfl
set_option maxRecDepth 100000 in
theorem cw_X12_comesOf : qW (mQ 288) ∈ wsG := tb_mc 7 141 rfl rfl
set_option maxRecDepth 100000 in
theorem cw_X12_laysReach : qW (mQ 289) ∈ wsG := tb_mc 7 138 rfl rfl
set_option maxRecDepth 100000 in
theorem cw_X12_reachFrom : qW (mQ 290) ∈ wsG := tb_mc 7 134 rfl rfl
set_option maxRecDepth 100000 in
theorem cw_X12_reach : qW (mQ 291) ∈ wsG := tb_mc 7 130 rfl rfl
set_option maxRecDepth 100000 in
theorem cw_X12_reachAt : qW (mQ 292) ∈ wsG := tb_mc 7 145 rfl rfl
set_option maxRecDepth 100000 in
theorem cw_X12_fillOf : qW (mQ 293) ∈ wsG := tb_mc 7 153 rfl rfl
set_option maxRecDepth 100000 in
theorem cw_X12_fill : qW (mQ 294) ∈ wsG := tb_mc 7 149 rfl rfl
set_option maxRecDepth 100000 in
theorem cw_X12_fillAt : qW (mQ 295) ∈ wsG := tb_mc 7 157 rfl rfl
set_option maxRecDepth 100000 in
theorem cw_X12_isSet : qW (mQ 296) ∈ wsG := tb_mc 7 164 rfl rfl
set_option maxRecDepth 100000 in
theorem cw_X12_plate : qW (mQ 297) ∈ wsG := tb_mc 7 161 rfl rfl
set_option maxRecDepth 100000 in
theorem cw_X12_plateMove : qW (mQ 298) ∈ wsG := tb_mc 7 173 rfl rfl
set_option maxRecDepth 100000 in
theorem cw_X12_plates : qW (mQ 299) ∈ wsG := tb_mc 7 169 rfl rfl
set_option maxRecDepth 100000 in
theorem cw_X12_lucks : qW (mQ 300) ∈ wsG := tb_mc 7 182 rfl rfl
set_option maxRecDepth 100000 in
theorem cw_X12_choices : qW (mQ 301) ∈ wsG := tb_mc 7 185 rfl rfl
set_option maxRecDepth 100000 in
theorem cw_X12_luck : qW (mQ 302) ∈ wsG := tb_mc 7 177 rfl rfl
set_option maxRecDepth 100000 in
theorem cw_X12_burnt : qW (mQ 303) ∈ wsG := tb_mc 7 189 rfl rfl
set_option maxRecDepth 100000 in
theorem cw_X12_draw : qW (mQ 304) ∈ wsG := tb_mc 7 226 rfl rfl
set_option maxRecDepth 100000 in
theorem cw_X12_isGiven : qW (mQ 305) ∈ wsG := tb_mc 7 214 rfl rfl
set_option maxRecDepth 100000 in
theorem cw_X12_isBaked : qW (mQ 306) ∈ wsG := tb_mc 7 218 rfl rfl
set_option maxRecDepth 100000 in
theorem cw_X12_isAny : qW (mQ 307) ∈ wsG := tb_mc 7 222 rfl rfl
set_option maxRecDepth 100000 in
theorem cw_X12_does : qW (mQ 308) ∈ wsG := tb_mc 7 210 rfl rfl
set_option maxRecDepth 100000 in
theorem cw_X12_holds : qW (mQ 309) ∈ wsG := tb_mc 7 231 rfl rfl
set_option maxRecDepth 100000 in
theorem cw_X12_doOne : qW (mQ 310) ∈ wsG := tb_mc 7 206 rfl rfl
set_option maxRecDepth 100000 in
theorem cw_X12_doAll : qW (mQ 311) ∈ wsG := tb_mc 7 202 rfl rfl
set_option maxRecDepth 100000 in
theorem cw_X12_runsDays : qW (mQ 312) ∈ wsG := tb_mc 7 198 rfl rfl
set_option maxRecDepth 100000 in
theorem cw_X12_live : qW (mQ 313) ∈ wsG := tb_mc 7 193 rfl rfl
set_option maxRecDepth 100000 in
theorem cw_X12_lived : qW (mQ 314) ∈ wsG := tb_mc 7 235 rfl rfl
set_option maxRecDepth 100000 in
theorem cw_X12_mean : qW (mQ 315) ∈ wsG := tb_mc 8 0 rfl rfl
set_option maxRecDepth 100000 in
theorem cw_X12_copy : qW (mQ 316) ∈ wsG := tb_mc 6 119 rfl rfl
set_option maxRecDepth 100000 in
theorem cw_X12_mark : qW (mQ 317) ∈ wsG := tb_mc 8 5 rfl rfl
set_option maxRecDepth 100000 in
theorem cw_X12_back : qW (mQ 318) ∈ wsG := tb_mc 8 9 rfl rfl
set_option maxRecDepth 100000 in
theorem cw_J6_bitCount_0f7a4 : qW (mQ 319) ∈ wsG := tb_mc 3 34 rfl rfl
set_option maxRecDepth 100000 in
theorem cw_J7_fill_d0a16 : qW (mQ 320) ∈ wsG := tb_mc 2 30 rfl rfl
set_option maxRecDepth 100000 in
theorem cw_J7_fill_53178 : qW (mQ 321) ∈ wsG := tb_mc 2 124 rfl rfl
theorem cw_all : ∀ mi, mi < nMth → qW (mQ mi) ∈ wsG
  | 0, _ => cw_X0_init
  | 1, _ => cw_X0_forget
  | 2, _ => cw_X0_copyFrom
  | 3, _ => cw_X0_isMan
  | 4, _ => cw_X0_addMan
  | 5, _ => cw_X0_manNamed
  | 6, _ => cw_X0_pieces
  | 7, _ => cw_X0_stockSet
  | 8, _ => cw_X0_stockCrumbs
  | 9, _ => cw_X0_holding
  | 10, _ => cw_X0_allHoldings
  | 11, _ => cw_X0_lacking
  | 12, _ => cw_X0_evenMen
  | 13, _ => cw_X0_giftsFor
  | 14, _ => cw_X0_addLoaves
  | 15, _ => cw_X0_cutUp
  | 16, _ => cw_X0_stockAfterCut
  | 17, _ => cw_X0_splitUp
  | 18, _ => cw_X0_handOver
  | 19, _ => cw_X0_handBack
  | 20, _ => cw_X1_init
  | 21, _ => cw_X1_readInto
  | 22, _ => cw_X1_readOdds
  | 23, _ => cw_X1_readStore
  | 24, _ => cw_X1_readMan
  | 25, _ => cw_X1_readKnown
  | 26, _ => cw_X1_takeSlices
  | 27, _ => cw_X2_init
  | 28, _ => cw_X2_forget
  | 29, _ => cw_X2_copyFrom
  | 30, _ => cw_X2_add
  | 31, _ => cw_X2_pair
  | 32, _ => cw_X3_init
  | 33, _ => cw_X3_readInto
  | 34, _ => cw_X3_readEnd
  | 35, _ => cw_X3_readStep
  | 36, _ => cw_X3_readAct
  | 37, _ => cw_X3_readCut
  | 38, _ => cw_X3_readTest
  | 39, _ => cw_X3_takeMan
  | 40, _ => cw_X4_init
  | 41, _ => cw_X4_run
  | 42, _ => cw_X4_behindEnd
  | 43, _ => cw_X4_behindStep
  | 44, _ => cw_X4_holdsTrue
  | 45, _ => cw_X4_compares
  | 46, _ => cw_X4_act
  | 47, _ => cw_X4_doAny
  | 48, _ => cw_X4_cutUp
  | 49, _ => cw_X4_splitUp
  | 50, _ => cw_X4_handOver
  | 51, _ => cw_X4_addLoaves
  | 52, _ => cw_X4_draw
  | 53, _ => cw_X5_init
  | 54, _ => cw_X5_find
  | 55, _ => cw_X5_countSteps
  | 56, _ => cw_X5_follow
  | 57, _ => cw_X5_comesOf
  | 58, _ => cw_X6_init
  | 59, _ => cw_X6_hasRoom
  | 60, _ => cw_X6_append
  | 61, _ => cw_X6_open
  | 62, _ => cw_X6_advance
  | 63, _ => cw_X6_readWord
  | 64, _ => cw_X6_readNumber
  | 65, _ => cw_X6_wrong
  | 66, _ => cw_X6_misplaced
  | 67, _ => cw_X6_wrongTaken
  | 68, _ => cw_X6_takeAny
  | 69, _ => cw_X6_takeWord
  | 70, _ => cw_X6_takeSemicolon
  | 71, _ => cw_X6_takeCompares
  | 72, _ => cw_X6_takeNumber
  | 73, _ => cw_X6_takeName
  | 74, _ => cw_X7_init
  | 75, _ => cw_X7_begin
  | 76, _ => cw_X7_findFewest
  | 77, _ => cw_X7_findKindest
  | 78, _ => cw_X7_countAll
  | 79, _ => cw_X7_seekRowsOf
  | 80, _ => cw_X7_hasBest
  | 81, _ => cw_X7_bestQuestion
  | 82, _ => cw_X7_seek
  | 83, _ => cw_X7_putLast
  | 84, _ => cw_X7_meet
  | 85, _ => cw_X8_init
  | 86, _ => cw_X8_findAll
  | 87, _ => cw_X8_fixAt
  | 88, _ => cw_X9_init
  | 89, _ => cw_X9_lay
  | 90, _ => cw_X9_addSlice
  | 91, _ => cw_X9_firstWinning
  | 92, _ => cw_X9_winningPlace
  | 93, _ => cw_X9_countWithin
  | 94, _ => cw_X10_init
  | 95, _ => cw_X10_isMissing
  | 96, _ => cw_X10_lay
  | 97, _ => cw_X10_hasPlaces
  | 98, _ => cw_X10_put
  | 99, _ => cw_X11_init
  | 100, _ => cw_X11_status
  | 101, _ => cw_X11_top
  | 102, _ => cw_X11_bottom
  | 103, _ => cw_X11_tray
  | 104, _ => cw_X11_write
  | 105, _ => cw_X11_read
  | 106, _ => cw_X11_pour
  | 107, _ => cw_X11_feed
  | 108, _ => cw_X11_bakery
  | 109, _ => cw_X11_days
  | 110, _ => cw_X11_fault
  | 111, _ => cw_X11_many
  | 112, _ => cw_X11_store
  | 113, _ => cw_X11_man
  | 114, _ => cw_X11_has
  | 115, _ => cw_X11_lacks
  | 116, _ => cw_X11_worth
  | 117, _ => cw_X11_copyStore
  | 118, _ => cw_X11_bake
  | 119, _ => cw_X11_cut
  | 120, _ => cw_X11_split
  | 121, _ => cw_X11_give
  | 122, _ => cw_X11_take
  | 123, _ => cw_X11_owe
  | 124, _ => cw_X11_come
  | 125, _ => cw_X11_learn
  | 126, _ => cw_X11_rule
  | 127, _ => cw_X11_fewest
  | 128, _ => cw_X11_fewestAt
  | 129, _ => cw_X11_ways
  | 130, _ => cw_X11_oddsThat
  | 131, _ => cw_X11_ask
  | 132, _ => cw_X11_kindestAt
  | 133, _ => cw_X11_greedyAt
  | 134, _ => cw_X11_slips
  | 135, _ => cw_X11_slipAt
  | 136, _ => cw_X11_reach
  | 137, _ => cw_X11_reachAt
  | 138, _ => cw_X11_fill
  | 139, _ => cw_X11_fillAt
  | 140, _ => cw_X11_plate
  | 141, _ => cw_X11_plateMove
  | 142, _ => cw_X11_luck
  | 143, _ => cw_X11_burnt
  | 144, _ => cw_X11_live
  | 145, _ => cw_X11_lived
  | 146, _ => cw_X11_mean
  | 147, _ => cw_X11_mark
  | 148, _ => cw_X11_back
  | 149, _ => cw_X11_refuse
  | 150, _ => cw_X11_deny
  | 151, _ => cw_X11_answer
  | 152, _ => cw_X11_allow
  | 153, _ => cw_X11_answerSize
  | 154, _ => cw_X11_answerSlice
  | 155, _ => cw_X11_tell
  | 156, _ => cw_X11_trayStatus
  | 157, _ => cw_X11_placeStatus
  | 158, _ => cw_X11_placesStatus
  | 159, _ => cw_X11_slipStatus
  | 160, _ => cw_X11_isTray
  | 161, _ => cw_X11_isSlice
  | 162, _ => cw_X11_isShare
  | 163, _ => cw_X11_isRowSize
  | 164, _ => cw_X11_isPlateSet
  | 165, _ => cw_X11_bit
  | 166, _ => cw_X11_isIn
  | 167, _ => cw_X11_crumbs
  | 168, _ => cw_X11_commonDivisor
  | 169, _ => cw_X11_power
  | 170, _ => cw_X11_choices
  | 171, _ => cw_X11_greedyNumber
  | 172, _ => cw_X12_init
  | 173, _ => cw_X12_status
  | 174, _ => cw_X12_top
  | 175, _ => cw_X12_bottom
  | 176, _ => cw_X12_refuse
  | 177, _ => cw_X12_no
  | 178, _ => cw_X12_isIn
  | 179, _ => cw_X12_fraction
  | 180, _ => cw_X12_trims
  | 181, _ => cw_X12_tray
  | 182, _ => cw_X12_trayed
  | 183, _ => cw_X12_placed
  | 184, _ => cw_X12_write
  | 185, _ => cw_X12_read
  | 186, _ => cw_X12_pour
  | 187, _ => cw_X12_numberOf
  | 188, _ => cw_X12_isTray
  | 189, _ => cw_X12_isOf
  | 190, _ => cw_X12_sizeOf
  | 191, _ => cw_X12_look2
  | 192, _ => cw_X12_isLetter
  | 193, _ => cw_X12_isDigit
  | 194, _ => cw_X12_isSignByte
  | 195, _ => cw_X12_advance
  | 196, _ => cw_X12_isSign
  | 197, _ => cw_X12_spelled
  | 198, _ => cw_X12_isWord
  | 199, _ => cw_X12_isOdds
  | 200, _ => cw_X12_isStore
  | 201, _ => cw_X12_isTimes
  | 202, _ => cw_X12_isMan
  | 203, _ => cw_X12_isDue
  | 204, _ => cw_X12_isBy
  | 205, _ => cw_X12_isHas
  | 206, _ => cw_X12_isKnown
  | 207, _ => cw_X12_stepWord
  | 208, _ => cw_X12_testWord
  | 209, _ => cw_X12_isEnd
  | 210, _ => cw_X12_isKept
  | 211, _ => cw_X12_isName
  | 212, _ => cw_X12_fail
  | 213, _ => cw_X12_amiss
  | 214, _ => cw_X12_must
  | 215, _ => cw_X12_mayBe
  | 216, _ => cw_X12_count
  | 217, _ => cw_X12_behindWord
  | 218, _ => cw_X12_perhaps
  | 219, _ => cw_X12_readSlices
  | 220, _ => cw_X12_feed
  | 221, _ => cw_X12_lay
  | 222, _ => cw_X12_starts
  | 223, _ => cw_X12_isWell
  | 224, _ => cw_X12_fault
  | 225, _ => cw_X12_empties
  | 226, _ => cw_X12_named
  | 227, _ => cw_X12_readTold
  | 228, _ => cw_X12_readOdds
  | 229, _ => cw_X12_readKnown
  | 230, _ => cw_X12_readStore
  | 231, _ => cw_X12_readMan
  | 232, _ => cw_X12_readPart
  | 233, _ => cw_X12_bakery
  | 234, _ => cw_X12_readTest
  | 235, _ => cw_X12_readRest
  | 236, _ => cw_X12_readStep
  | 237, _ => cw_X12_days
  | 238, _ => cw_X12_isSlice
  | 239, _ => cw_X12_isManAt
  | 240, _ => cw_X12_partsOf
  | 241, _ => cw_X12_shareOf
  | 242, _ => cw_X12_isShare
  | 243, _ => cw_X12_sumOf
  | 244, _ => cw_X12_lackOf
  | 245, _ => cw_X12_held
  | 246, _ => cw_X12_heldSet
  | 247, _ => cw_X12_evenOnes
  | 248, _ => cw_X12_many
  | 249, _ => cw_X12_store
  | 250, _ => cw_X12_man
  | 251, _ => cw_X12_has
  | 252, _ => cw_X12_lacks
  | 253, _ => cw_X12_worth
  | 254, _ => cw_X12_copyStore
  | 255, _ => cw_X12_areMore
  | 256, _ => cw_X12_isOver
  | 257, _ => cw_X12_cuts
  | 258, _ => cw_X12_cut
  | 259, _ => cw_X12_splits
  | 260, _ => cw_X12_split
  | 261, _ => cw_X12_bakes
  | 262, _ => cw_X12_bake
  | 263, _ => cw_X12_gives
  | 264, _ => cw_X12_give
  | 265, _ => cw_X12_takes
  | 266, _ => cw_X12_take
  | 267, _ => cw_X12_owe
  | 268, _ => cw_X12_come
  | 269, _ => cw_X12_learn
  | 270, _ => cw_X12_rule
  | 271, _ => cw_X12_rows
  | 272, _ => cw_X12_laysRows
  | 273, _ => cw_X12_fewestOf
  | 274, _ => cw_X12_answer
  | 275, _ => cw_X12_fewest
  | 276, _ => cw_X12_fewestAt
  | 277, _ => cw_X12_ways
  | 278, _ => cw_X12_oddsThat
  | 279, _ => cw_X12_ask
  | 280, _ => cw_X12_kindestOf
  | 281, _ => cw_X12_kindestAt
  | 282, _ => cw_X12_greedyAt
  | 283, _ => cw_X12_whyNoRow
  | 284, _ => cw_X12_isRow
  | 285, _ => cw_X12_laysSlips
  | 286, _ => cw_X12_slips
  | 287, _ => cw_X12_slipAt
  | 288, _ => cw_X12_comesOf
  | 289, _ => cw_X12_laysReach
  | 290, _ => cw_X12_reachFrom
  | 291, _ => cw_X12_reach
  | 292, _ => cw_X12_reachAt
  | 293, _ => cw_X12_fillOf
  | 294, _ => cw_X12_fill
  | 295, _ => cw_X12_fillAt
  | 296, _ => cw_X12_isSet
  | 297, _ => cw_X12_plate
  | 298, _ => cw_X12_plateMove
  | 299, _ => cw_X12_plates
  | 300, _ => cw_X12_lucks
  | 301, _ => cw_X12_choices
  | 302, _ => cw_X12_luck
  | 303, _ => cw_X12_burnt
  | 304, _ => cw_X12_draw
  | 305, _ => cw_X12_isGiven
  | 306, _ => cw_X12_isBaked
  | 307, _ => cw_X12_isAny
  | 308, _ => cw_X12_does
  | 309, _ => cw_X12_holds
  | 310, _ => cw_X12_doOne
  | 311, _ => cw_X12_doAll
  | 312, _ => cw_X12_runsDays
  | 313, _ => cw_X12_live
  | 314, _ => cw_X12_lived
  | 315, _ => cw_X12_mean
  | 316, _ => cw_X12_copy
  | 317, _ => cw_X12_mark
  | 318, _ => cw_X12_back
  | 319, _ => cw_J6_bitCount_0f7a4
  | 320, _ => cw_J7_fill_d0a16
  | 321, _ => cw_J7_fill_53178
  | k + 322, h => absurd (show k + 322 < 322 from h) (by omega)
set_option maxRecDepth 100000 in
theorem cw_obj : Cond.code objectInit ⟨#[0xb1]⟩ 1 none ∈ wsG := tb_mc 0 29 rfl rfl
set_option maxRecDepth 100000 in
theorem cw_max : Cond.code Lib.Math.max.name Lib.Math.max.code 2 (some .int) ∈ wsG := tb_mc 2 101 rfl rfl
set_option maxRecDepth 100000 in
theorem cw_min : Cond.code Lib.Math.min.name Lib.Math.min.code 2 (some .int) ∈ wsG := tb_mc 2 98 rfl rfl
set_option maxRecDepth 100000 in
theorem cw_abs : Cond.code Lib.MathLoose.abs_long.x Lib.MathLoose.abs_long.code 2 (some .long) ∈ wsG := tb_mc 3 76 rfl rfl
theorem clw_0 : ∀ w ∈ u_ws RX0 TX0 9, w ∈ wsG := tb_list [324, 326, 328, 330, 332, 334, 336, 338, 340] (by decide +kernel) (by decide +kernel)
theorem clw_1 : ∀ w ∈ u_ws RX1 TX1 3, w ∈ wsG := tb_list [271, 273, 275] (by decide +kernel) (by decide +kernel)
theorem clw_2 : ∀ w ∈ u_ws RX2 TX2 8, w ∈ wsG := tb_list [368, 370, 372, 374, 376, 378, 380, 382] (by decide +kernel) (by decide +kernel)
theorem clw_3 : ∀ w ∈ u_ws RX3 TX3 2, w ∈ wsG := tb_list [286, 288] (by decide +kernel) (by decide +kernel)
theorem clw_4 : ∀ w ∈ u_ws RX4 TX4 9, w ∈ wsG := tb_list [502, 504, 506, 508, 510, 512, 514, 516, 518] (by decide +kernel) (by decide +kernel)
theorem clw_5 : ∀ w ∈ u_ws RX5 TX5 3, w ∈ wsG := tb_list [452, 454, 456] (by decide +kernel) (by decide +kernel)
theorem clw_6 : ∀ w ∈ u_ws RX6 TX6 14, w ∈ wsG := tb_list [231, 233, 235, 237, 239, 241, 243, 245, 247, 249, 251, 253, 255, 257] (by decide +kernel) (by decide +kernel)
theorem clw_7 : ∀ w ∈ u_ws RX7 TX7 8, w ∈ wsG := tb_list [405, 407, 409, 411, 413, 415, 417, 419] (by decide +kernel) (by decide +kernel)
theorem clw_8 : ∀ w ∈ u_ws RX8 TX8 3, w ∈ wsG := tb_list [434, 436, 438] (by decide +kernel) (by decide +kernel)
theorem clw_9 : ∀ w ∈ u_ws RX9 TX9 4, w ∈ wsG := tb_list [471, 473, 475, 477] (by decide +kernel) (by decide +kernel)
theorem clw_10 : ∀ w ∈ u_ws RX10 TX10 3, w ∈ wsG := tb_list [533, 535, 537] (by decide +kernel) (by decide +kernel)
theorem clw_11 : ∀ w ∈ u_ws RX11 TX11 20, w ∈ wsG := tb_list [560, 562, 564, 566, 568, 570, 572, 574, 576, 578, 580, 582, 584, 586, 588, 590, 592, 594, 596, 598] (by decide +kernel) (by decide +kernel)
theorem clw_12 : ∀ w ∈ u_ws RX12 TX12 49, w ∈ wsG := tb_list [1364, 1366, 1368, 1370, 1372, 1374, 1376, 1378, 1380, 1382, 1384, 1386, 1388, 1390, 1392, 1394, 1396, 1398, 1400, 1402, 1404, 1406, 1408, 1410, 1412, 1414, 1416, 1418, 1420, 1422, 1424, 1426, 1428, 1430, 1432, 1434, 1436, 1438, 1440, 1442, 1444, 1446, 1448, 1450, 1452, 1454, 1456, 1458, 1460] (by decide +kernel) (by decide +kernel)
