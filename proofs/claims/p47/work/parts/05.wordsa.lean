/-! printed by chk.py: words of the tables by their places -/
theorem tb_mem {w : Cond} (i : Nat) (h : tbF i = some w) (g : goodWord w = true) : w ∈ wsG := wsG_in (tbF_in h) g
theorem tb_mc {w : Cond} (c j : Nat) (h : (tbC c)[j]? = some w) (g : goodWord w = true) : w ∈ wsG := wsG_in (List.mem_append_right _ (tb_in c j h)) g
theorem tb_list {ws : List Cond} (ps : List Nat) (h : ws = ps.filterMap tbF) (g : ws.all goodWord = true) : ∀ w ∈ ws, w ∈ wsG := by
  intro w hw
  have h2 := List.all_eq_true.mp g w hw
  rw [h] at hw
  obtain ⟨i, -, hi⟩ := List.mem_filterMap.mp hw
  exact tb_mem i hi h2
set_option maxRecDepth 100000 in
theorem cw_X0_init : qW (mQ 0) ∈ wsG := tb_mc 0 176 rfl rfl
set_option maxRecDepth 100000 in
theorem cw_X0_forget : qW (mQ 1) ∈ wsG := tb_mc 2 121 rfl rfl
set_option maxRecDepth 100000 in
theorem cw_X0_copyFrom : qW (mQ 2) ∈ wsG := tb_mc 4 205 rfl rfl
set_option maxRecDepth 100000 in
theorem cw_X0_isMan : qW (mQ 3) ∈ wsG := tb_mc 2 190 rfl rfl
set_option maxRecDepth 100000 in
theorem cw_X0_addMan : qW (mQ 4) ∈ wsG := tb_mc 2 186 rfl rfl
set_option maxRecDepth 100000 in
theorem cw_X0_manNamed : qW (mQ 5) ∈ wsG := tb_mc 2 178 rfl rfl
set_option maxRecDepth 100000 in
theorem cw_X0_pieces : qW (mQ 6) ∈ wsG := tb_mc 3 26 rfl rfl
set_option maxRecDepth 100000 in
theorem cw_X0_stockSet : qW (mQ 7) ∈ wsG := tb_mc 3 30 rfl rfl
set_option maxRecDepth 100000 in
theorem cw_X0_stockCrumbs : qW (mQ 8) ∈ wsG := tb_mc 3 92 rfl rfl
set_option maxRecDepth 100000 in
theorem cw_X0_holding : qW (mQ 9) ∈ wsG := tb_mc 3 53 rfl rfl
set_option maxRecDepth 100000 in
theorem cw_X0_allHoldings : qW (mQ 10) ∈ wsG := tb_mc 4 210 rfl rfl
set_option maxRecDepth 100000 in
theorem cw_X0_lacking : qW (mQ 11) ∈ wsG := tb_mc 3 45 rfl rfl
set_option maxRecDepth 100000 in
theorem cw_X0_evenMen : qW (mQ 12) ∈ wsG := tb_mc 3 41 rfl rfl
set_option maxRecDepth 100000 in
theorem cw_X0_giftsFor : qW (mQ 13) ∈ wsG := tb_mc 4 77 rfl rfl
set_option maxRecDepth 100000 in
theorem cw_X0_addLoaves : qW (mQ 14) ∈ wsG := tb_mc 3 108 rfl rfl
set_option maxRecDepth 100000 in
theorem cw_X0_cutUp : qW (mQ 15) ∈ wsG := tb_mc 3 116 rfl rfl
set_option maxRecDepth 100000 in
theorem cw_X0_stockAfterCut : qW (mQ 16) ∈ wsG := tb_mc 3 121 rfl rfl
set_option maxRecDepth 100000 in
theorem cw_X0_splitUp : qW (mQ 17) ∈ wsG := tb_mc 3 129 rfl rfl
set_option maxRecDepth 100000 in
theorem cw_X0_handOver : qW (mQ 18) ∈ wsG := tb_mc 3 137 rfl rfl
set_option maxRecDepth 100000 in
theorem cw_X0_handBack : qW (mQ 19) ∈ wsG := tb_mc 3 146 rfl rfl
set_option maxRecDepth 100000 in
theorem cw_X1_init : qW (mQ 20) ∈ wsG := tb_mc 0 146 rfl rfl
set_option maxRecDepth 100000 in
theorem cw_X1_readInto : qW (mQ 21) ∈ wsG := tb_mc 2 117 rfl rfl
set_option maxRecDepth 100000 in
theorem cw_X1_readOdds : qW (mQ 22) ∈ wsG := tb_mc 2 128 rfl rfl
set_option maxRecDepth 100000 in
theorem cw_X1_readStore : qW (mQ 23) ∈ wsG := tb_mc 2 158 rfl rfl
set_option maxRecDepth 100000 in
theorem cw_X1_readMan : qW (mQ 24) ∈ wsG := tb_mc 2 170 rfl rfl
set_option maxRecDepth 100000 in
theorem cw_X1_readKnown : qW (mQ 25) ∈ wsG := tb_mc 2 197 rfl rfl
set_option maxRecDepth 100000 in
theorem cw_X1_takeSlices : qW (mQ 26) ∈ wsG := tb_mc 2 193 rfl rfl
set_option maxRecDepth 100000 in
theorem cw_X2_init : qW (mQ 27) ∈ wsG := tb_mc 0 227 rfl rfl
set_option maxRecDepth 100000 in
theorem cw_X2_forget : qW (mQ 28) ∈ wsG := tb_mc 2 202 rfl rfl
set_option maxRecDepth 100000 in
theorem cw_X2_copyFrom : qW (mQ 29) ∈ wsG := tb_mc 4 218 rfl rfl
set_option maxRecDepth 100000 in
theorem cw_X2_add : qW (mQ 30) ∈ wsG := tb_mc 2 225 rfl rfl
set_option maxRecDepth 100000 in
theorem cw_X2_pair : qW (mQ 31) ∈ wsG := tb_mc 2 229 rfl rfl
set_option maxRecDepth 100000 in
theorem cw_X3_init : qW (mQ 32) ∈ wsG := tb_mc 0 162 rfl rfl
set_option maxRecDepth 100000 in
theorem cw_X3_readInto : qW (mQ 33) ∈ wsG := tb_mc 2 214 rfl rfl
set_option maxRecDepth 100000 in
theorem cw_X3_readEnd : qW (mQ 34) ∈ wsG := tb_mc 2 219 rfl rfl
set_option maxRecDepth 100000 in
theorem cw_X3_readStep : qW (mQ 35) ∈ wsG := tb_mc 2 234 rfl rfl
set_option maxRecDepth 100000 in
theorem cw_X3_readAct : qW (mQ 36) ∈ wsG := tb_mc 3 11 rfl rfl
set_option maxRecDepth 100000 in
theorem cw_X3_readCut : qW (mQ 37) ∈ wsG := tb_mc 3 14 rfl rfl
set_option maxRecDepth 100000 in
theorem cw_X3_readTest : qW (mQ 38) ∈ wsG := tb_mc 2 238 rfl rfl
set_option maxRecDepth 100000 in
theorem cw_X3_takeMan : qW (mQ 39) ∈ wsG := tb_mc 3 2 rfl rfl
set_option maxRecDepth 100000 in
theorem cw_X4_init : qW (mQ 40) ∈ wsG := tb_mc 1 124 rfl rfl
set_option maxRecDepth 100000 in
theorem cw_X4_run : qW (mQ 41) ∈ wsG := tb_mc 4 140 rfl rfl
set_option maxRecDepth 100000 in
theorem cw_X4_behindEnd : qW (mQ 42) ∈ wsG := tb_mc 4 145 rfl rfl
set_option maxRecDepth 100000 in
theorem cw_X4_behindStep : qW (mQ 43) ∈ wsG := tb_mc 4 149 rfl rfl
set_option maxRecDepth 100000 in
theorem cw_X4_holdsTrue : qW (mQ 44) ∈ wsG := tb_mc 4 152 rfl rfl
set_option maxRecDepth 100000 in
theorem cw_X4_compares : qW (mQ 45) ∈ wsG := tb_mc 4 158 rfl rfl
set_option maxRecDepth 100000 in
theorem cw_X4_act : qW (mQ 46) ∈ wsG := tb_mc 4 182 rfl rfl
set_option maxRecDepth 100000 in
theorem cw_X4_doAny : qW (mQ 47) ∈ wsG := tb_mc 4 163 rfl rfl
set_option maxRecDepth 100000 in
theorem cw_X4_cutUp : qW (mQ 48) ∈ wsG := tb_mc 4 186 rfl rfl
set_option maxRecDepth 100000 in
theorem cw_X4_splitUp : qW (mQ 49) ∈ wsG := tb_mc 4 172 rfl rfl
set_option maxRecDepth 100000 in
theorem cw_X4_handOver : qW (mQ 50) ∈ wsG := tb_mc 4 177 rfl rfl
set_option maxRecDepth 100000 in
theorem cw_X4_addLoaves : qW (mQ 51) ∈ wsG := tb_mc 4 192 rfl rfl
set_option maxRecDepth 100000 in
theorem cw_X4_draw : qW (mQ 52) ∈ wsG := tb_mc 4 167 rfl rfl
set_option maxRecDepth 100000 in
theorem cw_X5_init : qW (mQ 53) ∈ wsG := tb_mc 1 85 rfl rfl
set_option maxRecDepth 100000 in
theorem cw_X5_find : qW (mQ 54) ∈ wsG := tb_mc 4 52 rfl rfl
set_option maxRecDepth 100000 in
theorem cw_X5_countSteps : qW (mQ 55) ∈ wsG := tb_mc 4 56 rfl rfl
set_option maxRecDepth 100000 in
theorem cw_X5_follow : qW (mQ 56) ∈ wsG := tb_mc 4 65 rfl rfl
set_option maxRecDepth 100000 in
theorem cw_X5_comesOf : qW (mQ 57) ∈ wsG := tb_mc 4 59 rfl rfl
set_option maxRecDepth 100000 in
theorem cw_X6_init : qW (mQ 58) ∈ wsG := tb_mc 0 36 rfl rfl
set_option maxRecDepth 100000 in
theorem cw_X6_hasRoom : qW (mQ 59) ∈ wsG := tb_mc 2 82 rfl rfl
set_option maxRecDepth 100000 in
theorem cw_X6_append : qW (mQ 60) ∈ wsG := tb_mc 2 86 rfl rfl
set_option maxRecDepth 100000 in
theorem cw_X6_open : qW (mQ 61) ∈ wsG := tb_mc 2 95 rfl rfl
set_option maxRecDepth 100000 in
theorem cw_X6_advance : qW (mQ 62) ∈ wsG := tb_mc 2 105 rfl rfl
set_option maxRecDepth 100000 in
theorem cw_X6_readWord : qW (mQ 63) ∈ wsG := tb_mc 2 109 rfl rfl
set_option maxRecDepth 100000 in
theorem cw_X6_readNumber : qW (mQ 64) ∈ wsG := tb_mc 2 113 rfl rfl
set_option maxRecDepth 100000 in
theorem cw_X6_wrong : qW (mQ 65) ∈ wsG := tb_mc 2 140 rfl rfl
set_option maxRecDepth 100000 in
theorem cw_X6_misplaced : qW (mQ 66) ∈ wsG := tb_mc 2 148 rfl rfl
set_option maxRecDepth 100000 in
theorem cw_X6_wrongTaken : qW (mQ 67) ∈ wsG := tb_mc 2 136 rfl rfl
set_option maxRecDepth 100000 in
theorem cw_X6_takeAny : qW (mQ 68) ∈ wsG := tb_mc 2 132 rfl rfl
set_option maxRecDepth 100000 in
theorem cw_X6_takeWord : qW (mQ 69) ∈ wsG := tb_mc 2 182 rfl rfl
