set_option maxRecDepth 100000 in
theorem cw_X11_mean : qW (mQ 146) ∈ wsG := tb_mc 4 201 rfl rfl
set_option maxRecDepth 100000 in
theorem cw_X11_mark : qW (mQ 147) ∈ wsG := tb_mc 4 214 rfl rfl
set_option maxRecDepth 100000 in
theorem cw_X11_back : qW (mQ 148) ∈ wsG := tb_mc 4 223 rfl rfl
set_option maxRecDepth 100000 in
theorem cw_X11_refuse : qW (mQ 149) ∈ wsG := tb_mc 2 67 rfl rfl
set_option maxRecDepth 100000 in
theorem cw_X11_deny : qW (mQ 150) ∈ wsG := tb_mc 2 23 rfl rfl
set_option maxRecDepth 100000 in
theorem cw_X11_answer : qW (mQ 151) ∈ wsG := tb_mc 2 206 rfl rfl
set_option maxRecDepth 100000 in
theorem cw_X11_allow : qW (mQ 152) ∈ wsG := tb_mc 2 34 rfl rfl
set_option maxRecDepth 100000 in
theorem cw_X11_answerSize : qW (mQ 153) ∈ wsG := tb_mc 3 207 rfl rfl
set_option maxRecDepth 100000 in
theorem cw_X11_answerSlice : qW (mQ 154) ∈ wsG := tb_mc 3 215 rfl rfl
set_option maxRecDepth 100000 in
theorem cw_X11_tell : qW (mQ 155) ∈ wsG := tb_mc 3 73 rfl rfl
set_option maxRecDepth 100000 in
theorem cw_X11_trayStatus : qW (mQ 156) ∈ wsG := tb_mc 2 46 rfl rfl
set_option maxRecDepth 100000 in
theorem cw_X11_placeStatus : qW (mQ 157) ∈ wsG := tb_mc 2 42 rfl rfl
set_option maxRecDepth 100000 in
theorem cw_X11_placesStatus : qW (mQ 158) ∈ wsG := tb_mc 3 100 rfl rfl
set_option maxRecDepth 100000 in
theorem cw_X11_slipStatus : qW (mQ 159) ∈ wsG := tb_mc 4 27 rfl rfl
set_option maxRecDepth 100000 in
theorem cw_X11_isTray : qW (mQ 160) ∈ wsG := tb_mc 2 19 rfl rfl
set_option maxRecDepth 100000 in
theorem cw_X11_isSlice : qW (mQ 161) ∈ wsG := tb_mc 2 161 rfl rfl
set_option maxRecDepth 100000 in
theorem cw_X11_isShare : qW (mQ 162) ∈ wsG := tb_mc 3 153 rfl rfl
set_option maxRecDepth 100000 in
theorem cw_X11_isRowSize : qW (mQ 163) ∈ wsG := tb_mc 3 226 rfl rfl
set_option maxRecDepth 100000 in
theorem cw_X11_isPlateSet : qW (mQ 164) ∈ wsG := tb_mc 4 89 rfl rfl
set_option maxRecDepth 100000 in
theorem cw_X11_bit : qW (mQ 165) ∈ wsG := tb_mc 2 167 rfl rfl
set_option maxRecDepth 100000 in
theorem cw_X11_isIn : qW (mQ 166) ∈ wsG := tb_mc 2 164 rfl rfl
set_option maxRecDepth 100000 in
theorem cw_X11_crumbs : qW (mQ 167) ∈ wsG := tb_mc 3 48 rfl rfl
set_option maxRecDepth 100000 in
theorem cw_X11_commonDivisor : qW (mQ 168) ∈ wsG := tb_mc 3 79 rfl rfl
set_option maxRecDepth 100000 in
theorem cw_X11_power : qW (mQ 169) ∈ wsG := tb_mc 4 132 rfl rfl
set_option maxRecDepth 100000 in
theorem cw_X11_choices : qW (mQ 170) ∈ wsG := tb_mc 4 125 rfl rfl
set_option maxRecDepth 100000 in
theorem cw_X11_greedyNumber : qW (mQ 171) ∈ wsG := tb_mc 4 18 rfl rfl
set_option maxRecDepth 100000 in
theorem cw_X12_init : qW (mQ 172) ∈ wsG := tb_mc 4 228 rfl rfl
set_option maxRecDepth 100000 in
theorem cw_X12_status : qW (mQ 173) ∈ wsG := tb_mc 5 146 rfl rfl
set_option maxRecDepth 100000 in
theorem cw_X12_top : qW (mQ 174) ∈ wsG := tb_mc 5 150 rfl rfl
set_option maxRecDepth 100000 in
theorem cw_X12_bottom : qW (mQ 175) ∈ wsG := tb_mc 5 154 rfl rfl
set_option maxRecDepth 100000 in
theorem cw_X12_refuse : qW (mQ 176) ∈ wsG := tb_mc 6 149 rfl rfl
set_option maxRecDepth 100000 in
theorem cw_X12_no : qW (mQ 177) ∈ wsG := tb_mc 5 162 rfl rfl
set_option maxRecDepth 100000 in
theorem cw_X12_isIn : qW (mQ 178) ∈ wsG := tb_mc 6 28 rfl rfl
set_option maxRecDepth 100000 in
theorem cw_X12_fraction : qW (mQ 179) ∈ wsG := tb_mc 6 203 rfl rfl
set_option maxRecDepth 100000 in
theorem cw_X12_trims : qW (mQ 180) ∈ wsG := tb_mc 5 177 rfl rfl
set_option maxRecDepth 100000 in
theorem cw_X12_tray : qW (mQ 181) ∈ wsG := tb_mc 5 158 rfl rfl
set_option maxRecDepth 100000 in
theorem cw_X12_trayed : qW (mQ 182) ∈ wsG := tb_mc 5 174 rfl rfl
set_option maxRecDepth 100000 in
theorem cw_X12_placed : qW (mQ 183) ∈ wsG := tb_mc 5 170 rfl rfl
set_option maxRecDepth 100000 in
theorem cw_X12_write : qW (mQ 184) ∈ wsG := tb_mc 5 166 rfl rfl
set_option maxRecDepth 100000 in
theorem cw_X12_read : qW (mQ 185) ∈ wsG := tb_mc 5 181 rfl rfl
set_option maxRecDepth 100000 in
theorem cw_X12_pour : qW (mQ 186) ∈ wsG := tb_mc 5 186 rfl rfl
set_option maxRecDepth 100000 in
theorem cw_X12_numberOf : qW (mQ 187) ∈ wsG := tb_mc 7 114 rfl rfl
set_option maxRecDepth 100000 in
theorem cw_X12_isTray : qW (mQ 188) ∈ wsG := tb_mc 6 220 rfl rfl
set_option maxRecDepth 100000 in
theorem cw_X12_isOf : qW (mQ 189) ∈ wsG := tb_mc 6 39 rfl rfl
set_option maxRecDepth 100000 in
theorem cw_X12_sizeOf : qW (mQ 190) ∈ wsG := tb_mc 6 160 rfl rfl
set_option maxRecDepth 100000 in
theorem cw_X12_look2 : qW (mQ 191) ∈ wsG := tb_mc 5 214 rfl rfl
set_option maxRecDepth 100000 in
theorem cw_X12_isLetter : qW (mQ 192) ∈ wsG := tb_mc 5 217 rfl rfl
set_option maxRecDepth 100000 in
theorem cw_X12_isDigit : qW (mQ 193) ∈ wsG := tb_mc 5 222 rfl rfl
set_option maxRecDepth 100000 in
theorem cw_X12_isSignByte : qW (mQ 194) ∈ wsG := tb_mc 5 226 rfl rfl
set_option maxRecDepth 100000 in
theorem cw_X12_advance : qW (mQ 195) ∈ wsG := tb_mc 5 210 rfl rfl
set_option maxRecDepth 100000 in
theorem cw_X12_isSign : qW (mQ 196) ∈ wsG := tb_mc 6 111 rfl rfl
set_option maxRecDepth 100000 in
theorem cw_X12_spelled : qW (mQ 197) ∈ wsG := tb_mc 5 237 rfl rfl
set_option maxRecDepth 100000 in
theorem cw_X12_isWord : qW (mQ 198) ∈ wsG := tb_mc 6 1 rfl rfl
set_option maxRecDepth 100000 in
theorem cw_X12_isOdds : qW (mQ 199) ∈ wsG := tb_mc 5 234 rfl rfl
set_option maxRecDepth 100000 in
theorem cw_X12_isStore : qW (mQ 200) ∈ wsG := tb_mc 6 32 rfl rfl
set_option maxRecDepth 100000 in
theorem cw_X12_isTimes : qW (mQ 201) ∈ wsG := tb_mc 6 43 rfl rfl
set_option maxRecDepth 100000 in
theorem cw_X12_isMan : qW (mQ 202) ∈ wsG := tb_mc 6 51 rfl rfl
set_option maxRecDepth 100000 in
theorem cw_X12_isDue : qW (mQ 203) ∈ wsG := tb_mc 6 67 rfl rfl
set_option maxRecDepth 100000 in
theorem cw_X12_isBy : qW (mQ 204) ∈ wsG := tb_mc 6 71 rfl rfl
set_option maxRecDepth 100000 in
theorem cw_X12_isHas : qW (mQ 205) ∈ wsG := tb_mc 6 75 rfl rfl
set_option maxRecDepth 100000 in
theorem cw_X12_isKnown : qW (mQ 206) ∈ wsG := tb_mc 6 79 rfl rfl
set_option maxRecDepth 100000 in
theorem cw_X12_stepWord : qW (mQ 207) ∈ wsG := tb_mc 6 83 rfl rfl
set_option maxRecDepth 100000 in
theorem cw_X12_testWord : qW (mQ 208) ∈ wsG := tb_mc 6 87 rfl rfl
set_option maxRecDepth 100000 in
theorem cw_X12_isEnd : qW (mQ 209) ∈ wsG := tb_mc 6 91 rfl rfl
set_option maxRecDepth 100000 in
theorem cw_X12_isKept : qW (mQ 210) ∈ wsG := tb_mc 6 63 rfl rfl
set_option maxRecDepth 100000 in
theorem cw_X12_isName : qW (mQ 211) ∈ wsG := tb_mc 6 59 rfl rfl
set_option maxRecDepth 100000 in
theorem cw_X12_fail : qW (mQ 212) ∈ wsG := tb_mc 6 9 rfl rfl
set_option maxRecDepth 100000 in
theorem cw_X12_amiss : qW (mQ 213) ∈ wsG := tb_mc 6 17 rfl rfl
set_option maxRecDepth 100000 in
theorem cw_X12_must : qW (mQ 214) ∈ wsG := tb_mc 6 13 rfl rfl
set_option maxRecDepth 100000 in
theorem cw_X12_mayBe : qW (mQ 215) ∈ wsG := tb_mc 6 25 rfl rfl
set_option maxRecDepth 100000 in
theorem cw_X12_count : qW (mQ 216) ∈ wsG := tb_mc 6 21 rfl rfl
set_option maxRecDepth 100000 in
theorem cw_X12_behindWord : qW (mQ 217) ∈ wsG := tb_mc 6 99 rfl rfl
set_option maxRecDepth 100000 in
theorem cw_X12_perhaps : qW (mQ 218) ∈ wsG := tb_mc 6 47 rfl rfl
set_option maxRecDepth 100000 in
theorem cw_X12_readSlices : qW (mQ 219) ∈ wsG := tb_mc 6 103 rfl rfl
set_option maxRecDepth 100000 in
theorem cw_X12_feed : qW (mQ 220) ∈ wsG := tb_mc 5 190 rfl rfl
