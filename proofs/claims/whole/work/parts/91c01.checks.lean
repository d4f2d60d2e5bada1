/-! each method passes the check -/
theorem wX3_init : mx_cw mX3_init ∈ mx_Ts := mx_inTs 2 30 rfl rfl
set_option maxRecDepth 100000 in
theorem kX3_init : mx_okX (mX3_init, bX3_init, [(2, 30), (1, 8), (2, 29), (0, 0)]) = true := by decide +kernel
theorem wX3_hasRoom : mx_cw mX3_hasRoom ∈ mx_Ts := mx_inTs 4 176 rfl rfl
set_option maxRecDepth 100000 in
theorem kX3_hasRoom : mx_okX (mX3_hasRoom, bX3_hasRoom, [(4, 176), (1, 8), (4, 174), (4, 175)]) = true := by decide +kernel
theorem wX3_addText : mx_cw mX3_addText ∈ mx_Ts := mx_inTs 5 153 rfl rfl
set_option maxRecDepth 100000 in
theorem kX3_addText : mx_okX (mX3_addText, bX3_addText, [(5, 153), (1, 8), (5, 151), (5, 152)]) = true := by decide +kernel
theorem wX3_stands : mx_cw mX3_stands ∈ mx_Ts := mx_inTs 5 169 rfl rfl
set_option maxRecDepth 100000 in
theorem kX3_stands : mx_okX (mX3_stands, bX3_stands, [(5, 169), (1, 8), (5, 168), (0, 26)]) = true := by decide +kernel
theorem wX3_countLines : mx_cw mX3_countLines ∈ mx_Ts := mx_inTs 5 165 rfl rfl
set_option maxRecDepth 100000 in
theorem kX3_countLines : mx_okX (mX3_countLines, bX3_countLines, [(5, 165), (1, 8), (5, 163), (5, 164)]) = true := by decide +kernel
theorem wX3_isVoid : mx_cw mX3_isVoid ∈ mx_Ts := mx_inTs 5 176 rfl rfl
set_option maxRecDepth 100000 in
theorem kX3_isVoid : mx_okX (mX3_isVoid, bX3_isVoid, [(5, 176), (1, 8), (5, 175), (0, 27)]) = true := by decide +kernel
theorem wX3_noteVoid : mx_cw mX3_noteVoid ∈ mx_Ts := mx_inTs 5 180 rfl rfl
set_option maxRecDepth 100000 in
theorem kX3_noteVoid : mx_okX (mX3_noteVoid, bX3_noteVoid, [(5, 180), (1, 8), (5, 179), (0, 28)]) = true := by decide +kernel
theorem wX3_ask : mx_cw mX3_ask ∈ mx_Ts := mx_inTs 5 191 rfl rfl
set_option maxRecDepth 100000 in
theorem kX3_ask : mx_okX (mX3_ask, bX3_ask, [(5, 191), (1, 8), (5, 189), (5, 190)]) = true := by decide +kernel
theorem wX3_setNames : mx_cw mX3_setNames ∈ mx_Ts := mx_inTs 5 195 rfl rfl
set_option maxRecDepth 100000 in
theorem kX3_setNames : mx_okX (mX3_setNames, bX3_setNames, [(5, 195), (1, 8), (5, 194), (0, 29)]) = true := by decide +kernel
theorem wX3_speaks : mx_cw mX3_speaks ∈ mx_Ts := mx_inTs 5 208 rfl rfl
set_option maxRecDepth 100000 in
theorem kX3_speaks : mx_okX (mX3_speaks, bX3_speaks, [(5, 208), (1, 8), (5, 207), (0, 30)]) = true := by decide +kernel
theorem wX3_reckon : mx_cw mX3_reckon ∈ mx_Ts := mx_inTs 5 212 rfl rfl
set_option maxRecDepth 100000 in
theorem kX3_reckon : mx_okX (mX3_reckon, bX3_reckon, [(5, 212), (1, 8), (5, 211), (0, 31)]) = true := by decide +kernel
theorem wX3_push : mx_cw mX3_push ∈ mx_Ts := mx_inTs 5 216 rfl rfl
set_option maxRecDepth 100000 in
theorem kX3_push : mx_okX (mX3_push, bX3_push, [(5, 216), (1, 8), (5, 215), (0, 32)]) = true := by decide +kernel
theorem wX3_pop : mx_cw mX3_pop ∈ mx_Ts := mx_inTs 5 221 rfl rfl
set_option maxRecDepth 100000 in
theorem kX3_pop : mx_okX (mX3_pop, bX3_pop, [(5, 221), (1, 8), (5, 220), (0, 33)]) = true := by decide +kernel
theorem wX3_join : mx_cw mX3_join ∈ mx_Ts := mx_inTs 5 226 rfl rfl
set_option maxRecDepth 100000 in
theorem kX3_join : mx_okX (mX3_join, bX3_join, [(5, 226), (1, 8), (5, 225), (0, 34)]) = true := by decide +kernel
theorem wX4_init : mx_cw mX4_init ∈ mx_Ts := mx_inTs 3 29 rfl rfl
set_option maxRecDepth 100000 in
theorem kX4_init : mx_okX (mX4_init, bX4_init, [(3, 29), (1, 12), (3, 28), (0, 0)]) = true := by decide +kernel
theorem wX4_standing : mx_cw mX4_standing ∈ mx_Ts := mx_inTs 7 184 rfl rfl
set_option maxRecDepth 100000 in
theorem kX4_standing : mx_okX (mX4_standing, bX4_standing, [(7, 184), (1, 12), (7, 183), (0, 62)]) = true := by decide +kernel
theorem wX4_weigh : mx_cw mX4_weigh ∈ mx_Ts := mx_inTs 7 173 rfl rfl
set_option maxRecDepth 100000 in
theorem kX4_weigh : mx_okX (mX4_weigh, bX4_weigh, [(7, 173), (1, 12), (7, 172), (0, 60)]) = true := by decide +kernel
theorem wX4_whomOf : mx_cw mX4_whomOf ∈ mx_Ts := mx_inTs 7 179 rfl rfl
set_option maxRecDepth 100000 in
theorem kX4_whomOf : mx_okX (mX4_whomOf, bX4_whomOf, [(7, 179), (1, 12), (7, 178), (0, 61)]) = true := by decide +kernel
theorem wX4_creditorsOf : mx_cw mX4_creditorsOf ∈ mx_Ts := mx_inTs 7 189 rfl rfl
set_option maxRecDepth 100000 in
theorem kX4_creditorsOf : mx_okX (mX4_creditorsOf, bX4_creditorsOf, [(7, 189), (1, 12), (7, 188), (0, 63)]) = true := by decide +kernel
theorem wX4_shareOut : mx_cw mX4_shareOut ∈ mx_Ts := mx_inTs 7 193 rfl rfl
set_option maxRecDepth 100000 in
theorem kX4_shareOut : mx_okX (mX4_shareOut, bX4_shareOut, [(7, 193), (1, 12), (7, 192), (0, 64)]) = true := by decide +kernel
theorem wX4_firstRanked : mx_cw mX4_firstRanked ∈ mx_Ts := mx_inTs 7 204 rfl rfl
set_option maxRecDepth 100000 in
theorem kX4_firstRanked : mx_okX (mX4_firstRanked, bX4_firstRanked, [(7, 204), (1, 12), (7, 203), (0, 65)]) = true := by decide +kernel
theorem wX4_weightOf : mx_cw mX4_weightOf ∈ mx_Ts := mx_inTs 7 209 rfl rfl
set_option maxRecDepth 100000 in
theorem kX4_weightOf : mx_okX (mX4_weightOf, bX4_weightOf, [(7, 209), (1, 12), (7, 208), (0, 66)]) = true := by decide +kernel
theorem wX4_split : mx_cw mX4_split ∈ mx_Ts := mx_inTs 7 214 rfl rfl
set_option maxRecDepth 100000 in
theorem kX4_split : mx_okX (mX4_split, bX4_split, [(7, 214), (1, 12), (7, 213), (0, 67)]) = true := by decide +kernel
theorem wX4_greatestRest : mx_cw mX4_greatestRest ∈ mx_Ts := mx_inTs 7 219 rfl rfl
set_option maxRecDepth 100000 in
theorem kX4_greatestRest : mx_okX (mX4_greatestRest, bX4_greatestRest, [(7, 219), (1, 12), (7, 218), (0, 68)]) = true := by decide +kernel
theorem wX4_foresee : mx_cw mX4_foresee ∈ mx_Ts := mx_inTs 7 169 rfl rfl
set_option maxRecDepth 100000 in
theorem kX4_foresee : mx_okX (mX4_foresee, bX4_foresee, [(7, 169), (1, 12), (7, 167), (7, 168)]) = true := by decide +kernel
theorem wX4_bear : mx_cw mX4_bear ∈ mx_Ts := mx_inTs 7 223 rfl rfl
set_option maxRecDepth 100000 in
theorem kX4_bear : mx_okX (mX4_bear, bX4_bear, [(7, 223), (1, 12), (7, 222), (0, 69)]) = true := by decide +kernel
theorem wX4_kinOf : mx_cw mX4_kinOf ∈ mx_Ts := mx_inTs 7 227 rfl rfl
set_option maxRecDepth 100000 in
theorem kX4_kinOf : mx_okX (mX4_kinOf, bX4_kinOf, [(7, 227), (1, 12), (7, 226), (0, 70)]) = true := by decide +kernel
theorem wX4_carryOut : mx_cw mX4_carryOut ∈ mx_Ts := mx_inTs 7 236 rfl rfl
set_option maxRecDepth 100000 in
theorem kX4_carryOut : mx_okX (mX4_carryOut, bX4_carryOut, [(7, 236), (1, 12), (7, 234), (7, 235)]) = true := by decide +kernel
theorem wX4_handOut : mx_cw mX4_handOut ∈ mx_Ts := mx_inTs 8 8 rfl rfl
set_option maxRecDepth 100000 in
theorem kX4_handOut : mx_okX (mX4_handOut, bX4_handOut, [(8, 8), (1, 12), (8, 7), (0, 71)]) = true := by decide +kernel
