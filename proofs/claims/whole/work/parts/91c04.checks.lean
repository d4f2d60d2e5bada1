/-! each method passes the check -/
theorem wX10_state : mx_cw mX10_state ∈ mx_Ts := mx_inTs 6 139 rfl rfl
set_option maxRecDepth 100000 in
theorem kX10_state : mx_okX (mX10_state, bX10_state, [(6, 139), (1, 9), (6, 138), (0, 41)]) = true := by decide +kernel
theorem wX10_detail : mx_cw mX10_detail ∈ mx_Ts := mx_inTs 6 135 rfl rfl
set_option maxRecDepth 100000 in
theorem kX10_detail : mx_okX (mX10_detail, bX10_detail, [(6, 135), (1, 9), (6, 133), (6, 134)]) = true := by decide +kernel
theorem wX10_takeDue : mx_cw mX10_takeDue ∈ mx_Ts := mx_inTs 7 103 rfl rfl
set_option maxRecDepth 100000 in
theorem kX10_takeDue : mx_okX (mX10_takeDue, bX10_takeDue, [(7, 103), (1, 9), (7, 101), (7, 102)]) = true := by decide +kernel
theorem wX11_init : mx_cw mX11_init ∈ mx_Ts := mx_inTs 1 34 rfl rfl
set_option maxRecDepth 100000 in
theorem kX11_init : mx_okX (mX11_init, bX11_init, [(1, 34), (1, 1), (1, 33), (0, 0)]) = true := by decide +kernel
theorem wX11_needFound : mx_cw mX11_needFound ∈ mx_Ts := mx_inTs 4 51 rfl rfl
set_option maxRecDepth 100000 in
theorem kX11_needFound : mx_okX (mX11_needFound, bX11_needFound, [(4, 51), (1, 1), (4, 50), (0, 0)]) = true := by decide +kernel
theorem wX11_needArgument : mx_cw mX11_needArgument ∈ mx_Ts := mx_inTs 3 190 rfl rfl
set_option maxRecDepth 100000 in
theorem kX11_needArgument : mx_okX (mX11_needArgument, bX11_needArgument, [(3, 190), (1, 1), (3, 189), (0, 0)]) = true := by decide +kernel
theorem wX11_needState : mx_cw mX11_needState ∈ mx_Ts := mx_inTs 4 17 rfl rfl
set_option maxRecDepth 100000 in
theorem kX11_needState : mx_okX (mX11_needState, bX11_needState, [(4, 17), (1, 1), (4, 16), (0, 0)]) = true := by decide +kernel
theorem wX11_needPlace : mx_cw mX11_needPlace ∈ mx_Ts := mx_inTs 8 91 rfl rfl
set_option maxRecDepth 100000 in
theorem kX11_needPlace : mx_okX (mX11_needPlace, bX11_needPlace, [(8, 91), (1, 1), (8, 90), (0, 0)]) = true := by decide +kernel
theorem wX11_within : mx_cw mX11_within ∈ mx_Ts := mx_inTs 3 187 rfl rfl
set_option maxRecDepth 100000 in
theorem kX11_within : mx_okX (mX11_within, bX11_within, [(3, 187), (1, 1), (3, 186), (0, 0)]) = true := by decide +kernel
theorem wX11_isCoin : mx_cw mX11_isCoin ∈ mx_Ts := mx_inTs 4 114 rfl rfl
set_option maxRecDepth 100000 in
theorem kX11_isCoin : mx_okX (mX11_isCoin, bX11_isCoin, [(4, 114), (1, 1), (4, 113), (0, 0)]) = true := by decide +kernel
theorem wX11_isDay : mx_cw mX11_isDay ∈ mx_Ts := mx_inTs 4 117 rfl rfl
set_option maxRecDepth 100000 in
theorem kX11_isDay : mx_okX (mX11_isDay, bX11_isDay, [(4, 117), (1, 1), (4, 116), (0, 0)]) = true := by decide +kernel
theorem wX11_holds : mx_cw mX11_holds ∈ mx_Ts := mx_inTs 5 172 rfl rfl
set_option maxRecDepth 100000 in
theorem kX11_holds : mx_okX (mX11_holds, bX11_holds, [(5, 172), (1, 1), (5, 171), (0, 0)]) = true := by decide +kernel
theorem wX11_isTown : mx_cw mX11_isTown ∈ mx_Ts := mx_inTs 4 48 rfl rfl
set_option maxRecDepth 100000 in
theorem kX11_isTown : mx_okX (mX11_isTown, bX11_isTown, [(4, 48), (1, 1), (4, 47), (0, 1)]) = true := by decide +kernel
theorem wX11_isBroker : mx_cw mX11_isBroker ∈ mx_Ts := mx_inTs 4 143 rfl rfl
set_option maxRecDepth 100000 in
theorem kX11_isBroker : mx_okX (mX11_isBroker, bX11_isBroker, [(4, 143), (1, 1), (4, 142), (0, 4)]) = true := by decide +kernel
theorem wX11_isWord : mx_cw mX11_isWord ∈ mx_Ts := mx_inTs 6 56 rfl rfl
set_option maxRecDepth 100000 in
theorem kX11_isWord : mx_okX (mX11_isWord, bX11_isWord, [(6, 56), (1, 1), (6, 55), (0, 36)]) = true := by decide +kernel
theorem wX11_isTray : mx_cw mX11_isTray ∈ mx_Ts := mx_inTs 8 72 rfl rfl
set_option maxRecDepth 100000 in
theorem kX11_isTray : mx_okX (mX11_isTray, bX11_isTray, [(8, 72), (1, 1), (8, 71), (0, 0)]) = true := by decide +kernel
theorem wX11_go : mx_cw mX11_go ∈ mx_Ts := mx_inTs 3 184 rfl rfl
set_option maxRecDepth 100000 in
theorem kX11_go : mx_okX (mX11_go, bX11_go, [(3, 184), (1, 1), (3, 182), (3, 183)]) = true := by decide +kernel
theorem wX11_town : mx_cw mX11_town ∈ mx_Ts := mx_inTs 3 141 rfl rfl
set_option maxRecDepth 100000 in
theorem kX11_town : mx_okX (mX11_town, bX11_town, [(3, 141), (1, 1), (3, 139), (3, 140)]) = true := by decide +kernel
theorem wX11_road : mx_cw mX11_road ∈ mx_Ts := mx_inTs 4 44 rfl rfl
set_option maxRecDepth 100000 in
theorem kX11_road : mx_okX (mX11_road, bX11_road, [(4, 44), (1, 1), (4, 42), (4, 43)]) = true := by decide +kernel
theorem wX11_lag : mx_cw mX11_lag ∈ mx_Ts := mx_inTs 4 92 rfl rfl
set_option maxRecDepth 100000 in
theorem kX11_lag : mx_okX (mX11_lag, bX11_lag, [(4, 92), (1, 1), (4, 90), (4, 91)]) = true := by decide +kernel
theorem wX11_rate : mx_cw mX11_rate ∈ mx_Ts := mx_inTs 4 100 rfl rfl
set_option maxRecDepth 100000 in
theorem kX11_rate : mx_okX (mX11_rate, bX11_rate, [(4, 100), (1, 1), (4, 98), (4, 99)]) = true := by decide +kernel
theorem wX11_rateAt : mx_cw mX11_rateAt ∈ mx_Ts := mx_inTs 4 111 rfl rfl
set_option maxRecDepth 100000 in
theorem kX11_rateAt : mx_okX (mX11_rateAt, bX11_rateAt, [(4, 111), (1, 1), (4, 109), (4, 110)]) = true := by decide +kernel
theorem wX11_broker : mx_cw mX11_broker ∈ mx_Ts := mx_inTs 4 128 rfl rfl
set_option maxRecDepth 100000 in
theorem kX11_broker : mx_okX (mX11_broker, bX11_broker, [(4, 128), (1, 1), (4, 126), (4, 127)]) = true := by decide +kernel
theorem wX11_put : mx_cw mX11_put ∈ mx_Ts := mx_inTs 4 139 rfl rfl
set_option maxRecDepth 100000 in
theorem kX11_put : mx_okX (mX11_put, bX11_put, [(4, 139), (1, 1), (4, 137), (4, 138)]) = true := by decide +kernel
theorem wX11_drawer : mx_cw mX11_drawer ∈ mx_Ts := mx_inTs 4 165 rfl rfl
set_option maxRecDepth 100000 in
theorem kX11_drawer : mx_okX (mX11_drawer, bX11_drawer, [(4, 165), (1, 1), (4, 163), (4, 164)]) = true := by decide +kernel
theorem wX11_feed : mx_cw mX11_feed ∈ mx_Ts := mx_inTs 3 149 rfl rfl
set_option maxRecDepth 100000 in
theorem kX11_feed : mx_okX (mX11_feed, bX11_feed, [(3, 149), (1, 1), (3, 147), (3, 148)]) = true := by decide +kernel
theorem wX11_text : mx_cw mX11_text ∈ mx_Ts := mx_inTs 4 172 rfl rfl
set_option maxRecDepth 100000 in
theorem kX11_text : mx_okX (mX11_text, bX11_text, [(4, 172), (1, 1), (4, 170), (4, 171)]) = true := by decide +kernel
theorem wX11_fault : mx_cw mX11_fault ∈ mx_Ts := mx_inTs 3 157 rfl rfl
set_option maxRecDepth 100000 in
theorem kX11_fault : mx_okX (mX11_fault, bX11_fault, [(3, 157), (1, 1), (3, 155), (3, 156)]) = true := by decide +kernel
theorem wX11_lines : mx_cw mX11_lines ∈ mx_Ts := mx_inTs 5 161 rfl rfl
set_option maxRecDepth 100000 in
theorem kX11_lines : mx_okX (mX11_lines, bX11_lines, [(5, 161), (1, 1), (5, 159), (5, 160)]) = true := by decide +kernel
theorem wX11_said : mx_cw mX11_said ∈ mx_Ts := mx_inTs 5 187 rfl rfl
set_option maxRecDepth 100000 in
theorem kX11_said : mx_okX (mX11_said, bX11_said, [(5, 187), (1, 1), (5, 185), (5, 186)]) = true := by decide +kernel
theorem wX11_tell : mx_cw mX11_tell ∈ mx_Ts := mx_inTs 6 3 rfl rfl
set_option maxRecDepth 100000 in
theorem kX11_tell : mx_okX (mX11_tell, bX11_tell, [(6, 3), (1, 1), (6, 1), (6, 2)]) = true := by decide +kernel
theorem wX11_pay : mx_cw mX11_pay ∈ mx_Ts := mx_inTs 6 52 rfl rfl
set_option maxRecDepth 100000 in
theorem kX11_pay : mx_okX (mX11_pay, bX11_pay, [(6, 52), (1, 1), (6, 50), (6, 51)]) = true := by decide +kernel
theorem wX11_back : mx_cw mX11_back ∈ mx_Ts := mx_inTs 6 93 rfl rfl
set_option maxRecDepth 100000 in
theorem kX11_back : mx_okX (mX11_back, bX11_back, [(6, 93), (1, 1), (6, 91), (6, 92)]) = true := by decide +kernel
theorem wX11_twin : mx_cw mX11_twin ∈ mx_Ts := mx_inTs 6 116 rfl rfl
set_option maxRecDepth 100000 in
theorem kX11_twin : mx_okX (mX11_twin, bX11_twin, [(6, 116), (1, 1), (6, 114), (6, 115)]) = true := by decide +kernel
theorem wX11_word : mx_cw mX11_word ∈ mx_Ts := mx_inTs 6 131 rfl rfl
set_option maxRecDepth 100000 in
theorem kX11_word : mx_okX (mX11_word, bX11_word, [(6, 131), (1, 1), (6, 129), (6, 130)]) = true := by decide +kernel
theorem wX11_owes : mx_cw mX11_owes ∈ mx_Ts := mx_inTs 6 146 rfl rfl
set_option maxRecDepth 100000 in
theorem kX11_owes : mx_okX (mX11_owes, bX11_owes, [(6, 146), (1, 1), (6, 144), (6, 145)]) = true := by decide +kernel
theorem wX11_heard : mx_cw mX11_heard ∈ mx_Ts := mx_inTs 6 154 rfl rfl
set_option maxRecDepth 100000 in
theorem kX11_heard : mx_okX (mX11_heard, bX11_heard, [(6, 154), (1, 1), (6, 152), (6, 153)]) = true := by decide +kernel
theorem wX11_claim : mx_cw mX11_claim ∈ mx_Ts := mx_inTs 6 166 rfl rfl
set_option maxRecDepth 100000 in
theorem kX11_claim : mx_okX (mX11_claim, bX11_claim, [(6, 166), (1, 1), (6, 164), (6, 165)]) = true := by decide +kernel
theorem wX11_settle : mx_cw mX11_settle ∈ mx_Ts := mx_inTs 6 179 rfl rfl
set_option maxRecDepth 100000 in
theorem kX11_settle : mx_okX (mX11_settle, bX11_settle, [(6, 179), (1, 1), (6, 177), (6, 178)]) = true := by decide +kernel
theorem wX11_market : mx_cw mX11_market ∈ mx_Ts := mx_inTs 6 187 rfl rfl
set_option maxRecDepth 100000 in
theorem kX11_market : mx_okX (mX11_market, bX11_market, [(6, 187), (1, 1), (6, 185), (6, 186)]) = true := by decide +kernel
theorem wX11_goods : mx_cw mX11_goods ∈ mx_Ts := mx_inTs 6 198 rfl rfl
set_option maxRecDepth 100000 in
theorem kX11_goods : mx_okX (mX11_goods, bX11_goods, [(6, 198), (1, 1), (6, 196), (6, 197)]) = true := by decide +kernel
theorem wX11_hidden : mx_cw mX11_hidden ∈ mx_Ts := mx_inTs 6 210 rfl rfl
set_option maxRecDepth 100000 in
theorem kX11_hidden : mx_okX (mX11_hidden, bX11_hidden, [(6, 210), (1, 1), (6, 208), (6, 209)]) = true := by decide +kernel
theorem wX11_ring : mx_cw mX11_ring ∈ mx_Ts := mx_inTs 6 217 rfl rfl
set_option maxRecDepth 100000 in
theorem kX11_ring : mx_okX (mX11_ring, bX11_ring, [(6, 217), (1, 1), (6, 215), (6, 216)]) = true := by decide +kernel
theorem wX11_cross : mx_cw mX11_cross ∈ mx_Ts := mx_inTs 7 4 rfl rfl
set_option maxRecDepth 100000 in
theorem kX11_cross : mx_okX (mX11_cross, bX11_cross, [(7, 4), (1, 1), (7, 2), (7, 3)]) = true := by decide +kernel
theorem wX11_fewest : mx_cw mX11_fewest ∈ mx_Ts := mx_inTs 7 16 rfl rfl
set_option maxRecDepth 100000 in
theorem kX11_fewest : mx_okX (mX11_fewest, bX11_fewest, [(7, 16), (1, 1), (7, 14), (7, 15)]) = true := by decide +kernel
theorem wX11_step : mx_cw mX11_step ∈ mx_Ts := mx_inTs 7 61 rfl rfl
set_option maxRecDepth 100000 in
theorem kX11_step : mx_okX (mX11_step, bX11_step, [(7, 61), (1, 1), (7, 59), (7, 60)]) = true := by decide +kernel
theorem wX11_isGroupable : mx_cw mX11_isGroupable ∈ mx_Ts := mx_inTs 7 20 rfl rfl
set_option maxRecDepth 100000 in
theorem kX11_isGroupable : mx_okX (mX11_isGroupable, bX11_isGroupable, [(7, 20), (1, 1), (7, 19), (0, 45)]) = true := by decide +kernel
theorem wX11_entry : mx_cw mX11_entry ∈ mx_Ts := mx_inTs 7 68 rfl rfl
set_option maxRecDepth 100000 in
theorem kX11_entry : mx_okX (mX11_entry, bX11_entry, [(7, 68), (1, 1), (7, 66), (7, 67)]) = true := by decide +kernel
theorem wX11_expect : mx_cw mX11_expect ∈ mx_Ts := mx_inTs 7 79 rfl rfl
set_option maxRecDepth 100000 in
theorem kX11_expect : mx_okX (mX11_expect, bX11_expect, [(7, 79), (1, 1), (7, 77), (7, 78)]) = true := by decide +kernel
theorem wX11_dry : mx_cw mX11_dry ∈ mx_Ts := mx_inTs 7 92 rfl rfl
set_option maxRecDepth 100000 in
theorem kX11_dry : mx_okX (mX11_dry, bX11_dry, [(7, 92), (1, 1), (7, 90), (7, 91)]) = true := by decide +kernel
theorem wX11_plan : mx_cw mX11_plan ∈ mx_Ts := mx_inTs 7 112 rfl rfl
set_option maxRecDepth 100000 in
theorem kX11_plan : mx_okX (mX11_plan, bX11_plan, [(7, 112), (1, 1), (7, 110), (7, 111)]) = true := by decide +kernel
theorem wX11_falls : mx_cw mX11_falls ∈ mx_Ts := mx_inTs 7 165 rfl rfl
set_option maxRecDepth 100000 in
theorem kX11_falls : mx_okX (mX11_falls, bX11_falls, [(7, 165), (1, 1), (7, 163), (7, 164)]) = true := by decide +kernel
theorem wX11_fell : mx_cw mX11_fell ∈ mx_Ts := mx_inTs 8 17 rfl rfl
set_option maxRecDepth 100000 in
theorem kX11_fell : mx_okX (mX11_fell, bX11_fell, [(8, 17), (1, 1), (8, 15), (8, 16)]) = true := by decide +kernel
