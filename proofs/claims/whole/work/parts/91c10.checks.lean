/-! each method passes the check -/
theorem wX12_refuses : mx_cw mX12_refuses ∈ mx_Ts := mx_inTs 12 33 rfl rfl
set_option maxRecDepth 100000 in
theorem kX12_refuses : mx_okX (mX12_refuses, bX12_refuses, [(12, 33), (1, 14), (12, 32), (0, 139)]) = true := by decide +kernel
theorem wX12_write : mx_cw mX12_write ∈ mx_Ts := mx_inTs 12 29 rfl rfl
set_option maxRecDepth 100000 in
theorem kX12_write : mx_okX (mX12_write, bX12_write, [(12, 29), (1, 14), (12, 27), (12, 28)]) = true := by decide +kernel
theorem wX12_read : mx_cw mX12_read ∈ mx_Ts := mx_inTs 12 37 rfl rfl
set_option maxRecDepth 100000 in
theorem kX12_read : mx_okX (mX12_read, bX12_read, [(12, 37), (1, 14), (12, 35), (12, 36)]) = true := by decide +kernel
theorem wX12_pour : mx_cw mX12_pour ∈ mx_Ts := mx_inTs 12 41 rfl rfl
set_option maxRecDepth 100000 in
theorem kX12_pour : mx_okX (mX12_pour, bX12_pour, [(12, 41), (1, 14), (12, 39), (12, 40)]) = true := by decide +kernel
theorem wX12_book : mx_cw mX12_book ∈ mx_Ts := mx_inTs 12 45 rfl rfl
set_option maxRecDepth 100000 in
theorem kX12_book : mx_okX (mX12_book, bX12_book, [(12, 45), (1, 14), (12, 43), (12, 44)]) = true := by decide +kernel
theorem wX12_count : mx_cw mX12_count ∈ mx_Ts := mx_inTs 12 49 rfl rfl
set_option maxRecDepth 100000 in
theorem kX12_count : mx_okX (mX12_count, bX12_count, [(12, 49), (1, 14), (12, 47), (12, 48)]) = true := by decide +kernel
theorem wJ0_length_8abf5 : mx_cw mJ0_length_8abf5 ∈ mx_Ts := mx_inTs 4 208 rfl rfl
set_option maxRecDepth 100000 in
theorem kJ0_length_8abf5 : mx_okX (mJ0_length_8abf5, bJ0_length_8abf5, [(4, 208), (1, 23), (4, 206), (4, 207)]) = true := by decide +kernel
theorem wJ0_charAt_5068e : mx_cw mJ0_charAt_5068e ∈ mx_Ts := mx_inTs 4 218 rfl rfl
set_option maxRecDepth 100000 in
theorem kJ0_charAt_5068e : mx_okX (mJ0_charAt_5068e, bJ0_charAt_5068e, [(4, 218), (1, 23), (4, 216), (4, 217)]) = true := by decide +kernel
theorem wJ0_indexOf_0f7a4 : mx_cw mJ0_indexOf_0f7a4 ∈ mx_Ts := mx_inTs 5 17 rfl rfl
set_option maxRecDepth 100000 in
theorem kJ0_indexOf_0f7a4 : mx_okX (mJ0_indexOf_0f7a4, bJ0_indexOf_0f7a4, [(5, 17), (1, 23), (5, 15), (5, 16)]) = true := by decide +kernel
theorem wJ0_indexOf_7cf53 : mx_cw mJ0_indexOf_7cf53 ∈ mx_Ts := mx_inTs 5 21 rfl rfl
set_option maxRecDepth 100000 in
theorem kJ0_indexOf_7cf53 : mx_okX (mJ0_indexOf_7cf53, bJ0_indexOf_7cf53, [(5, 21), (1, 23), (5, 19), (5, 20)]) = true := by decide +kernel
theorem wJ0_coder_7d493 : mx_cw mJ0_coder_7d493 ∈ mx_Ts := mx_inTs 4 212 rfl rfl
set_option maxRecDepth 100000 in
theorem kJ0_coder_7d493 : mx_okX (mJ0_coder_7d493, bJ0_coder_7d493, [(4, 212), (1, 23), (4, 210), (4, 211)]) = true := by decide +kernel
theorem wJ0_isLatin1_aae02 : mx_cw mJ0_isLatin1_aae02 ∈ mx_Ts := mx_inTs 4 222 rfl rfl
set_option maxRecDepth 100000 in
theorem kJ0_isLatin1_aae02 : mx_okX (mJ0_isLatin1_aae02, bJ0_isLatin1_aae02, [(4, 222), (1, 23), (4, 220), (4, 221)]) = true := by decide +kernel
theorem wJ0_checkIndex_df160 : mx_cw mJ0_checkIndex_df160 ∈ mx_Ts := mx_inTs 4 228 rfl rfl
set_option maxRecDepth 100000 in
theorem kJ0_checkIndex_df160 : mx_okX (mJ0_checkIndex_df160, bJ0_checkIndex_df160, [(4, 228), (1, 23), (4, 227), (0, 0)]) = true := by decide +kernel
theorem wJ1_charAt_3b067 : mx_cw mJ1_charAt_3b067 ∈ mx_Ts := mx_inTs 4 225 rfl rfl
set_option maxRecDepth 100000 in
theorem kJ1_charAt_3b067 : mx_okX (mJ1_charAt_3b067, bJ1_charAt_3b067, [(4, 225), (1, 24), (4, 224), (0, 0)]) = true := by decide +kernel
theorem wJ1_canEncode_9a6ad : mx_cw mJ1_canEncode_9a6ad ∈ mx_Ts := mx_inTs 5 28 rfl rfl
set_option maxRecDepth 100000 in
theorem kJ1_canEncode_9a6ad : mx_okX (mJ1_canEncode_9a6ad, bJ1_canEncode_9a6ad, [(5, 28), (1, 24), (5, 27), (0, 0)]) = true := by decide +kernel
theorem wJ1_indexOf_4cfef : mx_cw mJ1_indexOf_4cfef ∈ mx_Ts := mx_inTs 5 25 rfl rfl
set_option maxRecDepth 100000 in
theorem kJ1_indexOf_4cfef : mx_okX (mJ1_indexOf_4cfef, bJ1_indexOf_4cfef, [(5, 25), (1, 24), (5, 24), (0, 0)]) = true := by decide +kernel
theorem wJ1_indexOfChar_4cfef : mx_cw mJ1_indexOfChar_4cfef ∈ mx_Ts := mx_inTs 5 37 rfl rfl
set_option maxRecDepth 100000 in
theorem kJ1_indexOfChar_4cfef : mx_okX (mJ1_indexOfChar_4cfef, bJ1_indexOfChar_4cfef, [(5, 37), (1, 24), (5, 36), (0, 0)]) = true := by decide +kernel
theorem wJ3_checkIndex_8e157 : mx_cw mJ3_checkIndex_8e157 ∈ mx_Ts := mx_inTs 4 233 rfl rfl
set_option maxRecDepth 100000 in
theorem kJ3_checkIndex_8e157 : mx_okX (mJ3_checkIndex_8e157, bJ3_checkIndex_8e157, [(4, 233), (1, 25), (4, 232), (0, 0)]) = true := by decide +kernel
theorem wJ6_numberOfTrailingZeros_0f7a4 : mx_cw mJ6_numberOfTrailingZeros_0f7a4 ∈ mx_Ts := mx_inTs 7 36 rfl rfl
set_option maxRecDepth 100000 in
theorem kJ6_numberOfTrailingZeros_0f7a4 : mx_okX (mJ6_numberOfTrailingZeros_0f7a4, bJ6_numberOfTrailingZeros_0f7a4, [(7, 36), (1, 28), (7, 35), (0, 0)]) = true := by decide +kernel
theorem wJ6_bitCount_0f7a4 : mx_cw mJ6_bitCount_0f7a4 ∈ mx_Ts := mx_inTs 3 172 rfl rfl
set_option maxRecDepth 100000 in
theorem kJ6_bitCount_0f7a4 : mx_okX (mJ6_bitCount_0f7a4, bJ6_bitCount_0f7a4, [(3, 172), (1, 28), (3, 171), (0, 0)]) = true := by decide +kernel
theorem wJ7_fill_d0a16 : mx_cw mJ7_fill_d0a16 ∈ mx_Ts := mx_inTs 7 99 rfl rfl
set_option maxRecDepth 100000 in
theorem kJ7_fill_d0a16 : mx_okX (mJ7_fill_d0a16, bJ7_fill_d0a16, [(7, 99), (1, 3), (7, 98), (0, 0)]) = true := by decide +kernel
theorem wJ7_fill_53178 : mx_cw mJ7_fill_53178 ∈ mx_Ts := mx_inTs 1 46 rfl rfl
set_option maxRecDepth 100000 in
theorem kJ7_fill_53178 : mx_okX (mJ7_fill_53178, bJ7_fill_53178, [(1, 46), (1, 3), (1, 45), (0, 0)]) = true := by decide +kernel
theorem wJ9_floorDiv_f86c9 : mx_cw mJ9_floorDiv_f86c9 ∈ mx_Ts := mx_inTs 6 35 rfl rfl
set_option maxRecDepth 100000 in
theorem kJ9_floorDiv_f86c9 : mx_okX (mJ9_floorDiv_f86c9, bJ9_floorDiv_f86c9, [(6, 35), (1, 20), (6, 34), (0, 0)]) = true := by decide +kernel
theorem wJ9_max_7cf53 : mx_cw mJ9_max_7cf53 ∈ mx_Ts := mx_inTs 5 31 rfl rfl
set_option maxRecDepth 100000 in
theorem kJ9_max_7cf53 : mx_okX (mJ9_max_7cf53, bJ9_max_7cf53, [(5, 31), (1, 20), (5, 30), (0, 0)]) = true := by decide +kernel
theorem wJ9_max_f86c9 : mx_cw mJ9_max_f86c9 ∈ mx_Ts := mx_inTs 5 234 rfl rfl
set_option maxRecDepth 100000 in
theorem kJ9_max_f86c9 : mx_okX (mJ9_max_f86c9, bJ9_max_f86c9, [(5, 234), (1, 20), (5, 233), (0, 0)]) = true := by decide +kernel
theorem wJ9_min_7cf53 : mx_cw mJ9_min_7cf53 ∈ mx_Ts := mx_inTs 5 34 rfl rfl
set_option maxRecDepth 100000 in
theorem kJ9_min_7cf53 : mx_okX (mJ9_min_7cf53, bJ9_min_7cf53, [(5, 34), (1, 20), (5, 33), (0, 0)]) = true := by decide +kernel
theorem wJ9_min_f86c9 : mx_cw mJ9_min_f86c9 ∈ mx_Ts := mx_inTs 4 158 rfl rfl
set_option maxRecDepth 100000 in
theorem kJ9_min_f86c9 : mx_okX (mJ9_min_f86c9, bJ9_min_f86c9, [(4, 158), (1, 20), (4, 157), (0, 0)]) = true := by decide +kernel
theorem cwL_go : mx_cw mL_go ∈ mx_Ts := mx_inTs 3 178 rfl rfl
set_option maxRecDepth 100000 in
theorem kL_go : mx_okX (mL_go, bL_go, [(3, 178), (1, 0), (3, 177), (0, 0), (3, 179), (3, 180)]) = true := by decide +kernel
theorem cwL_road : mx_cw mL_road ∈ mx_Ts := mx_inTs 4 39 rfl rfl
set_option maxRecDepth 100000 in
theorem kL_road : mx_okX (mL_road, bL_road, [(4, 39), (1, 0), (4, 38), (0, 0), (4, 40), (3, 179)]) = true := by decide +kernel
theorem cwL_lag : mx_cw mL_lag ∈ mx_Ts := mx_inTs 4 88 rfl rfl
set_option maxRecDepth 100000 in
theorem kL_lag : mx_okX (mL_lag, bL_lag, [(4, 88), (1, 0), (4, 87), (0, 0), (4, 40)]) = true := by decide +kernel
theorem cwL_rate : mx_cw mL_rate ∈ mx_Ts := mx_inTs 4 96 rfl rfl
set_option maxRecDepth 100000 in
theorem kL_rate : mx_okX (mL_rate, bL_rate, [(4, 96), (1, 0), (4, 95), (0, 0), (4, 40), (3, 179)]) = true := by decide +kernel
theorem cwL_rateAt : mx_cw mL_rateAt ∈ mx_Ts := mx_inTs 4 107 rfl rfl
set_option maxRecDepth 100000 in
theorem kL_rateAt : mx_okX (mL_rateAt, bL_rateAt, [(4, 107), (1, 0), (4, 106), (0, 0), (4, 40), (3, 179)]) = true := by decide +kernel
theorem cwL_broker : mx_cw mL_broker ∈ mx_Ts := mx_inTs 4 124 rfl rfl
set_option maxRecDepth 100000 in
theorem kL_broker : mx_okX (mL_broker, bL_broker, [(4, 124), (1, 0), (4, 123), (0, 0), (4, 40), (3, 179)]) = true := by decide +kernel
theorem cwL_put : mx_cw mL_put ∈ mx_Ts := mx_inTs 4 135 rfl rfl
set_option maxRecDepth 100000 in
theorem kL_put : mx_okX (mL_put, bL_put, [(4, 135), (1, 0), (4, 134), (0, 0), (4, 40), (3, 179), (3, 180)]) = true := by decide +kernel
theorem cwL_drawer : mx_cw mL_drawer ∈ mx_Ts := mx_inTs 4 161 rfl rfl
set_option maxRecDepth 100000 in
theorem kL_drawer : mx_okX (mL_drawer, bL_drawer, [(4, 161), (1, 0), (4, 160), (0, 0), (4, 40), (3, 179)]) = true := by decide +kernel
theorem cwL_text : mx_cw mL_text ∈ mx_Ts := mx_inTs 4 168 rfl rfl
set_option maxRecDepth 100000 in
theorem kL_text : mx_okX (mL_text, bL_text, [(4, 168), (1, 0), (4, 167), (0, 0), (3, 179)]) = true := by decide +kernel
theorem cwL_lines : mx_cw mL_lines ∈ mx_Ts := mx_inTs 5 157 rfl rfl
set_option maxRecDepth 100000 in
theorem kL_lines : mx_okX (mL_lines, bL_lines, [(5, 157), (1, 0), (5, 156), (0, 0), (4, 40), (3, 179)]) = true := by decide +kernel
theorem cwL_said : mx_cw mL_said ∈ mx_Ts := mx_inTs 5 183 rfl rfl
set_option maxRecDepth 100000 in
theorem kL_said : mx_okX (mL_said, bL_said, [(5, 183), (1, 0), (5, 182), (0, 0), (4, 40), (3, 179)]) = true := by decide +kernel
theorem cwL_tell : mx_cw mL_tell ∈ mx_Ts := mx_inTs 5 239 rfl rfl
set_option maxRecDepth 100000 in
theorem kL_tell : mx_okX (mL_tell, bL_tell, [(5, 239), (1, 0), (5, 238), (0, 0), (4, 40), (3, 179), (3, 180)]) = true := by decide +kernel
theorem cwL_pay : mx_cw mL_pay ∈ mx_Ts := mx_inTs 6 48 rfl rfl
set_option maxRecDepth 100000 in
theorem kL_pay : mx_okX (mL_pay, bL_pay, [(6, 48), (1, 0), (6, 47), (0, 0), (4, 40), (3, 180)]) = true := by decide +kernel
theorem cwL_back : mx_cw mL_back ∈ mx_Ts := mx_inTs 6 89 rfl rfl
set_option maxRecDepth 100000 in
theorem kL_back : mx_okX (mL_back, bL_back, [(6, 89), (1, 0), (6, 88), (0, 0), (4, 40), (3, 180)]) = true := by decide +kernel
theorem cwL_twin : mx_cw mL_twin ∈ mx_Ts := mx_inTs 6 112 rfl rfl
set_option maxRecDepth 100000 in
theorem kL_twin : mx_okX (mL_twin, bL_twin, [(6, 112), (1, 0), (6, 111), (0, 0), (4, 40), (3, 180)]) = true := by decide +kernel
theorem cwL_word : mx_cw mL_word ∈ mx_Ts := mx_inTs 6 127 rfl rfl
set_option maxRecDepth 100000 in
theorem kL_word : mx_okX (mL_word, bL_word, [(6, 127), (1, 0), (6, 126), (0, 0), (4, 40), (3, 179)]) = true := by decide +kernel
theorem cwL_owes : mx_cw mL_owes ∈ mx_Ts := mx_inTs 6 142 rfl rfl
set_option maxRecDepth 100000 in
theorem kL_owes : mx_okX (mL_owes, bL_owes, [(6, 142), (1, 0), (6, 141), (0, 0), (4, 40), (3, 179)]) = true := by decide +kernel
theorem cwL_heard : mx_cw mL_heard ∈ mx_Ts := mx_inTs 6 150 rfl rfl
set_option maxRecDepth 100000 in
theorem kL_heard : mx_okX (mL_heard, bL_heard, [(6, 150), (1, 0), (6, 149), (0, 0), (4, 40), (3, 179), (3, 180)]) = true := by decide +kernel
theorem cwL_claim : mx_cw mL_claim ∈ mx_Ts := mx_inTs 6 162 rfl rfl
set_option maxRecDepth 100000 in
theorem kL_claim : mx_okX (mL_claim, bL_claim, [(6, 162), (1, 0), (6, 161), (0, 0), (4, 40)]) = true := by decide +kernel
theorem cwL_settle : mx_cw mL_settle ∈ mx_Ts := mx_inTs 6 175 rfl rfl
set_option maxRecDepth 100000 in
theorem kL_settle : mx_okX (mL_settle, bL_settle, [(6, 175), (1, 0), (6, 174), (0, 0), (4, 40), (3, 179), (3, 180)]) = true := by decide +kernel
theorem cwL_market : mx_cw mL_market ∈ mx_Ts := mx_inTs 6 183 rfl rfl
set_option maxRecDepth 100000 in
theorem kL_market : mx_okX (mL_market, bL_market, [(6, 183), (1, 0), (6, 182), (0, 0), (4, 40), (3, 179)]) = true := by decide +kernel
theorem cwL_goods : mx_cw mL_goods ∈ mx_Ts := mx_inTs 6 194 rfl rfl
set_option maxRecDepth 100000 in
theorem kL_goods : mx_okX (mL_goods, bL_goods, [(6, 194), (1, 0), (6, 193), (0, 0), (4, 40), (3, 179), (3, 180)]) = true := by decide +kernel
theorem cwL_hidden : mx_cw mL_hidden ∈ mx_Ts := mx_inTs 6 206 rfl rfl
set_option maxRecDepth 100000 in
theorem kL_hidden : mx_okX (mL_hidden, bL_hidden, [(6, 206), (1, 0), (6, 205), (0, 0), (4, 40)]) = true := by decide +kernel
theorem cwL_ring : mx_cw mL_ring ∈ mx_Ts := mx_inTs 6 213 rfl rfl
set_option maxRecDepth 100000 in
theorem kL_ring : mx_okX (mL_ring, bL_ring, [(6, 213), (1, 0), (6, 212), (0, 0), (3, 179)]) = true := by decide +kernel
theorem cwL_cross : mx_cw mL_cross ∈ mx_Ts := mx_inTs 7 0 rfl rfl
set_option maxRecDepth 100000 in
theorem kL_cross : mx_okX (mL_cross, bL_cross, [(7, 0), (1, 0), (6, 239), (0, 0), (3, 179), (3, 180)]) = true := by decide +kernel
theorem cwL_fewest : mx_cw mL_fewest ∈ mx_Ts := mx_inTs 7 12 rfl rfl
set_option maxRecDepth 100000 in
theorem kL_fewest : mx_okX (mL_fewest, bL_fewest, [(7, 12), (1, 0), (7, 11), (0, 0), (3, 179)]) = true := by decide +kernel
theorem cwL_step : mx_cw mL_step ∈ mx_Ts := mx_inTs 7 57 rfl rfl
set_option maxRecDepth 100000 in
theorem kL_step : mx_okX (mL_step, bL_step, [(7, 57), (1, 0), (7, 56), (0, 0), (3, 179)]) = true := by decide +kernel
theorem cwL_entry : mx_cw mL_entry ∈ mx_Ts := mx_inTs 7 64 rfl rfl
set_option maxRecDepth 100000 in
theorem kL_entry : mx_okX (mL_entry, bL_entry, [(7, 64), (1, 0), (7, 63), (0, 0), (4, 40), (3, 179)]) = true := by decide +kernel
theorem cwL_expect : mx_cw mL_expect ∈ mx_Ts := mx_inTs 7 75 rfl rfl
set_option maxRecDepth 100000 in
theorem kL_expect : mx_okX (mL_expect, bL_expect, [(7, 75), (1, 0), (7, 74), (0, 0), (4, 40), (3, 179)]) = true := by decide +kernel
theorem cwL_dry : mx_cw mL_dry ∈ mx_Ts := mx_inTs 7 88 rfl rfl
set_option maxRecDepth 100000 in
theorem kL_dry : mx_okX (mL_dry, bL_dry, [(7, 88), (1, 0), (7, 87), (0, 0), (4, 40), (3, 179)]) = true := by decide +kernel
theorem cwL_plan : mx_cw mL_plan ∈ mx_Ts := mx_inTs 7 108 rfl rfl
set_option maxRecDepth 100000 in
theorem kL_plan : mx_okX (mL_plan, bL_plan, [(7, 108), (1, 0), (7, 107), (0, 0), (3, 179)]) = true := by decide +kernel
theorem cwL_falls : mx_cw mL_falls ∈ mx_Ts := mx_inTs 7 161 rfl rfl
set_option maxRecDepth 100000 in
theorem kL_falls : mx_okX (mL_falls, bL_falls, [(7, 161), (1, 0), (7, 160), (0, 0), (4, 40), (3, 180)]) = true := by decide +kernel
theorem cwL_fell : mx_cw mL_fell ∈ mx_Ts := mx_inTs 8 13 rfl rfl
set_option maxRecDepth 100000 in
theorem kL_fell : mx_okX (mL_fell, bL_fell, [(8, 13), (1, 0), (8, 12), (0, 0), (4, 40)]) = true := by decide +kernel
theorem cwL_ruin : mx_cw mL_ruin ∈ mx_Ts := mx_inTs 8 20 rfl rfl
set_option maxRecDepth 100000 in
theorem kL_ruin : mx_okX (mL_ruin, bL_ruin, [(8, 20), (1, 0), (8, 19), (0, 0), (4, 40), (3, 179)]) = true := by decide +kernel
theorem cwL_wealth : mx_cw mL_wealth ∈ mx_Ts := mx_inTs 8 36 rfl rfl
set_option maxRecDepth 100000 in
theorem kL_wealth : mx_okX (mL_wealth, bL_wealth, [(8, 36), (1, 0), (8, 35), (0, 0), (4, 40)]) = true := by decide +kernel
theorem cwL_run : mx_cw mL_run ∈ mx_Ts := mx_inTs 8 47 rfl rfl
set_option maxRecDepth 100000 in
theorem kL_run : mx_okX (mL_run, bL_run, [(8, 47), (1, 0), (8, 46), (0, 0), (4, 40), (3, 179)]) = true := by decide +kernel
theorem cwL_tray : mx_cw mL_tray ∈ mx_Ts := mx_inTs 8 65 rfl rfl
set_option maxRecDepth 100000 in
theorem kL_tray : mx_okX (mL_tray, bL_tray, [(8, 65), (1, 0), (8, 64), (0, 0), (4, 40), (3, 179)]) = true := by decide +kernel
theorem cwL_write : mx_cw mL_write ∈ mx_Ts := mx_inTs 8 79 rfl rfl
set_option maxRecDepth 100000 in
theorem kL_write : mx_okX (mL_write, bL_write, [(8, 79), (1, 0), (8, 78), (0, 0), (4, 40), (3, 180), (8, 80)]) = true := by decide +kernel
theorem cwL_read : mx_cw mL_read ∈ mx_Ts := mx_inTs 8 120 rfl rfl
set_option maxRecDepth 100000 in
theorem kL_read : mx_okX (mL_read, bL_read, [(8, 120), (1, 0), (8, 119), (0, 0), (4, 40), (3, 180), (8, 80)]) = true := by decide +kernel
theorem cwL_pour : mx_cw mL_pour ∈ mx_Ts := mx_inTs 8 127 rfl rfl
set_option maxRecDepth 100000 in
theorem kL_pour : mx_okX (mL_pour, bL_pour, [(8, 127), (1, 0), (8, 126), (0, 0), (4, 40), (3, 180), (8, 80)]) = true := by decide +kernel
theorem cwL_book : mx_cw mL_book ∈ mx_Ts := mx_inTs 8 139 rfl rfl
set_option maxRecDepth 100000 in
theorem kL_book : mx_okX (mL_book, bL_book, [(8, 139), (1, 0), (8, 138), (0, 0), (4, 40)]) = true := by decide +kernel
