/-! each method passes the check -/
theorem wX7_readPart : mx_cw mX7_readPart ∈ mx_Ts := mx_inTs 5 141 rfl rfl
set_option maxRecDepth 100000 in
theorem kX7_readPart : mx_okX (mX7_readPart, bX7_readPart, [(5, 141), (1, 7), (5, 140), (0, 23)]) = true := by decide +kernel
theorem wX7_readOne : mx_cw mX7_readOne ∈ mx_Ts := mx_inTs 5 145 rfl rfl
set_option maxRecDepth 100000 in
theorem kX7_readOne : mx_okX (mX7_readOne, bX7_readOne, [(5, 145), (1, 7), (5, 144), (0, 24)]) = true := by decide +kernel
theorem wX7_opens : mx_cw mX7_opens ∈ mx_Ts := mx_inTs 5 133 rfl rfl
set_option maxRecDepth 100000 in
theorem kX7_opens : mx_okX (mX7_opens, bX7_opens, [(5, 133), (1, 7), (5, 132), (0, 21)]) = true := by decide +kernel
theorem wX7_readSum : mx_cw mX7_readSum ∈ mx_Ts := mx_inTs 5 121 rfl rfl
set_option maxRecDepth 100000 in
theorem kX7_readSum : mx_okX (mX7_readSum, bX7_readSum, [(5, 121), (1, 7), (5, 120), (0, 18)]) = true := by decide +kernel
theorem wX7_readItem : mx_cw mX7_readItem ∈ mx_Ts := mx_inTs 5 125 rfl rfl
set_option maxRecDepth 100000 in
theorem kX7_readItem : mx_okX (mX7_readItem, bX7_readItem, [(5, 125), (1, 7), (5, 124), (0, 19)]) = true := by decide +kernel
theorem wX7_readAtom : mx_cw mX7_readAtom ∈ mx_Ts := mx_inTs 5 129 rfl rfl
set_option maxRecDepth 100000 in
theorem kX7_readAtom : mx_okX (mX7_readAtom, bX7_readAtom, [(5, 129), (1, 7), (5, 128), (0, 20)]) = true := by decide +kernel
theorem wX7_emit : mx_cw mX7_emit ∈ mx_Ts := mx_inTs 5 113 rfl rfl
set_option maxRecDepth 100000 in
theorem kX7_emit : mx_okX (mX7_emit, bX7_emit, [(5, 113), (1, 7), (5, 112), (0, 16)]) = true := by decide +kernel
theorem wX7_leadHere : mx_cw mX7_leadHere ∈ mx_Ts := mx_inTs 5 149 rfl rfl
set_option maxRecDepth 100000 in
theorem kX7_leadHere : mx_okX (mX7_leadHere, bX7_leadHere, [(5, 149), (1, 7), (5, 148), (0, 25)]) = true := by decide +kernel
theorem wX8_init : mx_cw mX8_init ∈ mx_Ts := mx_inTs 1 184 rfl rfl
set_option maxRecDepth 100000 in
theorem kX8_init : mx_okX (mX8_init, bX8_init, [(1, 184), (1, 6), (1, 183), (0, 0)]) = true := by decide +kernel
theorem wX8_addFour : mx_cw mX8_addFour ∈ mx_Ts := mx_inTs 3 153 rfl rfl
set_option maxRecDepth 100000 in
theorem kX8_addFour : mx_okX (mX8_addFour, bX8_addFour, [(3, 153), (1, 6), (3, 151), (3, 152)]) = true := by decide +kernel
theorem wX8_cut : mx_cw mX8_cut ∈ mx_Ts := mx_inTs 4 184 rfl rfl
set_option maxRecDepth 100000 in
theorem kX8_cut : mx_okX (mX8_cut, bX8_cut, [(4, 184), (1, 6), (4, 182), (4, 183)]) = true := by decide +kernel
theorem wX8_kindOf : mx_cw mX8_kindOf ∈ mx_Ts := mx_inTs 4 199 rfl rfl
set_option maxRecDepth 100000 in
theorem kX8_kindOf : mx_okX (mX8_kindOf, bX8_kindOf, [(4, 199), (1, 6), (4, 198), (0, 6)]) = true := by decide +kernel
theorem wX8_push : mx_cw mX8_push ∈ mx_Ts := mx_inTs 5 80 rfl rfl
set_option maxRecDepth 100000 in
theorem kX8_push : mx_okX (mX8_push, bX8_push, [(5, 80), (1, 6), (5, 79), (0, 9)]) = true := by decide +kernel
theorem wX8_tokenEnd : mx_cw mX8_tokenEnd ∈ mx_Ts := mx_inTs 4 188 rfl rfl
set_option maxRecDepth 100000 in
theorem kX8_tokenEnd : mx_okX (mX8_tokenEnd, bX8_tokenEnd, [(4, 188), (1, 6), (4, 187), (0, 5)]) = true := by decide +kernel
theorem wX8_valueOf : mx_cw mX8_valueOf ∈ mx_Ts := mx_inTs 5 76 rfl rfl
set_option maxRecDepth 100000 in
theorem kX8_valueOf : mx_okX (mX8_valueOf, bX8_valueOf, [(5, 76), (1, 6), (5, 75), (0, 8)]) = true := by decide +kernel
theorem wX8_wordKind : mx_cw mX8_wordKind ∈ mx_Ts := mx_inTs 4 203 rfl rfl
set_option maxRecDepth 100000 in
theorem kX8_wordKind : mx_okX (mX8_wordKind, bX8_wordKind, [(4, 203), (1, 6), (4, 202), (0, 7)]) = true := by decide +kernel
theorem wX8_isLetter : mx_cw mX8_isLetter ∈ mx_Ts := mx_inTs 4 191 rfl rfl
set_option maxRecDepth 100000 in
theorem kX8_isLetter : mx_okX (mX8_isLetter, bX8_isLetter, [(4, 191), (1, 6), (4, 190), (0, 0)]) = true := by decide +kernel
theorem wX8_isDigit : mx_cw mX8_isDigit ∈ mx_Ts := mx_inTs 4 195 rfl rfl
set_option maxRecDepth 100000 in
theorem kX8_isDigit : mx_okX (mX8_isDigit, bX8_isDigit, [(4, 195), (1, 6), (4, 194), (0, 0)]) = true := by decide +kernel
theorem wX9_init : mx_cw mX9_init ∈ mx_Ts := mx_inTs 3 89 rfl rfl
set_option maxRecDepth 100000 in
theorem kX9_init : mx_okX (mX9_init, bX9_init, [(3, 89), (1, 13), (3, 88), (0, 0)]) = true := by decide +kernel
theorem wX9_isMissing : mx_cw mX9_isMissing ∈ mx_Ts := mx_inTs 8 88 rfl rfl
set_option maxRecDepth 100000 in
theorem kX9_isMissing : mx_okX (mX9_isMissing, bX9_isMissing, [(8, 88), (1, 13), (8, 86), (8, 87)]) = true := by decide +kernel
theorem wX9_renew : mx_cw mX9_renew ∈ mx_Ts := mx_inTs 8 76 rfl rfl
set_option maxRecDepth 100000 in
theorem kX9_renew : mx_okX (mX9_renew, bX9_renew, [(8, 76), (1, 13), (8, 74), (8, 75)]) = true := by decide +kernel
theorem wX9_setNumber : mx_cw mX9_setNumber ∈ mx_Ts := mx_inTs 8 110 rfl rfl
set_option maxRecDepth 100000 in
theorem kX9_setNumber : mx_okX (mX9_setNumber, bX9_setNumber, [(8, 110), (1, 13), (8, 108), (8, 109)]) = true := by decide +kernel
theorem wX9_cutTo : mx_cw mX9_cutTo ∈ mx_Ts := mx_inTs 8 113 rfl rfl
set_option maxRecDepth 100000 in
theorem kX9_cutTo : mx_okX (mX9_cutTo, bX9_cutTo, [(8, 113), (1, 13), (8, 112), (0, 0)]) = true := by decide +kernel
theorem wX9_number : mx_cw mX9_number ∈ mx_Ts := mx_inTs 8 117 rfl rfl
set_option maxRecDepth 100000 in
theorem kX9_number : mx_okX (mX9_number, bX9_number, [(8, 117), (1, 13), (8, 115), (8, 116)]) = true := by decide +kernel
theorem wX9_copy : mx_cw mX9_copy ∈ mx_Ts := mx_inTs 8 135 rfl rfl
set_option maxRecDepth 100000 in
theorem kX9_copy : mx_okX (mX9_copy, bX9_copy, [(8, 135), (1, 13), (8, 133), (8, 134)]) = true := by decide +kernel
theorem wX10_init : mx_cw mX10_init ∈ mx_Ts := mx_inTs 2 83 rfl rfl
set_option maxRecDepth 100000 in
theorem kX10_init : mx_okX (mX10_init, bX10_init, [(2, 83), (1, 9), (2, 82), (0, 0)]) = true := by decide +kernel
theorem wX10_hasRoom : mx_cw mX10_hasRoom ∈ mx_Ts := mx_inTs 6 8 rfl rfl
set_option maxRecDepth 100000 in
theorem kX10_hasRoom : mx_okX (mX10_hasRoom, bX10_hasRoom, [(6, 8), (1, 9), (6, 6), (6, 7)]) = true := by decide +kernel
theorem wX10_canTell : mx_cw mX10_canTell ∈ mx_Ts := mx_inTs 6 12 rfl rfl
set_option maxRecDepth 100000 in
theorem kX10_canTell : mx_okX (mX10_canTell, bX10_canTell, [(6, 12), (1, 9), (6, 10), (6, 11)]) = true := by decide +kernel
theorem wX10_addTold : mx_cw mX10_addTold ∈ mx_Ts := mx_inTs 6 40 rfl rfl
set_option maxRecDepth 100000 in
theorem kX10_addTold : mx_okX (mX10_addTold, bX10_addTold, [(6, 40), (1, 9), (6, 38), (6, 39)]) = true := by decide +kernel
theorem wX10_addWord : mx_cw mX10_addWord ∈ mx_Ts := mx_inTs 6 44 rfl rfl
set_option maxRecDepth 100000 in
theorem kX10_addWord : mx_okX (mX10_addWord, bX10_addWord, [(6, 44), (1, 9), (6, 43), (0, 35)]) = true := by decide +kernel
theorem wX10_isPaid : mx_cw mX10_isPaid ∈ mx_Ts := mx_inTs 6 64 rfl rfl
set_option maxRecDepth 100000 in
theorem kX10_isPaid : mx_okX (mX10_isPaid, bX10_isPaid, [(6, 64), (1, 9), (6, 63), (0, 37)]) = true := by decide +kernel
theorem wX10_tellerHeardPaid : mx_cw mX10_tellerHeardPaid ∈ mx_Ts := mx_inTs 6 101 rfl rfl
set_option maxRecDepth 100000 in
theorem kX10_tellerHeardPaid : mx_okX (mX10_tellerHeardPaid, bX10_tellerHeardPaid, [(6, 101), (1, 9), (6, 100), (0, 40)]) = true := by decide +kernel
theorem wX10_stopWhenHeard : mx_cw mX10_stopWhenHeard ∈ mx_Ts := mx_inTs 6 81 rfl rfl
set_option maxRecDepth 100000 in
theorem kX10_stopWhenHeard : mx_okX (mX10_stopWhenHeard, bX10_stopWhenHeard, [(6, 81), (1, 9), (6, 80), (0, 39)]) = true := by decide +kernel
theorem wX10_canPay : mx_cw mX10_canPay ∈ mx_Ts := mx_inTs 6 60 rfl rfl
set_option maxRecDepth 100000 in
theorem kX10_canPay : mx_okX (mX10_canPay, bX10_canPay, [(6, 60), (1, 9), (6, 58), (6, 59)]) = true := by decide +kernel
theorem wX10_hearSecret : mx_cw mX10_hearSecret ∈ mx_Ts := mx_inTs 6 73 rfl rfl
set_option maxRecDepth 100000 in
theorem kX10_hearSecret : mx_okX (mX10_hearSecret, bX10_hearSecret, [(6, 73), (1, 9), (6, 71), (6, 72)]) = true := by decide +kernel
theorem wX10_payOut : mx_cw mX10_payOut ∈ mx_Ts := mx_inTs 6 77 rfl rfl
set_option maxRecDepth 100000 in
theorem kX10_payOut : mx_okX (mX10_payOut, bX10_payOut, [(6, 77), (1, 9), (6, 76), (0, 38)]) = true := by decide +kernel
theorem wX10_canTakeBack : mx_cw mX10_canTakeBack ∈ mx_Ts := mx_inTs 6 97 rfl rfl
set_option maxRecDepth 100000 in
theorem kX10_canTakeBack : mx_okX (mX10_canTakeBack, bX10_canTakeBack, [(6, 97), (1, 9), (6, 95), (6, 96)]) = true := by decide +kernel
theorem wX10_takeBack : mx_cw mX10_takeBack ∈ mx_Ts := mx_inTs 6 109 rfl rfl
set_option maxRecDepth 100000 in
theorem kX10_takeBack : mx_okX (mX10_takeBack, bX10_takeBack, [(6, 109), (1, 9), (6, 107), (6, 108)]) = true := by decide +kernel
theorem wX10_canTwin : mx_cw mX10_canTwin ∈ mx_Ts := mx_inTs 6 120 rfl rfl
set_option maxRecDepth 100000 in
theorem kX10_canTwin : mx_okX (mX10_canTwin, bX10_canTwin, [(6, 120), (1, 9), (6, 118), (6, 119)]) = true := by decide +kernel
theorem wX10_addTwin : mx_cw mX10_addTwin ∈ mx_Ts := mx_inTs 6 124 rfl rfl
set_option maxRecDepth 100000 in
theorem kX10_addTwin : mx_okX (mX10_addTwin, bX10_addTwin, [(6, 124), (1, 9), (6, 122), (6, 123)]) = true := by decide +kernel
theorem wX10_stopAllOf : mx_cw mX10_stopAllOf ∈ mx_Ts := mx_inTs 8 0 rfl rfl
set_option maxRecDepth 100000 in
theorem kX10_stopAllOf : mx_okX (mX10_stopAllOf, bX10_stopAllOf, [(8, 0), (1, 9), (7, 238), (7, 239)]) = true := by decide +kernel
