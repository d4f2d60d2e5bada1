/-! each method passes the check -/
set_option maxRecDepth 100000 in
theorem kX7_readPart : mx_okX (mX7_readPart, bX7_readPart, [(5, 141), (1, 7), (5, 140), (0, 23)]) = true := by decide +kernel
set_option maxRecDepth 100000 in
theorem kX7_readOne : mx_okX (mX7_readOne, bX7_readOne, [(5, 145), (1, 7), (5, 144), (0, 24)]) = true := by decide +kernel
set_option maxRecDepth 100000 in
theorem kX7_opens : mx_okX (mX7_opens, bX7_opens, [(5, 133), (1, 7), (5, 132), (0, 21)]) = true := by decide +kernel
set_option maxRecDepth 100000 in
theorem kX7_readSum : mx_okX (mX7_readSum, bX7_readSum, [(5, 121), (1, 7), (5, 120), (0, 18)]) = true := by decide +kernel
set_option maxRecDepth 100000 in
theorem kX7_readItem : mx_okX (mX7_readItem, bX7_readItem, [(5, 125), (1, 7), (5, 124), (0, 19)]) = true := by decide +kernel
set_option maxRecDepth 100000 in
theorem kX7_readAtom : mx_okX (mX7_readAtom, bX7_readAtom, [(5, 129), (1, 7), (5, 128), (0, 20)]) = true := by decide +kernel
set_option maxRecDepth 100000 in
theorem kX7_emit : mx_okX (mX7_emit, bX7_emit, [(5, 113), (1, 7), (5, 112), (0, 16)]) = true := by decide +kernel
set_option maxRecDepth 100000 in
theorem kX7_leadHere : mx_okX (mX7_leadHere, bX7_leadHere, [(5, 149), (1, 7), (5, 148), (0, 25)]) = true := by decide +kernel
set_option maxRecDepth 100000 in
theorem kX8_init : mx_okX (mX8_init, bX8_init, [(1, 184), (1, 6), (1, 183), (0, 0)]) = true := by decide +kernel
set_option maxRecDepth 100000 in
theorem kX8_addFour : mx_okX (mX8_addFour, bX8_addFour, [(3, 153), (1, 6), (3, 151), (3, 152)]) = true := by decide +kernel
set_option maxRecDepth 100000 in
theorem kX8_cut : mx_okX (mX8_cut, bX8_cut, [(4, 184), (1, 6), (4, 182), (4, 183)]) = true := by decide +kernel
set_option maxRecDepth 100000 in
theorem kX8_kindOf : mx_okX (mX8_kindOf, bX8_kindOf, [(4, 199), (1, 6), (4, 198), (0, 6)]) = true := by decide +kernel
set_option maxRecDepth 100000 in
theorem kX8_push : mx_okX (mX8_push, bX8_push, [(5, 80), (1, 6), (5, 79), (0, 9)]) = true := by decide +kernel
set_option maxRecDepth 100000 in
theorem kX8_tokenEnd : mx_okX (mX8_tokenEnd, bX8_tokenEnd, [(4, 188), (1, 6), (4, 187), (0, 5)]) = true := by decide +kernel
set_option maxRecDepth 100000 in
theorem kX8_valueOf : mx_okX (mX8_valueOf, bX8_valueOf, [(5, 76), (1, 6), (5, 75), (0, 8)]) = true := by decide +kernel
set_option maxRecDepth 100000 in
theorem kX8_wordKind : mx_okX (mX8_wordKind, bX8_wordKind, [(4, 203), (1, 6), (4, 202), (0, 7)]) = true := by decide +kernel
set_option maxRecDepth 100000 in
theorem kX8_isLetter : mx_okX (mX8_isLetter, bX8_isLetter, [(4, 191), (1, 6), (4, 190), (0, 0)]) = true := by decide +kernel
set_option maxRecDepth 100000 in
theorem kX8_isDigit : mx_okX (mX8_isDigit, bX8_isDigit, [(4, 195), (1, 6), (4, 194), (0, 0)]) = true := by decide +kernel
set_option maxRecDepth 100000 in
theorem kX9_init : mx_okX (mX9_init, bX9_init, [(3, 89), (1, 13), (3, 88), (0, 0)]) = true := by decide +kernel
set_option maxRecDepth 100000 in
theorem kX9_isMissing : mx_okX (mX9_isMissing, bX9_isMissing, [(8, 88), (1, 13), (8, 86), (8, 87)]) = true := by decide +kernel
set_option maxRecDepth 100000 in
theorem kX9_renew : mx_okX (mX9_renew, bX9_renew, [(8, 76), (1, 13), (8, 74), (8, 75)]) = true := by decide +kernel
set_option maxRecDepth 100000 in
theorem kX9_setNumber : mx_okX (mX9_setNumber, bX9_setNumber, [(8, 110), (1, 13), (8, 108), (8, 109)]) = true := by decide +kernel
set_option maxRecDepth 100000 in
theorem kX9_cutTo : mx_okX (mX9_cutTo, bX9_cutTo, [(8, 113), (1, 13), (8, 112), (0, 0)]) = true := by decide +kernel
set_option maxRecDepth 100000 in
theorem kX9_number : mx_okX (mX9_number, bX9_number, [(8, 117), (1, 13), (8, 115), (8, 116)]) = true := by decide +kernel
set_option maxRecDepth 100000 in
theorem kX9_copy : mx_okX (mX9_copy, bX9_copy, [(8, 135), (1, 13), (8, 133), (8, 134)]) = true := by decide +kernel
set_option maxRecDepth 100000 in
theorem kX10_init : mx_okX (mX10_init, bX10_init, [(2, 83), (1, 9), (2, 82), (0, 0)]) = true := by decide +kernel
set_option maxRecDepth 100000 in
theorem kX10_hasRoom : mx_okX (mX10_hasRoom, bX10_hasRoom, [(6, 8), (1, 9), (6, 6), (6, 7)]) = true := by decide +kernel
set_option maxRecDepth 100000 in
theorem kX10_canTell : mx_okX (mX10_canTell, bX10_canTell, [(6, 12), (1, 9), (6, 10), (6, 11)]) = true := by decide +kernel
set_option maxRecDepth 100000 in
theorem kX10_addTold : mx_okX (mX10_addTold, bX10_addTold, [(6, 40), (1, 9), (6, 38), (6, 39)]) = true := by decide +kernel
set_option maxRecDepth 100000 in
theorem kX10_addWord : mx_okX (mX10_addWord, bX10_addWord, [(6, 44), (1, 9), (6, 43), (0, 35)]) = true := by decide +kernel
set_option maxRecDepth 100000 in
theorem kX10_isPaid : mx_okX (mX10_isPaid, bX10_isPaid, [(6, 64), (1, 9), (6, 63), (0, 37)]) = true := by decide +kernel
set_option maxRecDepth 100000 in
theorem kX10_tellerHeardPaid : mx_okX (mX10_tellerHeardPaid, bX10_tellerHeardPaid, [(6, 101), (1, 9), (6, 100), (0, 40)]) = true := by decide +kernel
set_option maxRecDepth 100000 in
theorem kX10_stopWhenHeard : mx_okX (mX10_stopWhenHeard, bX10_stopWhenHeard, [(6, 81), (1, 9), (6, 80), (0, 39)]) = true := by decide +kernel
set_option maxRecDepth 100000 in
theorem kX10_canPay : mx_okX (mX10_canPay, bX10_canPay, [(6, 60), (1, 9), (6, 58), (6, 59)]) = true := by decide +kernel
set_option maxRecDepth 100000 in
theorem kX10_hearSecret : mx_okX (mX10_hearSecret, bX10_hearSecret, [(6, 73), (1, 9), (6, 71), (6, 72)]) = true := by decide +kernel
set_option maxRecDepth 100000 in
theorem kX10_payOut : mx_okX (mX10_payOut, bX10_payOut, [(6, 77), (1, 9), (6, 76), (0, 38)]) = true := by decide +kernel
set_option maxRecDepth 100000 in
theorem kX10_canTakeBack : mx_okX (mX10_canTakeBack, bX10_canTakeBack, [(6, 97), (1, 9), (6, 95), (6, 96)]) = true := by decide +kernel
set_option maxRecDepth 100000 in
theorem kX10_takeBack : mx_okX (mX10_takeBack, bX10_takeBack, [(6, 109), (1, 9), (6, 107), (6, 108)]) = true := by decide +kernel
set_option maxRecDepth 100000 in
theorem kX10_canTwin : mx_okX (mX10_canTwin, bX10_canTwin, [(6, 120), (1, 9), (6, 118), (6, 119)]) = true := by decide +kernel
set_option maxRecDepth 100000 in
theorem kX10_addTwin : mx_okX (mX10_addTwin, bX10_addTwin, [(6, 124), (1, 9), (6, 122), (6, 123)]) = true := by decide +kernel
set_option maxRecDepth 100000 in
theorem kX10_stopAllOf : mx_okX (mX10_stopAllOf, bX10_stopAllOf, [(8, 0), (1, 9), (7, 238), (7, 239)]) = true := by decide +kernel
