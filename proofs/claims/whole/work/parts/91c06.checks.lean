/-! each method passes the check -/
theorem wX12_debt : mx_cw mX12_debt ∈ mx_Ts := mx_inTs 10 111 rfl rfl
set_option maxRecDepth 100000 in
theorem kX12_debt : mx_okX (mX12_debt, bX12_debt, [(10, 111), (1, 14), (10, 110), (0, 85)]) = true := by decide +kernel
theorem wX12_claimOf : mx_cw mX12_claimOf ∈ mx_Ts := mx_inTs 10 107 rfl rfl
set_option maxRecDepth 100000 in
theorem kX12_claimOf : mx_okX (mX12_claimOf, bX12_claimOf, [(10, 107), (1, 14), (10, 106), (0, 84)]) = true := by decide +kernel
theorem wX12_owes : mx_cw mX12_owes ∈ mx_Ts := mx_inTs 10 87 rfl rfl
set_option maxRecDepth 100000 in
theorem kX12_owes : mx_okX (mX12_owes, bX12_owes, [(10, 87), (1, 14), (10, 85), (10, 86)]) = true := by decide +kernel
theorem wX12_heard : mx_cw mX12_heard ∈ mx_Ts := mx_inTs 10 99 rfl rfl
set_option maxRecDepth 100000 in
theorem kX12_heard : mx_okX (mX12_heard, bX12_heard, [(10, 99), (1, 14), (10, 97), (10, 98)]) = true := by decide +kernel
theorem wX12_claim : mx_cw mX12_claim ∈ mx_Ts := mx_inTs 10 103 rfl rfl
set_option maxRecDepth 100000 in
theorem kX12_claim : mx_okX (mX12_claim, bX12_claim, [(10, 103), (1, 14), (10, 101), (10, 102)]) = true := by decide +kernel
theorem wX12_entry : mx_cw mX12_entry ∈ mx_Ts := mx_inTs 10 121 rfl rfl
set_option maxRecDepth 100000 in
theorem kX12_entry : mx_okX (mX12_entry, bX12_entry, [(10, 121), (1, 14), (10, 119), (10, 120)]) = true := by decide +kernel
theorem wX12_feed : mx_cw mX12_feed ∈ mx_Ts := mx_inTs 10 125 rfl rfl
set_option maxRecDepth 100000 in
theorem kX12_feed : mx_okX (mX12_feed, bX12_feed, [(10, 125), (1, 14), (10, 123), (10, 124)]) = true := by decide +kernel
theorem wX12_see : mx_cw mX12_see ∈ mx_Ts := mx_inTs 10 141 rfl rfl
set_option maxRecDepth 100000 in
theorem kX12_see : mx_okX (mX12_see, bX12_see, [(10, 141), (1, 14), (10, 140), (0, 88)]) = true := by decide +kernel
theorem wX12_isLetter : mx_cw mX12_isLetter ∈ mx_Ts := mx_inTs 10 137 rfl rfl
set_option maxRecDepth 100000 in
theorem kX12_isLetter : mx_okX (mX12_isLetter, bX12_isLetter, [(10, 137), (1, 14), (10, 136), (0, 0)]) = true := by decide +kernel
theorem wX12_isDigit : mx_cw mX12_isDigit ∈ mx_Ts := mx_inTs 10 144 rfl rfl
set_option maxRecDepth 100000 in
theorem kX12_isDigit : mx_okX (mX12_isDigit, bX12_isDigit, [(10, 144), (1, 14), (10, 143), (0, 0)]) = true := by decide +kernel
theorem wX12_isMark : mx_cw mX12_isMark ∈ mx_Ts := mx_inTs 10 147 rfl rfl
set_option maxRecDepth 100000 in
theorem kX12_isMark : mx_okX (mX12_isMark, bX12_isMark, [(10, 147), (1, 14), (10, 146), (0, 0)]) = true := by decide +kernel
theorem wX12_goesOn : mx_cw mX12_goesOn ∈ mx_Ts := mx_inTs 10 134 rfl rfl
set_option maxRecDepth 100000 in
theorem kX12_goesOn : mx_okX (mX12_goesOn, bX12_goesOn, [(10, 134), (1, 14), (10, 133), (0, 87)]) = true := by decide +kernel
theorem wX12_wrong : mx_cw mX12_wrong ∈ mx_Ts := mx_inTs 10 173 rfl rfl
set_option maxRecDepth 100000 in
theorem kX12_wrong : mx_okX (mX12_wrong, bX12_wrong, [(10, 173), (1, 14), (10, 172), (0, 92)]) = true := by decide +kernel
theorem wX12_is : mx_cw mX12_is ∈ mx_Ts := mx_inTs 10 160 rfl rfl
set_option maxRecDepth 100000 in
theorem kX12_is : mx_okX (mX12_is, bX12_is, [(10, 160), (1, 14), (10, 159), (0, 91)]) = true := by decide +kernel
theorem wX12_isSign : mx_cw mX12_isSign ∈ mx_Ts := mx_inTs 10 185 rfl rfl
set_option maxRecDepth 100000 in
theorem kX12_isSign : mx_okX (mX12_isSign, bX12_isSign, [(10, 185), (1, 14), (10, 184), (0, 95)]) = true := by decide +kernel
theorem wX12_need : mx_cw mX12_need ∈ mx_Ts := mx_inTs 10 181 rfl rfl
set_option maxRecDepth 100000 in
theorem kX12_need : mx_okX (mX12_need, bX12_need, [(10, 181), (1, 14), (10, 180), (0, 94)]) = true := by decide +kernel
theorem wX12_emit : mx_cw mX12_emit ∈ mx_Ts := mx_inTs 10 226 rfl rfl
set_option maxRecDepth 100000 in
theorem kX12_emit : mx_okX (mX12_emit, bX12_emit, [(10, 226), (1, 14), (10, 225), (0, 102)]) = true := by decide +kernel
theorem wX12_nameNow : mx_cw mX12_nameNow ∈ mx_Ts := mx_inTs 10 214 rfl rfl
set_option maxRecDepth 100000 in
theorem kX12_nameNow : mx_okX (mX12_nameNow, bX12_nameNow, [(10, 214), (1, 14), (10, 213), (0, 101)]) = true := by decide +kernel
theorem wX12_whomNow : mx_cw mX12_whomNow ∈ mx_Ts := mx_inTs 10 193 rfl rfl
set_option maxRecDepth 100000 in
theorem kX12_whomNow : mx_okX (mX12_whomNow, bX12_whomNow, [(10, 193), (1, 14), (10, 192), (0, 97)]) = true := by decide +kernel
theorem wX12_saysNow : mx_cw mX12_saysNow ∈ mx_Ts := mx_inTs 10 155 rfl rfl
set_option maxRecDepth 100000 in
theorem kX12_saysNow : mx_okX (mX12_saysNow, bX12_saysNow, [(10, 155), (1, 14), (10, 154), (0, 90)]) = true := by decide +kernel
theorem wX12_opens : mx_cw mX12_opens ∈ mx_Ts := mx_inTs 10 230 rfl rfl
set_option maxRecDepth 100000 in
theorem kX12_opens : mx_okX (mX12_opens, bX12_opens, [(10, 230), (1, 14), (10, 229), (0, 103)]) = true := by decide +kernel
theorem wX12_readAtom : mx_cw mX12_readAtom ∈ mx_Ts := mx_inTs 10 210 rfl rfl
set_option maxRecDepth 100000 in
theorem kX12_readAtom : mx_okX (mX12_readAtom, bX12_readAtom, [(10, 210), (1, 14), (10, 209), (0, 100)]) = true := by decide +kernel
theorem wX12_readItem : mx_cw mX12_readItem ∈ mx_Ts := mx_inTs 10 206 rfl rfl
set_option maxRecDepth 100000 in
theorem kX12_readItem : mx_okX (mX12_readItem, bX12_readItem, [(10, 206), (1, 14), (10, 205), (0, 99)]) = true := by decide +kernel
theorem wX12_readSum : mx_cw mX12_readSum ∈ mx_Ts := mx_inTs 10 202 rfl rfl
set_option maxRecDepth 100000 in
theorem kX12_readSum : mx_okX (mX12_readSum, bX12_readSum, [(10, 202), (1, 14), (10, 201), (0, 98)]) = true := by decide +kernel
theorem wX12_readOne : mx_cw mX12_readOne ∈ mx_Ts := mx_inTs 11 3 rfl rfl
set_option maxRecDepth 100000 in
theorem kX12_readOne : mx_okX (mX12_readOne, bX12_readOne, [(11, 3), (1, 14), (11, 2), (0, 106)]) = true := by decide +kernel
theorem wX12_readPart : mx_cw mX12_readPart ∈ mx_Ts := mx_inTs 10 239 rfl rfl
set_option maxRecDepth 100000 in
theorem kX12_readPart : mx_okX (mX12_readPart, bX12_readPart, [(10, 239), (1, 14), (10, 238), (0, 105)]) = true := by decide +kernel
theorem wX12_readTest : mx_cw mX12_readTest ∈ mx_Ts := mx_inTs 10 235 rfl rfl
set_option maxRecDepth 100000 in
theorem kX12_readTest : mx_okX (mX12_readTest, bX12_readTest, [(10, 235), (1, 14), (10, 234), (0, 104)]) = true := by decide +kernel
theorem wX12_readNumber : mx_cw mX12_readNumber ∈ mx_Ts := mx_inTs 10 177 rfl rfl
set_option maxRecDepth 100000 in
theorem kX12_readNumber : mx_okX (mX12_readNumber, bX12_readNumber, [(10, 177), (1, 14), (10, 176), (0, 93)]) = true := by decide +kernel
theorem wX12_readSays : mx_cw mX12_readSays ∈ mx_Ts := mx_inTs 10 189 rfl rfl
set_option maxRecDepth 100000 in
theorem kX12_readSays : mx_okX (mX12_readSays, bX12_readSays, [(10, 189), (1, 14), (10, 188), (0, 96)]) = true := by decide +kernel
theorem wX12_readLine : mx_cw mX12_readLine ∈ mx_Ts := mx_inTs 10 151 rfl rfl
set_option maxRecDepth 100000 in
theorem kX12_readLine : mx_okX (mX12_readLine, bX12_readLine, [(10, 151), (1, 14), (10, 150), (0, 89)]) = true := by decide +kernel
theorem wX12_text : mx_cw mX12_text ∈ mx_Ts := mx_inTs 10 129 rfl rfl
set_option maxRecDepth 100000 in
theorem kX12_text : mx_okX (mX12_text, bX12_text, [(10, 129), (1, 14), (10, 127), (10, 128)]) = true := by decide +kernel
theorem wX12_fault : mx_cw mX12_fault ∈ mx_Ts := mx_inTs 11 10 rfl rfl
set_option maxRecDepth 100000 in
theorem kX12_fault : mx_okX (mX12_fault, bX12_fault, [(11, 10), (1, 14), (11, 8), (11, 9)]) = true := by decide +kernel
theorem wX12_stand : mx_cw mX12_stand ∈ mx_Ts := mx_inTs 11 18 rfl rfl
set_option maxRecDepth 100000 in
theorem kX12_stand : mx_okX (mX12_stand, bX12_stand, [(11, 18), (1, 14), (11, 17), (0, 107)]) = true := by decide +kernel
theorem wX12_isVoid : mx_cw mX12_isVoid ∈ mx_Ts := mx_inTs 11 22 rfl rfl
set_option maxRecDepth 100000 in
theorem kX12_isVoid : mx_okX (mX12_isVoid, bX12_isVoid, [(11, 22), (1, 14), (11, 21), (0, 108)]) = true := by decide +kernel
