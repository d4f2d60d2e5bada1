/-! each method passes the check -/
theorem wX0_init : mx_cw mX0_init ∈ mx_Ts := mx_inTs 1 92 rfl rfl
set_option maxRecDepth 100000 in
theorem kX0_init : mx_okX (mX0_init, bX0_init, [(1, 92), (1, 4), (1, 91), (0, 0)]) = true := by decide +kernel
theorem wX0_addBroker : mx_cw mX0_addBroker ∈ mx_Ts := mx_inTs 4 132 rfl rfl
set_option maxRecDepth 100000 in
theorem kX0_addBroker : mx_okX (mX0_addBroker, bX0_addBroker, [(4, 132), (1, 4), (4, 130), (4, 131)]) = true := by decide +kernel
theorem wX0_hasFallen : mx_cw mX0_hasFallen ∈ mx_Ts := mx_inTs 3 169 rfl rfl
set_option maxRecDepth 100000 in
theorem kX0_hasFallen : mx_okX (mX0_hasFallen, bX0_hasFallen, [(3, 169), (1, 4), (3, 167), (3, 168)]) = true := by decide +kernel
theorem wX0_fallenSet : mx_cw mX0_fallenSet ∈ mx_Ts := mx_inTs 3 165 rfl rfl
set_option maxRecDepth 100000 in
theorem kX0_fallenSet : mx_okX (mX0_fallenSet, bX0_fallenSet, [(3, 165), (1, 4), (3, 163), (3, 164)]) = true := by decide +kernel
theorem wX0_has : mx_cw mX0_has ∈ mx_Ts := mx_inTs 4 147 rfl rfl
set_option maxRecDepth 100000 in
theorem kX0_has : mx_okX (mX0_has, bX0_has, [(4, 147), (1, 4), (4, 145), (4, 146)]) = true := by decide +kernel
theorem wX0_gets : mx_cw mX0_gets ∈ mx_Ts := mx_inTs 4 153 rfl rfl
set_option maxRecDepth 100000 in
theorem kX0_gets : mx_okX (mX0_gets, bX0_gets, [(4, 153), (1, 4), (4, 151), (4, 152)]) = true := by decide +kernel
theorem wX0_empty : mx_cw mX0_empty ∈ mx_Ts := mx_inTs 8 4 rfl rfl
set_option maxRecDepth 100000 in
theorem kX0_empty : mx_okX (mX0_empty, bX0_empty, [(8, 4), (1, 4), (8, 2), (8, 3)]) = true := by decide +kernel
theorem wX0_seasons : mx_cw mX0_seasons ∈ mx_Ts := mx_inTs 5 204 rfl rfl
set_option maxRecDepth 100000 in
theorem kX0_seasons : mx_okX (mX0_seasons, bX0_seasons, [(5, 204), (1, 4), (5, 202), (5, 203)]) = true := by decide +kernel
theorem wX0_lagTo : mx_cw mX0_lagTo ∈ mx_Ts := mx_inTs 5 199 rfl rfl
set_option maxRecDepth 100000 in
theorem kX0_lagTo : mx_okX (mX0_lagTo, bX0_lagTo, [(5, 199), (1, 4), (5, 197), (5, 198)]) = true := by decide +kernel
theorem wX0_drawerWorth : mx_cw mX0_drawerWorth ∈ mx_Ts := mx_inTs 7 199 rfl rfl
set_option maxRecDepth 100000 in
theorem kX0_drawerWorth : mx_okX (mX0_drawerWorth, bX0_drawerWorth, [(7, 199), (1, 4), (7, 197), (7, 198)]) = true := by decide +kernel
theorem wX1_init : mx_cw mX1_init ∈ mx_Ts := mx_inTs 2 146 rfl rfl
set_option maxRecDepth 100000 in
theorem kX1_init : mx_okX (mX1_init, bX1_init, [(2, 146), (1, 10), (2, 145), (0, 0)]) = true := by decide +kernel
theorem wX1_findRing : mx_cw mX1_findRing ∈ mx_Ts := mx_inTs 6 221 rfl rfl
set_option maxRecDepth 100000 in
theorem kX1_findRing : mx_okX (mX1_findRing, bX1_findRing, [(6, 221), (1, 10), (6, 219), (6, 220)]) = true := by decide +kernel
theorem wX1_extend : mx_cw mX1_extend ∈ mx_Ts := mx_inTs 6 226 rfl rfl
set_option maxRecDepth 100000 in
theorem kX1_extend : mx_okX (mX1_extend, bX1_extend, [(6, 226), (1, 10), (6, 225), (0, 42)]) = true := by decide +kernel
theorem wX1_isBetter : mx_cw mX1_isBetter ∈ mx_Ts := mx_inTs 6 232 rfl rfl
set_option maxRecDepth 100000 in
theorem kX1_isBetter : mx_okX (mX1_isBetter, bX1_isBetter, [(6, 232), (1, 10), (6, 231), (0, 43)]) = true := by decide +kernel
theorem wX1_isOnPath : mx_cw mX1_isOnPath ∈ mx_Ts := mx_inTs 6 237 rfl rfl
set_option maxRecDepth 100000 in
theorem kX1_isOnPath : mx_okX (mX1_isOnPath, bX1_isOnPath, [(6, 237), (1, 10), (6, 236), (0, 44)]) = true := by decide +kernel
theorem wX1_crossOut : mx_cw mX1_crossOut ∈ mx_Ts := mx_inTs 7 8 rfl rfl
set_option maxRecDepth 100000 in
theorem kX1_crossOut : mx_okX (mX1_crossOut, bX1_crossOut, [(7, 8), (1, 10), (7, 6), (7, 7)]) = true := by decide +kernel
theorem wX1_findSettlings : mx_cw mX1_findSettlings ∈ mx_Ts := mx_inTs 7 24 rfl rfl
set_option maxRecDepth 100000 in
theorem kX1_findSettlings : mx_okX (mX1_findSettlings, bX1_findSettlings, [(7, 24), (1, 10), (7, 22), (7, 23)]) = true := by decide +kernel
theorem wX1_takeMembers : mx_cw mX1_takeMembers ∈ mx_Ts := mx_inTs 7 28 rfl rfl
set_option maxRecDepth 100000 in
theorem kX1_takeMembers : mx_okX (mX1_takeMembers, bX1_takeMembers, [(7, 28), (1, 10), (7, 27), (0, 46)]) = true := by decide +kernel
theorem wX1_countGroups : mx_cw mX1_countGroups ∈ mx_Ts := mx_inTs 7 33 rfl rfl
set_option maxRecDepth 100000 in
theorem kX1_countGroups : mx_okX (mX1_countGroups, bX1_countGroups, [(7, 33), (1, 10), (7, 32), (0, 47)]) = true := by decide +kernel
theorem wX1_mostGroups : mx_cw mX1_mostGroups ∈ mx_Ts := mx_inTs 7 41 rfl rfl
set_option maxRecDepth 100000 in
theorem kX1_mostGroups : mx_okX (mX1_mostGroups, bX1_mostGroups, [(7, 41), (1, 10), (7, 40), (0, 48)]) = true := by decide +kernel
theorem wX1_leastGroup : mx_cw mX1_leastGroup ∈ mx_Ts := mx_inTs 7 46 rfl rfl
set_option maxRecDepth 100000 in
theorem kX1_leastGroup : mx_okX (mX1_leastGroup, bX1_leastGroup, [(7, 46), (1, 10), (7, 45), (0, 49)]) = true := by decide +kernel
theorem wX1_settleGroup : mx_cw mX1_settleGroup ∈ mx_Ts := mx_inTs 7 50 rfl rfl
set_option maxRecDepth 100000 in
theorem kX1_settleGroup : mx_okX (mX1_settleGroup, bX1_settleGroup, [(7, 50), (1, 10), (7, 49), (0, 50)]) = true := by decide +kernel
theorem wX1_firstOf : mx_cw mX1_firstOf ∈ mx_Ts := mx_inTs 7 54 rfl rfl
set_option maxRecDepth 100000 in
theorem kX1_firstOf : mx_okX (mX1_firstOf, bX1_firstOf, [(7, 54), (1, 10), (7, 53), (0, 51)]) = true := by decide +kernel
theorem wX2_init : mx_cw mX2_init ∈ mx_Ts := mx_inTs 2 202 rfl rfl
set_option maxRecDepth 100000 in
theorem kX2_init : mx_okX (mX2_init, bX2_init, [(2, 202), (1, 11), (2, 201), (0, 0)]) = true := by decide +kernel
theorem wX2_addExpected : mx_cw mX2_addExpected ∈ mx_Ts := mx_inTs 7 85 rfl rfl
set_option maxRecDepth 100000 in
theorem kX2_addExpected : mx_okX (mX2_addExpected, bX2_addExpected, [(7, 85), (1, 11), (7, 83), (7, 84)]) = true := by decide +kernel
theorem wX2_dryDay : mx_cw mX2_dryDay ∈ mx_Ts := mx_inTs 7 96 rfl rfl
set_option maxRecDepth 100000 in
theorem kX2_dryDay : mx_okX (mX2_dryDay, bX2_dryDay, [(7, 96), (1, 11), (7, 94), (7, 95)]) = true := by decide +kernel
theorem wX2_takeDebts : mx_cw mX2_takeDebts ∈ mx_Ts := mx_inTs 7 116 rfl rfl
set_option maxRecDepth 100000 in
theorem kX2_takeDebts : mx_okX (mX2_takeDebts, bX2_takeDebts, [(7, 116), (1, 11), (7, 114), (7, 115)]) = true := by decide +kernel
theorem wX2_isTakenTwice : mx_cw mX2_isTakenTwice ∈ mx_Ts := mx_inTs 7 121 rfl rfl
set_option maxRecDepth 100000 in
theorem kX2_isTakenTwice : mx_okX (mX2_isTakenTwice, bX2_isTakenTwice, [(7, 121), (1, 11), (7, 120), (0, 52)]) = true := by decide +kernel
theorem wX2_findPlan : mx_cw mX2_findPlan ∈ mx_Ts := mx_inTs 7 126 rfl rfl
set_option maxRecDepth 100000 in
theorem kX2_findPlan : mx_okX (mX2_findPlan, bX2_findPlan, [(7, 126), (1, 11), (7, 124), (7, 125)]) = true := by decide +kernel
theorem wX2_foreseeWeek : mx_cw mX2_foreseeWeek ∈ mx_Ts := mx_inTs 7 130 rfl rfl
set_option maxRecDepth 100000 in
theorem kX2_foreseeWeek : mx_okX (mX2_foreseeWeek, bX2_foreseeWeek, [(7, 130), (1, 11), (7, 129), (0, 53)]) = true := by decide +kernel
theorem wX2_settlePart : mx_cw mX2_settlePart ∈ mx_Ts := mx_inTs 7 135 rfl rfl
set_option maxRecDepth 100000 in
theorem kX2_settlePart : mx_okX (mX2_settlePart, bX2_settlePart, [(7, 135), (1, 11), (7, 134), (0, 54)]) = true := by decide +kernel
theorem wX2_nobodyBelow : mx_cw mX2_nobodyBelow ∈ mx_Ts := mx_inTs 7 140 rfl rfl
set_option maxRecDepth 100000 in
theorem kX2_nobodyBelow : mx_okX (mX2_nobodyBelow, bX2_nobodyBelow, [(7, 140), (1, 11), (7, 139), (0, 55)]) = true := by decide +kernel
theorem wX2_latestWeek : mx_cw mX2_latestWeek ∈ mx_Ts := mx_inTs 7 144 rfl rfl
set_option maxRecDepth 100000 in
theorem kX2_latestWeek : mx_okX (mX2_latestWeek, bX2_latestWeek, [(7, 144), (1, 11), (7, 143), (0, 56)]) = true := by decide +kernel
theorem wX2_sumOfWeeks : mx_cw mX2_sumOfWeeks ∈ mx_Ts := mx_inTs 7 149 rfl rfl
set_option maxRecDepth 100000 in
theorem kX2_sumOfWeeks : mx_okX (mX2_sumOfWeeks, bX2_sumOfWeeks, [(7, 149), (1, 11), (7, 148), (0, 57)]) = true := by decide +kernel
theorem wX2_nextPlan : mx_cw mX2_nextPlan ∈ mx_Ts := mx_inTs 7 158 rfl rfl
set_option maxRecDepth 100000 in
theorem kX2_nextPlan : mx_okX (mX2_nextPlan, bX2_nextPlan, [(7, 158), (1, 11), (7, 157), (0, 59)]) = true := by decide +kernel
theorem wX2_isRight : mx_cw mX2_isRight ∈ mx_Ts := mx_inTs 7 153 rfl rfl
set_option maxRecDepth 100000 in
theorem kX2_isRight : mx_okX (mX2_isRight, bX2_isRight, [(7, 153), (1, 11), (7, 152), (0, 58)]) = true := by decide +kernel
