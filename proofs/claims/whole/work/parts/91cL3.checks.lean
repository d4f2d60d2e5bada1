/-! the law's rows, 3 -/
set_option maxRecDepth 100000 in
theorem kL_law_r18 : ((((((((((((((((((((bL_law).drop 100).drop 100).drop 100).drop 100).drop 100).drop 100).drop 100).drop 100).drop 100).drop 100).drop 100).drop 100).drop 100).drop 100).drop 100).drop 100).drop 100).drop 100).take 100).all (fun e => mx_okB R_law code 8 (some .boolean) false mx_mT e) = true := by decide +kernel
set_option maxRecDepth 100000 in
theorem kL_law_r19 : (((((((((((((((((((((bL_law).drop 100).drop 100).drop 100).drop 100).drop 100).drop 100).drop 100).drop 100).drop 100).drop 100).drop 100).drop 100).drop 100).drop 100).drop 100).drop 100).drop 100).drop 100).drop 100).take 100).all (fun e => mx_okB R_law code 8 (some .boolean) false mx_mT e) = true := by decide +kernel
set_option maxRecDepth 100000 in
theorem kL_law_r20 : ((((((((((((((((((((((bL_law).drop 100).drop 100).drop 100).drop 100).drop 100).drop 100).drop 100).drop 100).drop 100).drop 100).drop 100).drop 100).drop 100).drop 100).drop 100).drop 100).drop 100).drop 100).drop 100).drop 100).take 100).all (fun e => mx_okB R_law code 8 (some .boolean) false mx_mT e) = true := by decide +kernel
set_option maxRecDepth 100000 in
theorem kL_law_r21 : (((((((((((((((((((((((bL_law).drop 100).drop 100).drop 100).drop 100).drop 100).drop 100).drop 100).drop 100).drop 100).drop 100).drop 100).drop 100).drop 100).drop 100).drop 100).drop 100).drop 100).drop 100).drop 100).drop 100).drop 100).take 100).all (fun e => mx_okB R_law code 8 (some .boolean) false mx_mT e) = true := by decide +kernel
set_option maxRecDepth 100000 in
theorem kL_law_r22 : ((((((((((((((((((((((((bL_law).drop 100).drop 100).drop 100).drop 100).drop 100).drop 100).drop 100).drop 100).drop 100).drop 100).drop 100).drop 100).drop 100).drop 100).drop 100).drop 100).drop 100).drop 100).drop 100).drop 100).drop 100).drop 100).take 100).all (fun e => mx_okB R_law code 8 (some .boolean) false mx_mT e) = true := by decide +kernel
set_option maxRecDepth 100000 in
theorem kL_law_r23 : ((((((((((((((((((((((((bL_law).drop 100).drop 100).drop 100).drop 100).drop 100).drop 100).drop 100).drop 100).drop 100).drop 100).drop 100).drop 100).drop 100).drop 100).drop 100).drop 100).drop 100).drop 100).drop 100).drop 100).drop 100).drop 100).drop 100).all (fun e => mx_okB R_law code 8 (some .boolean) false mx_mT e) = true := by decide +kernel
set_option maxRecDepth 100000 in
theorem kL_law_c : mx_ch bL_law = true := by decide +kernel
theorem kL_law : (mx_ch bL_law && bL_law.all (fun e => mx_okB R_law code 8 (some .boolean) false mx_mT e)) = true := by
  rw [Bool.and_eq_true]
  exact ⟨kL_law_c, mx_allc 100 kL_law_r0 (mx_allc 100 kL_law_r1 (mx_allc 100 kL_law_r2 (mx_allc 100 kL_law_r3 (mx_allc 100 kL_law_r4 (mx_allc 100 kL_law_r5 (mx_allc 100 kL_law_r6 (mx_allc 100 kL_law_r7 (mx_allc 100 kL_law_r8 (mx_allc 100 kL_law_r9 (mx_allc 100 kL_law_r10 (mx_allc 100 kL_law_r11 (mx_allc 100 kL_law_r12 (mx_allc 100 kL_law_r13 (mx_allc 100 kL_law_r14 (mx_allc 100 kL_law_r15 (mx_allc 100 kL_law_r16 (mx_allc 100 kL_law_r17 (mx_allc 100 kL_law_r18 (mx_allc 100 kL_law_r19 (mx_allc 100 kL_law_r20 (mx_allc 100 kL_law_r21 (mx_allc 100 kL_law_r22 (kL_law_r23)))))))))))))))))))))))⟩
