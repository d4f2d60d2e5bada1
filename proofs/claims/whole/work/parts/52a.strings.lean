/-! the string constants: length and charAt -/
theorem sJ0_checkIndex {T : Nat × (Nat → Int32)} {d : Nat} {Q : mz_K} {X : mz_X} {g : mz_S} {i n : Int} (hi : 0 ≤ i ∧ i < n) (hn : n ≤ 1000) (k : Q 0 g) : zC T (d + 2) 336 [mx_I i, mx_I n] g Q X := by
  refine zJ0_checkIndex_df160 ⟨zJ3_checkIndex_8e157 ?_, zJ3_checkIndex_8e157_i2 ?_⟩
  · first | with_reducible refine c_lt ?_ ?_ (fun z1 => ?_) (fun z1 => ?_) | with_reducible refine c_le ?_ ?_ (fun z1 => ?_) (fun z1 => ?_) | with_reducible refine c_eq ?_ ?_ (fun z1 => ?_) (fun z1 => ?_) | with_reducible refine c_ne ?_ ?_ (fun z1 => ?_) (fun z1 => ?_)
    · omega
    · omega
    · omega
    · first | with_reducible refine c_lt ?_ ?_ (fun z2 => ?_) (fun z2 => ?_) | with_reducible refine c_le ?_ ?_ (fun z2 => ?_) (fun z2 => ?_) | with_reducible refine c_eq ?_ ?_ (fun z2 => ?_) (fun z2 => ?_) | with_reducible refine c_ne ?_ ?_ (fun z2 => ?_) (fun z2 => ?_)
      · omega
      · omega
      · exact k
      · omega
  · first | with_reducible refine c_lt ?_ ?_ (fun z1 => ?_) (fun z1 => ?_) | with_reducible refine c_le ?_ ?_ (fun z1 => ?_) (fun z1 => ?_) | with_reducible refine c_eq ?_ ?_ (fun z1 => ?_) (fun z1 => ?_) | with_reducible refine c_ne ?_ ?_ (fun z1 => ?_) (fun z1 => ?_)
    · omega
    · omega
    · omega
    · first | with_reducible refine c_lt ?_ ?_ (fun z2 => ?_) (fun z2 => ?_) | with_reducible refine c_le ?_ ?_ (fun z2 => ?_) (fun z2 => ?_) | with_reducible refine c_eq ?_ ?_ (fun z2 => ?_) (fun z2 => ?_) | with_reducible refine c_ne ?_ ?_ (fun z2 => ?_) (fun z2 => ?_)
      · omega
      · omega
      · exact k
      · omega
theorem sLa_10 {T : Nat × (Nat → Int32)} {d : Nat} {Q : mz_K} {X : mz_X} {g : mz_S} (k : Q 1 g) : zC T (d + 1) 335 [mx_S 10] g Q X := zJ0_isLatin1_aae02_i18 ⟨fun z => absurd z (by decide), fun _ => ⟨fun z => absurd rfl z, fun _ => zJ0_isLatin1_aae02_i18_18 ⟨zb1, k⟩⟩⟩
theorem sLen_10 {T : Nat × (Nat → Int32)} {d : Nat} {Q : mz_K} {X : mz_X} {g : mz_S} (k : Q 120 g) : zC T (d + 2) 330 [mx_S 10] g Q X := by
  refine zJ0_length_8abf5_i17 (zJ0_coder_7d493_i17 ⟨fun z => absurd z (by decide), fun _ => zJ0_coder_7d493_i17_14 ⟨by decide, by decide, ?_⟩⟩)
  have e : mx_ishr 120 0 = 120 := by decide
  rw [e]; exact k
theorem tx_10 : ∀ i : Nat, i < 120 → mx_i2c (mx_iand ((mx_tx.getD 0 []).getD i 0) 255) = (mx_tx.getD 0 []).getD i 0 ∧ 0 ≤ (mx_tx.getD 0 []).getD i 0 ∧ (mx_tx.getD 0 []).getD i 0 ≤ 127 := by decide +kernel
theorem sChar_10 {T : Nat × (Nat → Int32)} {d : Nat} {Q : mz_K} {X : mz_X} {g : mz_S} {i : Nat} (hi : i < 120) (k : Q ((mx_tx.getD 0 []).getD i 0) g) : zC T (d + 4) 331 [mx_S 10, mx_I (i : Int)] g Q X := by
  have e := tx_10 i hi
  refine zJ0_charAt_5068e_i17 (sLa_10 ⟨fun z => absurd z (by decide), fun _ => zJ1_charAt_3b067_i17 (sJ0_checkIndex (by omega) (by omega) ?_)⟩)
  refine s_inN ?_ (fun ea => ?_)
  · omega
  try simp only [ea]
  clear ea
  rw [e.1, w32_of (by omega) (by omega)]
  exact ⟨by omega, by omega, by omega, by omega, k⟩
theorem sLa_11 {T : Nat × (Nat → Int32)} {d : Nat} {Q : mz_K} {X : mz_X} {g : mz_S} (k : Q 1 g) : zC T (d + 1) 335 [mx_S 11] g Q X := zJ0_isLatin1_aae02_i17 ⟨fun z => absurd z (by decide), fun _ => ⟨fun z => absurd rfl z, fun _ => zJ0_isLatin1_aae02_i17_18 ⟨zb1, k⟩⟩⟩
theorem sLen_11 {T : Nat × (Nat → Int32)} {d : Nat} {Q : mz_K} {X : mz_X} {g : mz_S} (k : Q 14 g) : zC T (d + 2) 330 [mx_S 11] g Q X := by
  refine zJ0_length_8abf5_i19 (zJ0_coder_7d493_i19 ⟨fun z => absurd z (by decide), fun _ => zJ0_coder_7d493_i19_14 ⟨by decide, by decide, ?_⟩⟩)
  have e : mx_ishr 14 0 = 14 := by decide
  rw [e]; exact k
theorem sLa_12 {T : Nat × (Nat → Int32)} {d : Nat} {Q : mz_K} {X : mz_X} {g : mz_S} (k : Q 1 g) : zC T (d + 1) 335 [mx_S 12] g Q X := zJ0_isLatin1_aae02_i2 ⟨fun z => absurd z (by decide), fun _ => ⟨fun z => absurd rfl z, fun _ => zJ0_isLatin1_aae02_i2_18 ⟨zb1, k⟩⟩⟩
theorem sLen_12 {T : Nat × (Nat → Int32)} {d : Nat} {Q : mz_K} {X : mz_X} {g : mz_S} (k : Q 3 g) : zC T (d + 2) 330 [mx_S 12] g Q X := by
  refine zJ0_length_8abf5_i2 (zJ0_coder_7d493_i2 ⟨fun z => absurd z (by decide), fun _ => zJ0_coder_7d493_i2_14 ⟨by decide, by decide, ?_⟩⟩)
  have e : mx_ishr 3 0 = 3 := by decide
  rw [e]; exact k
theorem tx_12 : ∀ i : Nat, i < 3 → mx_i2c (mx_iand ((mx_tx.getD 2 []).getD i 0) 255) = (mx_tx.getD 2 []).getD i 0 ∧ 0 ≤ (mx_tx.getD 2 []).getD i 0 ∧ (mx_tx.getD 2 []).getD i 0 ≤ 127 := by decide +kernel
theorem sChar_12 {T : Nat × (Nat → Int32)} {d : Nat} {Q : mz_K} {X : mz_X} {g : mz_S} {i : Nat} (hi : i < 3) (k : Q ((mx_tx.getD 2 []).getD i 0) g) : zC T (d + 4) 331 [mx_S 12, mx_I (i : Int)] g Q X := by
  have e := tx_12 i hi
  refine zJ0_charAt_5068e_i2 (sLa_12 ⟨fun z => absurd z (by decide), fun _ => zJ1_charAt_3b067_i2 (sJ0_checkIndex (by omega) (by omega) ?_)⟩)
  refine s_inN ?_ (fun ea => ?_)
  · omega
  try simp only [ea]
  clear ea
  rw [e.1, w32_of (by omega) (by omega)]
  exact ⟨by omega, by omega, by omega, by omega, k⟩
theorem sLa_13 {T : Nat × (Nat → Int32)} {d : Nat} {Q : mz_K} {X : mz_X} {g : mz_S} (k : Q 1 g) : zC T (d + 1) 335 [mx_S 13] g Q X := zJ0_isLatin1_aae02_i3 ⟨fun z => absurd z (by decide), fun _ => ⟨fun z => absurd rfl z, fun _ => zJ0_isLatin1_aae02_i3_18 ⟨zb1, k⟩⟩⟩
theorem sLen_13 {T : Nat × (Nat → Int32)} {d : Nat} {Q : mz_K} {X : mz_X} {g : mz_S} (k : Q 4 g) : zC T (d + 2) 330 [mx_S 13] g Q X := by
  refine zJ0_length_8abf5_i3 (zJ0_coder_7d493_i3 ⟨fun z => absurd z (by decide), fun _ => zJ0_coder_7d493_i3_14 ⟨by decide, by decide, ?_⟩⟩)
  have e : mx_ishr 4 0 = 4 := by decide
  rw [e]; exact k
theorem tx_13 : ∀ i : Nat, i < 4 → mx_i2c (mx_iand ((mx_tx.getD 3 []).getD i 0) 255) = (mx_tx.getD 3 []).getD i 0 ∧ 0 ≤ (mx_tx.getD 3 []).getD i 0 ∧ (mx_tx.getD 3 []).getD i 0 ≤ 127 := by decide +kernel
theorem sChar_13 {T : Nat × (Nat → Int32)} {d : Nat} {Q : mz_K} {X : mz_X} {g : mz_S} {i : Nat} (hi : i < 4) (k : Q ((mx_tx.getD 3 []).getD i 0) g) : zC T (d + 4) 331 [mx_S 13, mx_I (i : Int)] g Q X := by
  have e := tx_13 i hi
  refine zJ0_charAt_5068e_i3 (sLa_13 ⟨fun z => absurd z (by decide), fun _ => zJ1_charAt_3b067_i3 (sJ0_checkIndex (by omega) (by omega) ?_)⟩)
  refine s_inN ?_ (fun ea => ?_)
  · omega
  try simp only [ea]
  clear ea
  rw [e.1, w32_of (by omega) (by omega)]
  exact ⟨by omega, by omega, by omega, by omega, k⟩
theorem sLa_14 {T : Nat × (Nat → Int32)} {d : Nat} {Q : mz_K} {X : mz_X} {g : mz_S} (k : Q 1 g) : zC T (d + 1) 335 [mx_S 14] g Q X := zJ0_isLatin1_aae02_i4 ⟨fun z => absurd z (by decide), fun _ => ⟨fun z => absurd rfl z, fun _ => zJ0_isLatin1_aae02_i4_18 ⟨zb1, k⟩⟩⟩
theorem sLen_14 {T : Nat × (Nat → Int32)} {d : Nat} {Q : mz_K} {X : mz_X} {g : mz_S} (k : Q 5 g) : zC T (d + 2) 330 [mx_S 14] g Q X := by
  refine zJ0_length_8abf5_i4 (zJ0_coder_7d493_i4 ⟨fun z => absurd z (by decide), fun _ => zJ0_coder_7d493_i4_14 ⟨by decide, by decide, ?_⟩⟩)
  have e : mx_ishr 5 0 = 5 := by decide
  rw [e]; exact k
theorem tx_14 : ∀ i : Nat, i < 5 → mx_i2c (mx_iand ((mx_tx.getD 4 []).getD i 0) 255) = (mx_tx.getD 4 []).getD i 0 ∧ 0 ≤ (mx_tx.getD 4 []).getD i 0 ∧ (mx_tx.getD 4 []).getD i 0 ≤ 127 := by decide +kernel
theorem sChar_14 {T : Nat × (Nat → Int32)} {d : Nat} {Q : mz_K} {X : mz_X} {g : mz_S} {i : Nat} (hi : i < 5) (k : Q ((mx_tx.getD 4 []).getD i 0) g) : zC T (d + 4) 331 [mx_S 14, mx_I (i : Int)] g Q X := by
  have e := tx_14 i hi
  refine zJ0_charAt_5068e_i4 (sLa_14 ⟨fun z => absurd z (by decide), fun _ => zJ1_charAt_3b067_i4 (sJ0_checkIndex (by omega) (by omega) ?_)⟩)
  refine s_inN ?_ (fun ea => ?_)
  · omega
  try simp only [ea]
  clear ea
  rw [e.1, w32_of (by omega) (by omega)]
  exact ⟨by omega, by omega, by omega, by omega, k⟩
theorem sLa_15 {T : Nat × (Nat → Int32)} {d : Nat} {Q : mz_K} {X : mz_X} {g : mz_S} (k : Q 1 g) : zC T (d + 1) 335 [mx_S 15] g Q X := zJ0_isLatin1_aae02_i5 ⟨fun z => absurd z (by decide), fun _ => ⟨fun z => absurd rfl z, fun _ => zJ0_isLatin1_aae02_i5_18 ⟨zb1, k⟩⟩⟩
theorem sLen_15 {T : Nat × (Nat → Int32)} {d : Nat} {Q : mz_K} {X : mz_X} {g : mz_S} (k : Q 4 g) : zC T (d + 2) 330 [mx_S 15] g Q X := by
  refine zJ0_length_8abf5_i5 (zJ0_coder_7d493_i5 ⟨fun z => absurd z (by decide), fun _ => zJ0_coder_7d493_i5_14 ⟨by decide, by decide, ?_⟩⟩)
  have e : mx_ishr 4 0 = 4 := by decide
  rw [e]; exact k
theorem tx_15 : ∀ i : Nat, i < 4 → mx_i2c (mx_iand ((mx_tx.getD 5 []).getD i 0) 255) = (mx_tx.getD 5 []).getD i 0 ∧ 0 ≤ (mx_tx.getD 5 []).getD i 0 ∧ (mx_tx.getD 5 []).getD i 0 ≤ 127 := by decide +kernel
theorem sChar_15 {T : Nat × (Nat → Int32)} {d : Nat} {Q : mz_K} {X : mz_X} {g : mz_S} {i : Nat} (hi : i < 4) (k : Q ((mx_tx.getD 5 []).getD i 0) g) : zC T (d + 4) 331 [mx_S 15, mx_I (i : Int)] g Q X := by
  have e := tx_15 i hi
  refine zJ0_charAt_5068e_i5 (sLa_15 ⟨fun z => absurd z (by decide), fun _ => zJ1_charAt_3b067_i5 (sJ0_checkIndex (by omega) (by omega) ?_)⟩)
  refine s_inN ?_ (fun ea => ?_)
  · omega
  try simp only [ea]
  clear ea
  rw [e.1, w32_of (by omega) (by omega)]
  exact ⟨by omega, by omega, by omega, by omega, k⟩
theorem sLa_16 {T : Nat × (Nat → Int32)} {d : Nat} {Q : mz_K} {X : mz_X} {g : mz_S} (k : Q 1 g) : zC T (d + 1) 335 [mx_S 16] g Q X := zJ0_isLatin1_aae02_i6 ⟨fun z => absurd z (by decide), fun _ => ⟨fun z => absurd rfl z, fun _ => zJ0_isLatin1_aae02_i6_18 ⟨zb1, k⟩⟩⟩
theorem sLen_16 {T : Nat × (Nat → Int32)} {d : Nat} {Q : mz_K} {X : mz_X} {g : mz_S} (k : Q 5 g) : zC T (d + 2) 330 [mx_S 16] g Q X := by
  refine zJ0_length_8abf5_i6 (zJ0_coder_7d493_i6 ⟨fun z => absurd z (by decide), fun _ => zJ0_coder_7d493_i6_14 ⟨by decide, by decide, ?_⟩⟩)
  have e : mx_ishr 5 0 = 5 := by decide
  rw [e]; exact k
theorem tx_16 : ∀ i : Nat, i < 5 → mx_i2c (mx_iand ((mx_tx.getD 6 []).getD i 0) 255) = (mx_tx.getD 6 []).getD i 0 ∧ 0 ≤ (mx_tx.getD 6 []).getD i 0 ∧ (mx_tx.getD 6 []).getD i 0 ≤ 127 := by decide +kernel
theorem sChar_16 {T : Nat × (Nat → Int32)} {d : Nat} {Q : mz_K} {X : mz_X} {g : mz_S} {i : Nat} (hi : i < 5) (k : Q ((mx_tx.getD 6 []).getD i 0) g) : zC T (d + 4) 331 [mx_S 16, mx_I (i : Int)] g Q X := by
  have e := tx_16 i hi
  refine zJ0_charAt_5068e_i6 (sLa_16 ⟨fun z => absurd z (by decide), fun _ => zJ1_charAt_3b067_i6 (sJ0_checkIndex (by omega) (by omega) ?_)⟩)
  refine s_inN ?_ (fun ea => ?_)
  · omega
  try simp only [ea]
  clear ea
  rw [e.1, w32_of (by omega) (by omega)]
  exact ⟨by omega, by omega, by omega, by omega, k⟩
theorem sLa_17 {T : Nat × (Nat → Int32)} {d : Nat} {Q : mz_K} {X : mz_X} {g : mz_S} (k : Q 1 g) : zC T (d + 1) 335 [mx_S 17] g Q X := zJ0_isLatin1_aae02_i7 ⟨fun z => absurd z (by decide), fun _ => ⟨fun z => absurd rfl z, fun _ => zJ0_isLatin1_aae02_i7_18 ⟨zb1, k⟩⟩⟩
theorem sLen_17 {T : Nat × (Nat → Int32)} {d : Nat} {Q : mz_K} {X : mz_X} {g : mz_S} (k : Q 4 g) : zC T (d + 2) 330 [mx_S 17] g Q X := by
  refine zJ0_length_8abf5_i7 (zJ0_coder_7d493_i7 ⟨fun z => absurd z (by decide), fun _ => zJ0_coder_7d493_i7_14 ⟨by decide, by decide, ?_⟩⟩)
  have e : mx_ishr 4 0 = 4 := by decide
  rw [e]; exact k
theorem tx_17 : ∀ i : Nat, i < 4 → mx_i2c (mx_iand ((mx_tx.getD 7 []).getD i 0) 255) = (mx_tx.getD 7 []).getD i 0 ∧ 0 ≤ (mx_tx.getD 7 []).getD i 0 ∧ (mx_tx.getD 7 []).getD i 0 ≤ 127 := by decide +kernel
theorem sChar_17 {T : Nat × (Nat → Int32)} {d : Nat} {Q : mz_K} {X : mz_X} {g : mz_S} {i : Nat} (hi : i < 4) (k : Q ((mx_tx.getD 7 []).getD i 0) g) : zC T (d + 4) 331 [mx_S 17, mx_I (i : Int)] g Q X := by
  have e := tx_17 i hi
  refine zJ0_charAt_5068e_i7 (sLa_17 ⟨fun z => absurd z (by decide), fun _ => zJ1_charAt_3b067_i7 (sJ0_checkIndex (by omega) (by omega) ?_)⟩)
  refine s_inN ?_ (fun ea => ?_)
  · omega
  try simp only [ea]
  clear ea
  rw [e.1, w32_of (by omega) (by omega)]
  exact ⟨by omega, by omega, by omega, by omega, k⟩
theorem sLa_18 {T : Nat × (Nat → Int32)} {d : Nat} {Q : mz_K} {X : mz_X} {g : mz_S} (k : Q 1 g) : zC T (d + 1) 335 [mx_S 18] g Q X := zJ0_isLatin1_aae02_i8 ⟨fun z => absurd z (by decide), fun _ => ⟨fun z => absurd rfl z, fun _ => zJ0_isLatin1_aae02_i8_18 ⟨zb1, k⟩⟩⟩
theorem sLen_18 {T : Nat × (Nat → Int32)} {d : Nat} {Q : mz_K} {X : mz_X} {g : mz_S} (k : Q 3 g) : zC T (d + 2) 330 [mx_S 18] g Q X := by
  refine zJ0_length_8abf5_i8 (zJ0_coder_7d493_i8 ⟨fun z => absurd z (by decide), fun _ => zJ0_coder_7d493_i8_14 ⟨by decide, by decide, ?_⟩⟩)
  have e : mx_ishr 3 0 = 3 := by decide
  rw [e]; exact k
theorem tx_18 : ∀ i : Nat, i < 3 → mx_i2c (mx_iand ((mx_tx.getD 8 []).getD i 0) 255) = (mx_tx.getD 8 []).getD i 0 ∧ 0 ≤ (mx_tx.getD 8 []).getD i 0 ∧ (mx_tx.getD 8 []).getD i 0 ≤ 127 := by decide +kernel
theorem sChar_18 {T : Nat × (Nat → Int32)} {d : Nat} {Q : mz_K} {X : mz_X} {g : mz_S} {i : Nat} (hi : i < 3) (k : Q ((mx_tx.getD 8 []).getD i 0) g) : zC T (d + 4) 331 [mx_S 18, mx_I (i : Int)] g Q X := by
  have e := tx_18 i hi
  refine zJ0_charAt_5068e_i8 (sLa_18 ⟨fun z => absurd z (by decide), fun _ => zJ1_charAt_3b067_i8 (sJ0_checkIndex (by omega) (by omega) ?_)⟩)
  refine s_inN ?_ (fun ea => ?_)
  · omega
  try simp only [ea]
  clear ea
  rw [e.1, w32_of (by omega) (by omega)]
  exact ⟨by omega, by omega, by omega, by omega, k⟩
theorem sLa_19 {T : Nat × (Nat → Int32)} {d : Nat} {Q : mz_K} {X : mz_X} {g : mz_S} (k : Q 1 g) : zC T (d + 1) 335 [mx_S 19] g Q X := zJ0_isLatin1_aae02_i9 ⟨fun z => absurd z (by decide), fun _ => ⟨fun z => absurd rfl z, fun _ => zJ0_isLatin1_aae02_i9_18 ⟨zb1, k⟩⟩⟩
theorem sLen_19 {T : Nat × (Nat → Int32)} {d : Nat} {Q : mz_K} {X : mz_X} {g : mz_S} (k : Q 4 g) : zC T (d + 2) 330 [mx_S 19] g Q X := by
  refine zJ0_length_8abf5_i9 (zJ0_coder_7d493_i9 ⟨fun z => absurd z (by decide), fun _ => zJ0_coder_7d493_i9_14 ⟨by decide, by decide, ?_⟩⟩)
  have e : mx_ishr 4 0 = 4 := by decide
  rw [e]; exact k
theorem tx_19 : ∀ i : Nat, i < 4 → mx_i2c (mx_iand ((mx_tx.getD 9 []).getD i 0) 255) = (mx_tx.getD 9 []).getD i 0 ∧ 0 ≤ (mx_tx.getD 9 []).getD i 0 ∧ (mx_tx.getD 9 []).getD i 0 ≤ 127 := by decide +kernel
theorem sChar_19 {T : Nat × (Nat → Int32)} {d : Nat} {Q : mz_K} {X : mz_X} {g : mz_S} {i : Nat} (hi : i < 4) (k : Q ((mx_tx.getD 9 []).getD i 0) g) : zC T (d + 4) 331 [mx_S 19, mx_I (i : Int)] g Q X := by
  have e := tx_19 i hi
  refine zJ0_charAt_5068e_i9 (sLa_19 ⟨fun z => absurd z (by decide), fun _ => zJ1_charAt_3b067_i9 (sJ0_checkIndex (by omega) (by omega) ?_)⟩)
  refine s_inN ?_ (fun ea => ?_)
  · omega
  try simp only [ea]
  clear ea
  rw [e.1, w32_of (by omega) (by omega)]
  exact ⟨by omega, by omega, by omega, by omega, k⟩
theorem sLa_20 {T : Nat × (Nat → Int32)} {d : Nat} {Q : mz_K} {X : mz_X} {g : mz_S} (k : Q 1 g) : zC T (d + 1) 335 [mx_S 20] g Q X := zJ0_isLatin1_aae02_i13 ⟨fun z => absurd z (by decide), fun _ => ⟨fun z => absurd rfl z, fun _ => zJ0_isLatin1_aae02_i13_18 ⟨zb1, k⟩⟩⟩
theorem sLen_20 {T : Nat × (Nat → Int32)} {d : Nat} {Q : mz_K} {X : mz_X} {g : mz_S} (k : Q 3 g) : zC T (d + 2) 330 [mx_S 20] g Q X := by
  refine zJ0_length_8abf5_i13 (zJ0_coder_7d493_i13 ⟨fun z => absurd z (by decide), fun _ => zJ0_coder_7d493_i13_14 ⟨by decide, by decide, ?_⟩⟩)
  have e : mx_ishr 3 0 = 3 := by decide
  rw [e]; exact k
theorem tx_20 : ∀ i : Nat, i < 3 → mx_i2c (mx_iand ((mx_tx.getD 10 []).getD i 0) 255) = (mx_tx.getD 10 []).getD i 0 ∧ 0 ≤ (mx_tx.getD 10 []).getD i 0 ∧ (mx_tx.getD 10 []).getD i 0 ≤ 127 := by decide +kernel
theorem sChar_20 {T : Nat × (Nat → Int32)} {d : Nat} {Q : mz_K} {X : mz_X} {g : mz_S} {i : Nat} (hi : i < 3) (k : Q ((mx_tx.getD 10 []).getD i 0) g) : zC T (d + 4) 331 [mx_S 20, mx_I (i : Int)] g Q X := by
  have e := tx_20 i hi
  refine zJ0_charAt_5068e_i13 (sLa_20 ⟨fun z => absurd z (by decide), fun _ => zJ1_charAt_3b067_i13 (sJ0_checkIndex (by omega) (by omega) ?_)⟩)
  refine s_inN ?_ (fun ea => ?_)
  · omega
  try simp only [ea]
  clear ea
  rw [e.1, w32_of (by omega) (by omega)]
  exact ⟨by omega, by omega, by omega, by omega, k⟩
theorem sLa_21 {T : Nat × (Nat → Int32)} {d : Nat} {Q : mz_K} {X : mz_X} {g : mz_S} (k : Q 1 g) : zC T (d + 1) 335 [mx_S 21] g Q X := zJ0_isLatin1_aae02_i14 ⟨fun z => absurd z (by decide), fun _ => ⟨fun z => absurd rfl z, fun _ => zJ0_isLatin1_aae02_i14_18 ⟨zb1, k⟩⟩⟩
theorem sLen_21 {T : Nat × (Nat → Int32)} {d : Nat} {Q : mz_K} {X : mz_X} {g : mz_S} (k : Q 4 g) : zC T (d + 2) 330 [mx_S 21] g Q X := by
  refine zJ0_length_8abf5_i14 (zJ0_coder_7d493_i14 ⟨fun z => absurd z (by decide), fun _ => zJ0_coder_7d493_i14_14 ⟨by decide, by decide, ?_⟩⟩)
  have e : mx_ishr 4 0 = 4 := by decide
  rw [e]; exact k
theorem tx_21 : ∀ i : Nat, i < 4 → mx_i2c (mx_iand ((mx_tx.getD 11 []).getD i 0) 255) = (mx_tx.getD 11 []).getD i 0 ∧ 0 ≤ (mx_tx.getD 11 []).getD i 0 ∧ (mx_tx.getD 11 []).getD i 0 ≤ 127 := by decide +kernel
theorem sChar_21 {T : Nat × (Nat → Int32)} {d : Nat} {Q : mz_K} {X : mz_X} {g : mz_S} {i : Nat} (hi : i < 4) (k : Q ((mx_tx.getD 11 []).getD i 0) g) : zC T (d + 4) 331 [mx_S 21, mx_I (i : Int)] g Q X := by
  have e := tx_21 i hi
  refine zJ0_charAt_5068e_i14 (sLa_21 ⟨fun z => absurd z (by decide), fun _ => zJ1_charAt_3b067_i14 (sJ0_checkIndex (by omega) (by omega) ?_)⟩)
  refine s_inN ?_ (fun ea => ?_)
  · omega
  try simp only [ea]
  clear ea
  rw [e.1, w32_of (by omega) (by omega)]
  exact ⟨by omega, by omega, by omega, by omega, k⟩
theorem sLa_22 {T : Nat × (Nat → Int32)} {d : Nat} {Q : mz_K} {X : mz_X} {g : mz_S} (k : Q 1 g) : zC T (d + 1) 335 [mx_S 22] g Q X := zJ0_isLatin1_aae02_i15 ⟨fun z => absurd z (by decide), fun _ => ⟨fun z => absurd rfl z, fun _ => zJ0_isLatin1_aae02_i15_18 ⟨zb1, k⟩⟩⟩
theorem sLen_22 {T : Nat × (Nat → Int32)} {d : Nat} {Q : mz_K} {X : mz_X} {g : mz_S} (k : Q 3 g) : zC T (d + 2) 330 [mx_S 22] g Q X := by
  refine zJ0_length_8abf5_i15 (zJ0_coder_7d493_i15 ⟨fun z => absurd z (by decide), fun _ => zJ0_coder_7d493_i15_14 ⟨by decide, by decide, ?_⟩⟩)
  have e : mx_ishr 3 0 = 3 := by decide
  rw [e]; exact k
theorem tx_22 : ∀ i : Nat, i < 3 → mx_i2c (mx_iand ((mx_tx.getD 12 []).getD i 0) 255) = (mx_tx.getD 12 []).getD i 0 ∧ 0 ≤ (mx_tx.getD 12 []).getD i 0 ∧ (mx_tx.getD 12 []).getD i 0 ≤ 127 := by decide +kernel
theorem sChar_22 {T : Nat × (Nat → Int32)} {d : Nat} {Q : mz_K} {X : mz_X} {g : mz_S} {i : Nat} (hi : i < 3) (k : Q ((mx_tx.getD 12 []).getD i 0) g) : zC T (d + 4) 331 [mx_S 22, mx_I (i : Int)] g Q X := by
  have e := tx_22 i hi
  refine zJ0_charAt_5068e_i15 (sLa_22 ⟨fun z => absurd z (by decide), fun _ => zJ1_charAt_3b067_i15 (sJ0_checkIndex (by omega) (by omega) ?_)⟩)
  refine s_inN ?_ (fun ea => ?_)
  · omega
  try simp only [ea]
  clear ea
  rw [e.1, w32_of (by omega) (by omega)]
  exact ⟨by omega, by omega, by omega, by omega, k⟩
theorem sLa_23 {T : Nat × (Nat → Int32)} {d : Nat} {Q : mz_K} {X : mz_X} {g : mz_S} (k : Q 1 g) : zC T (d + 1) 335 [mx_S 23] g Q X := zJ0_isLatin1_aae02_i10 ⟨fun z => absurd z (by decide), fun _ => ⟨fun z => absurd rfl z, fun _ => zJ0_isLatin1_aae02_i10_18 ⟨zb1, k⟩⟩⟩
theorem sLen_23 {T : Nat × (Nat → Int32)} {d : Nat} {Q : mz_K} {X : mz_X} {g : mz_S} (k : Q 6 g) : zC T (d + 2) 330 [mx_S 23] g Q X := by
  refine zJ0_length_8abf5_i10 (zJ0_coder_7d493_i10 ⟨fun z => absurd z (by decide), fun _ => zJ0_coder_7d493_i10_14 ⟨by decide, by decide, ?_⟩⟩)
  have e : mx_ishr 6 0 = 6 := by decide
  rw [e]; exact k
theorem tx_23 : ∀ i : Nat, i < 6 → mx_i2c (mx_iand ((mx_tx.getD 13 []).getD i 0) 255) = (mx_tx.getD 13 []).getD i 0 ∧ 0 ≤ (mx_tx.getD 13 []).getD i 0 ∧ (mx_tx.getD 13 []).getD i 0 ≤ 127 := by decide +kernel
theorem sChar_23 {T : Nat × (Nat → Int32)} {d : Nat} {Q : mz_K} {X : mz_X} {g : mz_S} {i : Nat} (hi : i < 6) (k : Q ((mx_tx.getD 13 []).getD i 0) g) : zC T (d + 4) 331 [mx_S 23, mx_I (i : Int)] g Q X := by
  have e := tx_23 i hi
  refine zJ0_charAt_5068e_i10 (sLa_23 ⟨fun z => absurd z (by decide), fun _ => zJ1_charAt_3b067_i10 (sJ0_checkIndex (by omega) (by omega) ?_)⟩)
  refine s_inN ?_ (fun ea => ?_)
  · omega
  try simp only [ea]
  clear ea
  rw [e.1, w32_of (by omega) (by omega)]
  exact ⟨by omega, by omega, by omega, by omega, k⟩
theorem sLa_24 {T : Nat × (Nat → Int32)} {d : Nat} {Q : mz_K} {X : mz_X} {g : mz_S} (k : Q 1 g) : zC T (d + 1) 335 [mx_S 24] g Q X := zJ0_isLatin1_aae02_i11 ⟨fun z => absurd z (by decide), fun _ => ⟨fun z => absurd rfl z, fun _ => zJ0_isLatin1_aae02_i11_18 ⟨zb1, k⟩⟩⟩
theorem sLen_24 {T : Nat × (Nat → Int32)} {d : Nat} {Q : mz_K} {X : mz_X} {g : mz_S} (k : Q 5 g) : zC T (d + 2) 330 [mx_S 24] g Q X := by
  refine zJ0_length_8abf5_i11 (zJ0_coder_7d493_i11 ⟨fun z => absurd z (by decide), fun _ => zJ0_coder_7d493_i11_14 ⟨by decide, by decide, ?_⟩⟩)
  have e : mx_ishr 5 0 = 5 := by decide
  rw [e]; exact k
theorem tx_24 : ∀ i : Nat, i < 5 → mx_i2c (mx_iand ((mx_tx.getD 14 []).getD i 0) 255) = (mx_tx.getD 14 []).getD i 0 ∧ 0 ≤ (mx_tx.getD 14 []).getD i 0 ∧ (mx_tx.getD 14 []).getD i 0 ≤ 127 := by decide +kernel
theorem sChar_24 {T : Nat × (Nat → Int32)} {d : Nat} {Q : mz_K} {X : mz_X} {g : mz_S} {i : Nat} (hi : i < 5) (k : Q ((mx_tx.getD 14 []).getD i 0) g) : zC T (d + 4) 331 [mx_S 24, mx_I (i : Int)] g Q X := by
  have e := tx_24 i hi
  refine zJ0_charAt_5068e_i11 (sLa_24 ⟨fun z => absurd z (by decide), fun _ => zJ1_charAt_3b067_i11 (sJ0_checkIndex (by omega) (by omega) ?_)⟩)
  refine s_inN ?_ (fun ea => ?_)
  · omega
  try simp only [ea]
  clear ea
  rw [e.1, w32_of (by omega) (by omega)]
  exact ⟨by omega, by omega, by omega, by omega, k⟩
theorem sLa_25 {T : Nat × (Nat → Int32)} {d : Nat} {Q : mz_K} {X : mz_X} {g : mz_S} (k : Q 1 g) : zC T (d + 1) 335 [mx_S 25] g Q X := zJ0_isLatin1_aae02_i20 ⟨fun z => absurd z (by decide), fun _ => ⟨fun z => absurd rfl z, fun _ => zJ0_isLatin1_aae02_i20_18 ⟨zb1, k⟩⟩⟩
theorem sLen_25 {T : Nat × (Nat → Int32)} {d : Nat} {Q : mz_K} {X : mz_X} {g : mz_S} (k : Q 1 g) : zC T (d + 2) 330 [mx_S 25] g Q X := by
  refine zJ0_length_8abf5_i20 (zJ0_coder_7d493_i20 ⟨fun z => absurd z (by decide), fun _ => zJ0_coder_7d493_i20_14 ⟨by decide, by decide, ?_⟩⟩)
  have e : mx_ishr 1 0 = 1 := by decide
  rw [e]; exact k
theorem tx_25 : ∀ i : Nat, i < 1 → mx_i2c (mx_iand ((mx_tx.getD 15 []).getD i 0) 255) = (mx_tx.getD 15 []).getD i 0 ∧ 0 ≤ (mx_tx.getD 15 []).getD i 0 ∧ (mx_tx.getD 15 []).getD i 0 ≤ 127 := by decide +kernel
theorem sChar_25 {T : Nat × (Nat → Int32)} {d : Nat} {Q : mz_K} {X : mz_X} {g : mz_S} {i : Nat} (hi : i < 1) (k : Q ((mx_tx.getD 15 []).getD i 0) g) : zC T (d + 4) 331 [mx_S 25, mx_I (i : Int)] g Q X := by
  have e := tx_25 i hi
  refine zJ0_charAt_5068e_i19 (sLa_25 ⟨fun z => absurd z (by decide), fun _ => zJ1_charAt_3b067_i19 (sJ0_checkIndex (by omega) (by omega) ?_)⟩)
  refine s_inN ?_ (fun ea => ?_)
  · omega
  try simp only [ea]
  clear ea
  rw [e.1, w32_of (by omega) (by omega)]
  exact ⟨by omega, by omega, by omega, by omega, k⟩
theorem sLa_26 {T : Nat × (Nat → Int32)} {d : Nat} {Q : mz_K} {X : mz_X} {g : mz_S} (k : Q 1 g) : zC T (d + 1) 335 [mx_S 26] g Q X := zJ0_isLatin1_aae02_i21 ⟨fun z => absurd z (by decide), fun _ => ⟨fun z => absurd rfl z, fun _ => zJ0_isLatin1_aae02_i21_18 ⟨zb1, k⟩⟩⟩
theorem sLen_26 {T : Nat × (Nat → Int32)} {d : Nat} {Q : mz_K} {X : mz_X} {g : mz_S} (k : Q 4 g) : zC T (d + 2) 330 [mx_S 26] g Q X := by
  refine zJ0_length_8abf5_i21 (zJ0_coder_7d493_i21 ⟨fun z => absurd z (by decide), fun _ => zJ0_coder_7d493_i21_14 ⟨by decide, by decide, ?_⟩⟩)
  have e : mx_ishr 4 0 = 4 := by decide
  rw [e]; exact k
theorem tx_26 : ∀ i : Nat, i < 4 → mx_i2c (mx_iand ((mx_tx.getD 16 []).getD i 0) 255) = (mx_tx.getD 16 []).getD i 0 ∧ 0 ≤ (mx_tx.getD 16 []).getD i 0 ∧ (mx_tx.getD 16 []).getD i 0 ≤ 127 := by decide +kernel
theorem sChar_26 {T : Nat × (Nat → Int32)} {d : Nat} {Q : mz_K} {X : mz_X} {g : mz_S} {i : Nat} (hi : i < 4) (k : Q ((mx_tx.getD 16 []).getD i 0) g) : zC T (d + 4) 331 [mx_S 26, mx_I (i : Int)] g Q X := by
  have e := tx_26 i hi
  refine zJ0_charAt_5068e_i20 (sLa_26 ⟨fun z => absurd z (by decide), fun _ => zJ1_charAt_3b067_i20 (sJ0_checkIndex (by omega) (by omega) ?_)⟩)
  refine s_inN ?_ (fun ea => ?_)
  · omega
  try simp only [ea]
  clear ea
  rw [e.1, w32_of (by omega) (by omega)]
  exact ⟨by omega, by omega, by omega, by omega, k⟩
theorem sLa_27 {T : Nat × (Nat → Int32)} {d : Nat} {Q : mz_K} {X : mz_X} {g : mz_S} (k : Q 1 g) : zC T (d + 1) 335 [mx_S 27] g Q X := zJ0_isLatin1_aae02_i22 ⟨fun z => absurd z (by decide), fun _ => ⟨fun z => absurd rfl z, fun _ => zJ0_isLatin1_aae02_i22_18 ⟨zb1, k⟩⟩⟩
theorem sLen_27 {T : Nat × (Nat → Int32)} {d : Nat} {Q : mz_K} {X : mz_X} {g : mz_S} (k : Q 3 g) : zC T (d + 2) 330 [mx_S 27] g Q X := by
  refine zJ0_length_8abf5_i22 (zJ0_coder_7d493_i22 ⟨fun z => absurd z (by decide), fun _ => zJ0_coder_7d493_i22_14 ⟨by decide, by decide, ?_⟩⟩)
  have e : mx_ishr 3 0 = 3 := by decide
  rw [e]; exact k
theorem tx_27 : ∀ i : Nat, i < 3 → mx_i2c (mx_iand ((mx_tx.getD 17 []).getD i 0) 255) = (mx_tx.getD 17 []).getD i 0 ∧ 0 ≤ (mx_tx.getD 17 []).getD i 0 ∧ (mx_tx.getD 17 []).getD i 0 ≤ 127 := by decide +kernel
theorem sChar_27 {T : Nat × (Nat → Int32)} {d : Nat} {Q : mz_K} {X : mz_X} {g : mz_S} {i : Nat} (hi : i < 3) (k : Q ((mx_tx.getD 17 []).getD i 0) g) : zC T (d + 4) 331 [mx_S 27, mx_I (i : Int)] g Q X := by
  have e := tx_27 i hi
  refine zJ0_charAt_5068e_i21 (sLa_27 ⟨fun z => absurd z (by decide), fun _ => zJ1_charAt_3b067_i21 (sJ0_checkIndex (by omega) (by omega) ?_)⟩)
  refine s_inN ?_ (fun ea => ?_)
  · omega
  try simp only [ea]
  clear ea
  rw [e.1, w32_of (by omega) (by omega)]
  exact ⟨by omega, by omega, by omega, by omega, k⟩
theorem sLa_28 {T : Nat × (Nat → Int32)} {d : Nat} {Q : mz_K} {X : mz_X} {g : mz_S} (k : Q 1 g) : zC T (d + 1) 335 [mx_S 28] g Q X := zJ0_isLatin1_aae02_i23 ⟨fun z => absurd z (by decide), fun _ => ⟨fun z => absurd rfl z, fun _ => zJ0_isLatin1_aae02_i23_18 ⟨zb1, k⟩⟩⟩
theorem sLen_28 {T : Nat × (Nat → Int32)} {d : Nat} {Q : mz_K} {X : mz_X} {g : mz_S} (k : Q 7 g) : zC T (d + 2) 330 [mx_S 28] g Q X := by
  refine zJ0_length_8abf5_i23 (zJ0_coder_7d493_i23 ⟨fun z => absurd z (by decide), fun _ => zJ0_coder_7d493_i23_14 ⟨by decide, by decide, ?_⟩⟩)
  have e : mx_ishr 7 0 = 7 := by decide
  rw [e]; exact k
theorem tx_28 : ∀ i : Nat, i < 7 → mx_i2c (mx_iand ((mx_tx.getD 18 []).getD i 0) 255) = (mx_tx.getD 18 []).getD i 0 ∧ 0 ≤ (mx_tx.getD 18 []).getD i 0 ∧ (mx_tx.getD 18 []).getD i 0 ≤ 127 := by decide +kernel
theorem sChar_28 {T : Nat × (Nat → Int32)} {d : Nat} {Q : mz_K} {X : mz_X} {g : mz_S} {i : Nat} (hi : i < 7) (k : Q ((mx_tx.getD 18 []).getD i 0) g) : zC T (d + 4) 331 [mx_S 28, mx_I (i : Int)] g Q X := by
  have e := tx_28 i hi
  refine zJ0_charAt_5068e_i22 (sLa_28 ⟨fun z => absurd z (by decide), fun _ => zJ1_charAt_3b067_i22 (sJ0_checkIndex (by omega) (by omega) ?_)⟩)
  refine s_inN ?_ (fun ea => ?_)
  · omega
  try simp only [ea]
  clear ea
  rw [e.1, w32_of (by omega) (by omega)]
  exact ⟨by omega, by omega, by omega, by omega, k⟩
theorem sLa_29 {T : Nat × (Nat → Int32)} {d : Nat} {Q : mz_K} {X : mz_X} {g : mz_S} (k : Q 1 g) : zC T (d + 1) 335 [mx_S 29] g Q X := zJ0_isLatin1_aae02_i24 ⟨fun z => absurd z (by decide), fun _ => ⟨fun z => absurd rfl z, fun _ => zJ0_isLatin1_aae02_i24_18 ⟨zb1, k⟩⟩⟩
theorem sLen_29 {T : Nat × (Nat → Int32)} {d : Nat} {Q : mz_K} {X : mz_X} {g : mz_S} (k : Q 3 g) : zC T (d + 2) 330 [mx_S 29] g Q X := by
  refine zJ0_length_8abf5_i24 (zJ0_coder_7d493_i24 ⟨fun z => absurd z (by decide), fun _ => zJ0_coder_7d493_i24_14 ⟨by decide, by decide, ?_⟩⟩)
  have e : mx_ishr 3 0 = 3 := by decide
  rw [e]; exact k
theorem tx_29 : ∀ i : Nat, i < 3 → mx_i2c (mx_iand ((mx_tx.getD 19 []).getD i 0) 255) = (mx_tx.getD 19 []).getD i 0 ∧ 0 ≤ (mx_tx.getD 19 []).getD i 0 ∧ (mx_tx.getD 19 []).getD i 0 ≤ 127 := by decide +kernel
theorem sChar_29 {T : Nat × (Nat → Int32)} {d : Nat} {Q : mz_K} {X : mz_X} {g : mz_S} {i : Nat} (hi : i < 3) (k : Q ((mx_tx.getD 19 []).getD i 0) g) : zC T (d + 4) 331 [mx_S 29, mx_I (i : Int)] g Q X := by
  have e := tx_29 i hi
  refine zJ0_charAt_5068e_i23 (sLa_29 ⟨fun z => absurd z (by decide), fun _ => zJ1_charAt_3b067_i23 (sJ0_checkIndex (by omega) (by omega) ?_)⟩)
  refine s_inN ?_ (fun ea => ?_)
  · omega
  try simp only [ea]
  clear ea
  rw [e.1, w32_of (by omega) (by omega)]
  exact ⟨by omega, by omega, by omega, by omega, k⟩
theorem sLa_30 {T : Nat × (Nat → Int32)} {d : Nat} {Q : mz_K} {X : mz_X} {g : mz_S} (k : Q 1 g) : zC T (d + 1) 335 [mx_S 30] g Q X := zJ0_isLatin1_aae02_i25 ⟨fun z => absurd z (by decide), fun _ => ⟨fun z => absurd rfl z, fun _ => zJ0_isLatin1_aae02_i25_18 ⟨zb1, k⟩⟩⟩
theorem sLen_30 {T : Nat × (Nat → Int32)} {d : Nat} {Q : mz_K} {X : mz_X} {g : mz_S} (k : Q 4 g) : zC T (d + 2) 330 [mx_S 30] g Q X := by
  refine zJ0_length_8abf5_i25 (zJ0_coder_7d493_i25 ⟨fun z => absurd z (by decide), fun _ => zJ0_coder_7d493_i25_14 ⟨by decide, by decide, ?_⟩⟩)
  have e : mx_ishr 4 0 = 4 := by decide
  rw [e]; exact k
theorem tx_30 : ∀ i : Nat, i < 4 → mx_i2c (mx_iand ((mx_tx.getD 20 []).getD i 0) 255) = (mx_tx.getD 20 []).getD i 0 ∧ 0 ≤ (mx_tx.getD 20 []).getD i 0 ∧ (mx_tx.getD 20 []).getD i 0 ≤ 127 := by decide +kernel
theorem sChar_30 {T : Nat × (Nat → Int32)} {d : Nat} {Q : mz_K} {X : mz_X} {g : mz_S} {i : Nat} (hi : i < 4) (k : Q ((mx_tx.getD 20 []).getD i 0) g) : zC T (d + 4) 331 [mx_S 30, mx_I (i : Int)] g Q X := by
  have e := tx_30 i hi
  refine zJ0_charAt_5068e_i24 (sLa_30 ⟨fun z => absurd z (by decide), fun _ => zJ1_charAt_3b067_i24 (sJ0_checkIndex (by omega) (by omega) ?_)⟩)
  refine s_inN ?_ (fun ea => ?_)
  · omega
  try simp only [ea]
  clear ea
  rw [e.1, w32_of (by omega) (by omega)]
  exact ⟨by omega, by omega, by omega, by omega, k⟩
theorem sLa_31 {T : Nat × (Nat → Int32)} {d : Nat} {Q : mz_K} {X : mz_X} {g : mz_S} (k : Q 1 g) : zC T (d + 1) 335 [mx_S 31] g Q X := zJ0_isLatin1_aae02_i26 ⟨fun z => absurd z (by decide), fun _ => ⟨fun z => absurd rfl z, fun _ => zJ0_isLatin1_aae02_i26_18 ⟨zb1, k⟩⟩⟩
theorem sLen_31 {T : Nat × (Nat → Int32)} {d : Nat} {Q : mz_K} {X : mz_X} {g : mz_S} (k : Q 4 g) : zC T (d + 2) 330 [mx_S 31] g Q X := by
  refine zJ0_length_8abf5_i26 (zJ0_coder_7d493_i26 ⟨fun z => absurd z (by decide), fun _ => zJ0_coder_7d493_i26_14 ⟨by decide, by decide, ?_⟩⟩)
  have e : mx_ishr 4 0 = 4 := by decide
  rw [e]; exact k
theorem tx_31 : ∀ i : Nat, i < 4 → mx_i2c (mx_iand ((mx_tx.getD 21 []).getD i 0) 255) = (mx_tx.getD 21 []).getD i 0 ∧ 0 ≤ (mx_tx.getD 21 []).getD i 0 ∧ (mx_tx.getD 21 []).getD i 0 ≤ 127 := by decide +kernel
theorem sChar_31 {T : Nat × (Nat → Int32)} {d : Nat} {Q : mz_K} {X : mz_X} {g : mz_S} {i : Nat} (hi : i < 4) (k : Q ((mx_tx.getD 21 []).getD i 0) g) : zC T (d + 4) 331 [mx_S 31, mx_I (i : Int)] g Q X := by
  have e := tx_31 i hi
  refine zJ0_charAt_5068e_i25 (sLa_31 ⟨fun z => absurd z (by decide), fun _ => zJ1_charAt_3b067_i25 (sJ0_checkIndex (by omega) (by omega) ?_)⟩)
  refine s_inN ?_ (fun ea => ?_)
  · omega
  try simp only [ea]
  clear ea
  rw [e.1, w32_of (by omega) (by omega)]
  exact ⟨by omega, by omega, by omega, by omega, k⟩
theorem sLa_32 {T : Nat × (Nat → Int32)} {d : Nat} {Q : mz_K} {X : mz_X} {g : mz_S} (k : Q 1 g) : zC T (d + 1) 335 [mx_S 32] g Q X := zJ0_isLatin1_aae02_i27 ⟨fun z => absurd z (by decide), fun _ => ⟨fun z => absurd rfl z, fun _ => zJ0_isLatin1_aae02_i27_18 ⟨zb1, k⟩⟩⟩
theorem sLen_32 {T : Nat × (Nat → Int32)} {d : Nat} {Q : mz_K} {X : mz_X} {g : mz_S} (k : Q 2 g) : zC T (d + 2) 330 [mx_S 32] g Q X := by
  refine zJ0_length_8abf5_i27 (zJ0_coder_7d493_i27 ⟨fun z => absurd z (by decide), fun _ => zJ0_coder_7d493_i27_14 ⟨by decide, by decide, ?_⟩⟩)
  have e : mx_ishr 2 0 = 2 := by decide
  rw [e]; exact k
theorem tx_32 : ∀ i : Nat, i < 2 → mx_i2c (mx_iand ((mx_tx.getD 22 []).getD i 0) 255) = (mx_tx.getD 22 []).getD i 0 ∧ 0 ≤ (mx_tx.getD 22 []).getD i 0 ∧ (mx_tx.getD 22 []).getD i 0 ≤ 127 := by decide +kernel
theorem sChar_32 {T : Nat × (Nat → Int32)} {d : Nat} {Q : mz_K} {X : mz_X} {g : mz_S} {i : Nat} (hi : i < 2) (k : Q ((mx_tx.getD 22 []).getD i 0) g) : zC T (d + 4) 331 [mx_S 32, mx_I (i : Int)] g Q X := by
  have e := tx_32 i hi
  refine zJ0_charAt_5068e_i26 (sLa_32 ⟨fun z => absurd z (by decide), fun _ => zJ1_charAt_3b067_i26 (sJ0_checkIndex (by omega) (by omega) ?_)⟩)
  refine s_inN ?_ (fun ea => ?_)
  · omega
  try simp only [ea]
  clear ea
  rw [e.1, w32_of (by omega) (by omega)]
  exact ⟨by omega, by omega, by omega, by omega, k⟩
theorem sLa_33 {T : Nat × (Nat → Int32)} {d : Nat} {Q : mz_K} {X : mz_X} {g : mz_S} (k : Q 1 g) : zC T (d + 1) 335 [mx_S 33] g Q X := zJ0_isLatin1_aae02 ⟨fun z => absurd z (by decide), fun _ => ⟨fun z => absurd rfl z, fun _ => zJ0_isLatin1_aae02_18 ⟨zb1, k⟩⟩⟩
theorem sLen_33 {T : Nat × (Nat → Int32)} {d : Nat} {Q : mz_K} {X : mz_X} {g : mz_S} (k : Q 6 g) : zC T (d + 2) 330 [mx_S 33] g Q X := by
  refine zJ0_length_8abf5 (zJ0_coder_7d493 ⟨fun z => absurd z (by decide), fun _ => zJ0_coder_7d493_14 ⟨by decide, by decide, ?_⟩⟩)
  have e : mx_ishr 6 0 = 6 := by decide
  rw [e]; exact k
theorem tx_33 : ∀ i : Nat, i < 6 → mx_i2c (mx_iand ((mx_tx.getD 23 []).getD i 0) 255) = (mx_tx.getD 23 []).getD i 0 ∧ 0 ≤ (mx_tx.getD 23 []).getD i 0 ∧ (mx_tx.getD 23 []).getD i 0 ≤ 127 := by decide +kernel
theorem sChar_33 {T : Nat × (Nat → Int32)} {d : Nat} {Q : mz_K} {X : mz_X} {g : mz_S} {i : Nat} (hi : i < 6) (k : Q ((mx_tx.getD 23 []).getD i 0) g) : zC T (d + 4) 331 [mx_S 33, mx_I (i : Int)] g Q X := by
  have e := tx_33 i hi
  refine zJ0_charAt_5068e (sLa_33 ⟨fun z => absurd z (by decide), fun _ => zJ1_charAt_3b067 (sJ0_checkIndex (by omega) (by omega) ?_)⟩)
  refine s_inN ?_ (fun ea => ?_)
  · omega
  try simp only [ea]
  clear ea
  rw [e.1, w32_of (by omega) (by omega)]
  exact ⟨by omega, by omega, by omega, by omega, k⟩
theorem sLa_34 {T : Nat × (Nat → Int32)} {d : Nat} {Q : mz_K} {X : mz_X} {g : mz_S} (k : Q 1 g) : zC T (d + 1) 335 [mx_S 34] g Q X := zJ0_isLatin1_aae02_i19 ⟨fun z => absurd z (by decide), fun _ => ⟨fun z => absurd rfl z, fun _ => zJ0_isLatin1_aae02_i19_18 ⟨zb1, k⟩⟩⟩
theorem sLen_34 {T : Nat × (Nat → Int32)} {d : Nat} {Q : mz_K} {X : mz_X} {g : mz_S} (k : Q 3 g) : zC T (d + 2) 330 [mx_S 34] g Q X := by
  refine zJ0_length_8abf5_i18 (zJ0_coder_7d493_i18 ⟨fun z => absurd z (by decide), fun _ => zJ0_coder_7d493_i18_14 ⟨by decide, by decide, ?_⟩⟩)
  have e : mx_ishr 3 0 = 3 := by decide
  rw [e]; exact k
theorem tx_34 : ∀ i : Nat, i < 3 → mx_i2c (mx_iand ((mx_tx.getD 24 []).getD i 0) 255) = (mx_tx.getD 24 []).getD i 0 ∧ 0 ≤ (mx_tx.getD 24 []).getD i 0 ∧ (mx_tx.getD 24 []).getD i 0 ≤ 127 := by decide +kernel
theorem sChar_34 {T : Nat × (Nat → Int32)} {d : Nat} {Q : mz_K} {X : mz_X} {g : mz_S} {i : Nat} (hi : i < 3) (k : Q ((mx_tx.getD 24 []).getD i 0) g) : zC T (d + 4) 331 [mx_S 34, mx_I (i : Int)] g Q X := by
  have e := tx_34 i hi
  refine zJ0_charAt_5068e_i18 (sLa_34 ⟨fun z => absurd z (by decide), fun _ => zJ1_charAt_3b067_i18 (sJ0_checkIndex (by omega) (by omega) ?_)⟩)
  refine s_inN ?_ (fun ea => ?_)
  · omega
  try simp only [ea]
  clear ea
  rw [e.1, w32_of (by omega) (by omega)]
  exact ⟨by omega, by omega, by omega, by omega, k⟩
theorem sLa_35 {T : Nat × (Nat → Int32)} {d : Nat} {Q : mz_K} {X : mz_X} {g : mz_S} (k : Q 1 g) : zC T (d + 1) 335 [mx_S 35] g Q X := zJ0_isLatin1_aae02_i16 ⟨fun z => absurd z (by decide), fun _ => ⟨fun z => absurd rfl z, fun _ => zJ0_isLatin1_aae02_i16_18 ⟨zb1, k⟩⟩⟩
theorem sLen_35 {T : Nat × (Nat → Int32)} {d : Nat} {Q : mz_K} {X : mz_X} {g : mz_S} (k : Q 3 g) : zC T (d + 2) 330 [mx_S 35] g Q X := by
  refine zJ0_length_8abf5_i16 (zJ0_coder_7d493_i16 ⟨fun z => absurd z (by decide), fun _ => zJ0_coder_7d493_i16_14 ⟨by decide, by decide, ?_⟩⟩)
  have e : mx_ishr 3 0 = 3 := by decide
  rw [e]; exact k
theorem tx_35 : ∀ i : Nat, i < 3 → mx_i2c (mx_iand ((mx_tx.getD 25 []).getD i 0) 255) = (mx_tx.getD 25 []).getD i 0 ∧ 0 ≤ (mx_tx.getD 25 []).getD i 0 ∧ (mx_tx.getD 25 []).getD i 0 ≤ 127 := by decide +kernel
theorem sChar_35 {T : Nat × (Nat → Int32)} {d : Nat} {Q : mz_K} {X : mz_X} {g : mz_S} {i : Nat} (hi : i < 3) (k : Q ((mx_tx.getD 25 []).getD i 0) g) : zC T (d + 4) 331 [mx_S 35, mx_I (i : Int)] g Q X := by
  have e := tx_35 i hi
  refine zJ0_charAt_5068e_i16 (sLa_35 ⟨fun z => absurd z (by decide), fun _ => zJ1_charAt_3b067_i16 (sJ0_checkIndex (by omega) (by omega) ?_)⟩)
  refine s_inN ?_ (fun ea => ?_)
  · omega
  try simp only [ea]
  clear ea
  rw [e.1, w32_of (by omega) (by omega)]
  exact ⟨by omega, by omega, by omega, by omega, k⟩
theorem sLa_36 {T : Nat × (Nat → Int32)} {d : Nat} {Q : mz_K} {X : mz_X} {g : mz_S} (k : Q 1 g) : zC T (d + 1) 335 [mx_S 36] g Q X := zJ0_isLatin1_aae02_i12 ⟨fun z => absurd z (by decide), fun _ => ⟨fun z => absurd rfl z, fun _ => zJ0_isLatin1_aae02_i12_18 ⟨zb1, k⟩⟩⟩
theorem sLen_36 {T : Nat × (Nat → Int32)} {d : Nat} {Q : mz_K} {X : mz_X} {g : mz_S} (k : Q 2 g) : zC T (d + 2) 330 [mx_S 36] g Q X := by
  refine zJ0_length_8abf5_i12 (zJ0_coder_7d493_i12 ⟨fun z => absurd z (by decide), fun _ => zJ0_coder_7d493_i12_14 ⟨by decide, by decide, ?_⟩⟩)
  have e : mx_ishr 2 0 = 2 := by decide
  rw [e]; exact k
theorem tx_36 : ∀ i : Nat, i < 2 → mx_i2c (mx_iand ((mx_tx.getD 26 []).getD i 0) 255) = (mx_tx.getD 26 []).getD i 0 ∧ 0 ≤ (mx_tx.getD 26 []).getD i 0 ∧ (mx_tx.getD 26 []).getD i 0 ≤ 127 := by decide +kernel
theorem sChar_36 {T : Nat × (Nat → Int32)} {d : Nat} {Q : mz_K} {X : mz_X} {g : mz_S} {i : Nat} (hi : i < 2) (k : Q ((mx_tx.getD 26 []).getD i 0) g) : zC T (d + 4) 331 [mx_S 36, mx_I (i : Int)] g Q X := by
  have e := tx_36 i hi
  refine zJ0_charAt_5068e_i12 (sLa_36 ⟨fun z => absurd z (by decide), fun _ => zJ1_charAt_3b067_i12 (sJ0_checkIndex (by omega) (by omega) ?_)⟩)
  refine s_inN ?_ (fun ea => ?_)
  · omega
  try simp only [ea]
  clear ea
  rw [e.1, w32_of (by omega) (by omega)]
  exact ⟨by omega, by omega, by omega, by omega, k⟩
