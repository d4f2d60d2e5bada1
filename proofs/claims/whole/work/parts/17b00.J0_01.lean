/-! J0, 1 -/
abbrev aJ0_coder_7d493 (T : Nat × (Nat → Int32)) (d : Nat) (Q : mz_K) (X : mz_X) : mz_J := mz_A (mx_F1 T.1 T.2, mx_mt mJ0_coder_7d493, (mx_mc mJ0_coder_7d493, mx_ms mJ0_coder_7d493)) mz_sh mz_rk 1 (zC T d) bJ0_coder_7d493 Q X
abbrev eJ0_coder_7d493 (T : Nat × (Nat → Int32)) (d : Nat) (Q : mz_K) (X : mz_X) (pc : Nat) : mx_L → List mx_v → mz_S → Nat × Nat → Prop := mz_B (mx_F1 T.1 T.2, mx_mt mJ0_coder_7d493, (mx_mc mJ0_coder_7d493, mx_ms mJ0_coder_7d493)) mz_sh mz_rk 1 (zC T d) (aJ0_coder_7d493 T d Q X) Q X (mx_sfx bJ0_coder_7d493 pc)
set_option maxRecDepth 4000 in
theorem wJ0_coder_7d493_0 {T : Nat × (Nat → Int32)} {d : Nat} {Q : mz_K} {X : mz_X} {g : mz_S} {u : Nat × Nat} (k : (w32 1 = w32 0 → aJ0_coder_7d493 T d Q X 13 [some (mx_S 33)] [] g u) ∧ (¬ (w32 1 = w32 0) → aJ0_coder_7d493 T d Q X 14 [some (mx_S 33)] [mx_I 0] g u)) : eJ0_coder_7d493 T d Q X 0 [some (mx_S 33)] [] g u := k
set_option maxRecDepth 4000 in
theorem wJ0_coder_7d493_13 {T : Nat × (Nat → Int32)} {d : Nat} {Q : mz_K} {X : mz_X} {g : mz_S} {u : Nat × Nat} (k : -128 ≤ w32 1 ∧ w32 1 ≤ 127 ∧ Q 1 g) : eJ0_coder_7d493 T d Q X 13 [some (mx_S 33)] [] g u := k
set_option maxRecDepth 4000 in
theorem wJ0_coder_7d493_14 {T : Nat × (Nat → Int32)} {d : Nat} {Q : mz_K} {X : mz_X} {g : mz_S} {u : Nat × Nat} {s0 : Int} (k : -128 ≤ w32 s0 ∧ w32 s0 ≤ 127 ∧ Q s0 g) : eJ0_coder_7d493 T d Q X 14 [some (mx_S 33)] [mx_I s0] g u := k
set_option maxRecDepth 8000 in
theorem zJ0_coder_7d493_14 {T : Nat × (Nat → Int32)} {d : Nat} {Q : mz_K} {X : mz_X} {g : mz_S} {u : Nat × Nat} {s0 : Int} (k : -128 ≤ w32 s0 ∧ w32 s0 ≤ 127 ∧ Q s0 g) : aJ0_coder_7d493 T d Q X 14 [some (mx_S 33)] [mx_I s0] g u := mz_A_in (wJ0_coder_7d493_14 (k))
set_option maxRecDepth 8000 in
theorem zJ0_coder_7d493 {T : Nat × (Nat → Int32)} {d : Nat} {Q : mz_K} {X : mz_X} {g : mz_S} (k : (w32 1 = w32 0 → aJ0_coder_7d493 T d Q X 14 [some (mx_S 33)] [mx_I 1] g ((0, 0) : Nat × Nat)) ∧ (¬ (w32 1 = w32 0) → aJ0_coder_7d493 T d Q X 14 [some (mx_S 33)] [mx_I 0] g ((0, 0) : Nat × Nat))) : zC T (d + 1) 334 [mx_S 33] g Q X := mz_enter (t := mJ0_coder_7d493) rfl rfl (mz_A_in (wJ0_coder_7d493_0 (zI (k) (fun k z => mz_A_in (wJ0_coder_7d493_13 ((zout (tb := bJ0_coder_7d493) (pc := 14) (k z) :)))) (fun k => k)) :))
abbrev aJ0_isLatin1_aae02 (T : Nat × (Nat → Int32)) (d : Nat) (Q : mz_K) (X : mz_X) : mz_J := mz_A (mx_F1 T.1 T.2, mx_mt mJ0_isLatin1_aae02, (mx_mc mJ0_isLatin1_aae02, mx_ms mJ0_isLatin1_aae02)) mz_sh mz_rk 1 (zC T d) bJ0_isLatin1_aae02 Q X
abbrev eJ0_isLatin1_aae02 (T : Nat × (Nat → Int32)) (d : Nat) (Q : mz_K) (X : mz_X) (pc : Nat) : mx_L → List mx_v → mz_S → Nat × Nat → Prop := mz_B (mx_F1 T.1 T.2, mx_mt mJ0_isLatin1_aae02, (mx_mc mJ0_isLatin1_aae02, mx_ms mJ0_isLatin1_aae02)) mz_sh mz_rk 1 (zC T d) (aJ0_isLatin1_aae02 T d Q X) Q X (mx_sfx bJ0_isLatin1_aae02 pc)
set_option maxRecDepth 4000 in
theorem wJ0_isLatin1_aae02_0 {T : Nat × (Nat → Int32)} {d : Nat} {Q : mz_K} {X : mz_X} {g : mz_S} {u : Nat × Nat} (k : (w32 1 = w32 0 → aJ0_isLatin1_aae02 T d Q X 17 [some (mx_S 33)] [] g u) ∧ (¬ (w32 1 = w32 0) → (¬ w32 0 = w32 0 → aJ0_isLatin1_aae02 T d Q X 17 [some (mx_S 33)] [] g u) ∧ (¬ (¬ w32 0 = w32 0) → aJ0_isLatin1_aae02 T d Q X 18 [some (mx_S 33)] [mx_I 1] g u))) : eJ0_isLatin1_aae02 T d Q X 0 [some (mx_S 33)] [] g u := k
set_option maxRecDepth 4000 in
theorem wJ0_isLatin1_aae02_17 {T : Nat × (Nat → Int32)} {d : Nat} {Q : mz_K} {X : mz_X} {g : mz_S} {u : Nat × Nat} (k : (w32 0 = 0 ∨ w32 0 = 1) ∧ Q 0 g) : eJ0_isLatin1_aae02 T d Q X 17 [some (mx_S 33)] [] g u := k
set_option maxRecDepth 4000 in
theorem wJ0_isLatin1_aae02_18 {T : Nat × (Nat → Int32)} {d : Nat} {Q : mz_K} {X : mz_X} {g : mz_S} {u : Nat × Nat} {s0 : Int} (k : (w32 s0 = 0 ∨ w32 s0 = 1) ∧ Q s0 g) : eJ0_isLatin1_aae02 T d Q X 18 [some (mx_S 33)] [mx_I s0] g u := k
set_option maxRecDepth 8000 in
theorem zJ0_isLatin1_aae02_17 {T : Nat × (Nat → Int32)} {d : Nat} {Q : mz_K} {X : mz_X} {g : mz_S} {u : Nat × Nat} (k : aJ0_isLatin1_aae02 T d Q X 18 [some (mx_S 33)] [mx_I 0] g u) : aJ0_isLatin1_aae02 T d Q X 17 [some (mx_S 33)] [] g u := mz_A_in (wJ0_isLatin1_aae02_17 ((zout (tb := bJ0_isLatin1_aae02) (pc := 18) k :)))
set_option maxRecDepth 8000 in
theorem zJ0_isLatin1_aae02_18 {T : Nat × (Nat → Int32)} {d : Nat} {Q : mz_K} {X : mz_X} {g : mz_S} {u : Nat × Nat} {s0 : Int} (k : (w32 s0 = 0 ∨ w32 s0 = 1) ∧ Q s0 g) : aJ0_isLatin1_aae02 T d Q X 18 [some (mx_S 33)] [mx_I s0] g u := mz_A_in (wJ0_isLatin1_aae02_18 (k))
set_option maxRecDepth 8000 in
theorem zJ0_isLatin1_aae02 {T : Nat × (Nat → Int32)} {d : Nat} {Q : mz_K} {X : mz_X} {g : mz_S} (k : (w32 1 = w32 0 → aJ0_isLatin1_aae02 T d Q X 17 [some (mx_S 33)] [] g ((0, 0) : Nat × Nat)) ∧ (¬ (w32 1 = w32 0) → (¬ w32 0 = w32 0 → aJ0_isLatin1_aae02 T d Q X 17 [some (mx_S 33)] [] g ((0, 0) : Nat × Nat)) ∧ (¬ (¬ w32 0 = w32 0) → aJ0_isLatin1_aae02 T d Q X 18 [some (mx_S 33)] [mx_I 1] g ((0, 0) : Nat × Nat)))) : zC T (d + 1) 335 [mx_S 33] g Q X := mz_enter (t := mJ0_isLatin1_aae02) rfl rfl (mz_A_in (wJ0_isLatin1_aae02_0 (k) :))
abbrev aJ0_length_8abf5_i12 (T : Nat × (Nat → Int32)) (d : Nat) (Q : mz_K) (X : mz_X) : mz_J := mz_A (mx_F1 T.1 T.2, mx_mt mJ0_length_8abf5, (mx_mc mJ0_length_8abf5, mx_ms mJ0_length_8abf5)) mz_sh mz_rk 1 (zC T d) bJ0_length_8abf5 Q X
abbrev eJ0_length_8abf5_i12 (T : Nat × (Nat → Int32)) (d : Nat) (Q : mz_K) (X : mz_X) (pc : Nat) : mx_L → List mx_v → mz_S → Nat × Nat → Prop := mz_B (mx_F1 T.1 T.2, mx_mt mJ0_length_8abf5, (mx_mc mJ0_length_8abf5, mx_ms mJ0_length_8abf5)) mz_sh mz_rk 1 (zC T d) (aJ0_length_8abf5_i12 T d Q X) Q X (mx_sfx bJ0_length_8abf5 pc)
set_option maxRecDepth 4000 in
theorem wJ0_length_8abf5_i12_0 {T : Nat × (Nat → Int32)} {d : Nat} {Q : mz_K} {X : mz_X} {g : mz_S} {u : Nat × Nat} (k : zC T d 334 [mx_S 36] g (fun r1 g1 => eJ0_length_8abf5_i12 T d Q X 9 [some (mx_S 36)] [mx_I r1, mx_I 2] g1 u) (X)) : eJ0_length_8abf5_i12 T d Q X 0 [some (mx_S 36)] [] g u := k
set_option maxRecDepth 4000 in
theorem wJ0_length_8abf5_i12_9 {T : Nat × (Nat → Int32)} {d : Nat} {Q : mz_K} {X : mz_X} {g : mz_S} {u : Nat × Nat} {s0 s1 : Int} (k : Q (mx_ishr s0 s1) g) : eJ0_length_8abf5_i12 T d Q X 9 [some (mx_S 36)] [mx_I s1, mx_I s0] g u := k
set_option maxRecDepth 8000 in
theorem zJ0_length_8abf5_i12 {T : Nat × (Nat → Int32)} {d : Nat} {Q : mz_K} {X : mz_X} {g : mz_S} (k : zC T d 334 [mx_S 36] g (fun r1 g1 => Q (mx_ishr 2 r1) g1) (X)) : zC T (d + 1) 330 [mx_S 36] g Q X := mz_enter (t := mJ0_length_8abf5) rfl rfl (mz_A_in (wJ0_length_8abf5_i12_0 (zM (k) (fun r1 g1 z => wJ0_length_8abf5_i12_9 (z))) :))
abbrev aJ0_charAt_5068e_i12 (T : Nat × (Nat → Int32)) (d : Nat) (Q : mz_K) (X : mz_X) : mz_J := mz_A (mx_F1 T.1 T.2, mx_mt mJ0_charAt_5068e, (mx_mc mJ0_charAt_5068e, mx_ms mJ0_charAt_5068e)) mz_sh mz_rk 1 (zC T d) bJ0_charAt_5068e Q X
abbrev eJ0_charAt_5068e_i12 (T : Nat × (Nat → Int32)) (d : Nat) (Q : mz_K) (X : mz_X) (pc : Nat) : mx_L → List mx_v → mz_S → Nat × Nat → Prop := mz_B (mx_F1 T.1 T.2, mx_mt mJ0_charAt_5068e, (mx_mc mJ0_charAt_5068e, mx_ms mJ0_charAt_5068e)) mz_sh mz_rk 1 (zC T d) (aJ0_charAt_5068e_i12 T d Q X) Q X (mx_sfx bJ0_charAt_5068e pc)
set_option maxRecDepth 4000 in
theorem wJ0_charAt_5068e_i12_0 {T : Nat × (Nat → Int32)} {d : Nat} {Q : mz_K} {X : mz_X} {g : mz_S} {u : Nat × Nat} {x1 : Int} (k : zC T d 335 [mx_S 36] g (fun r1 g1 => eJ0_charAt_5068e_i12 T d Q X 4 [some (mx_S 36), some (mx_I x1)] [mx_I r1] g1 u) (X)) : eJ0_charAt_5068e_i12 T d Q X 0 [some (mx_S 36), some (mx_I x1)] [] g u := k
set_option maxRecDepth 4000 in
theorem wJ0_charAt_5068e_i12_4 {T : Nat × (Nat → Int32)} {d : Nat} {Q : mz_K} {X : mz_X} {g : mz_S} {u : Nat × Nat} {x1 s0 : Int} (k : (w32 s0 = w32 0 → aJ0_charAt_5068e_i12 T d Q X 16 [some (mx_S 36), some (mx_I x1)] [] g u) ∧ (¬ (w32 s0 = w32 0) → zC T d 337 [mx_S 126, mx_I x1] g (fun r1 g1 => eJ0_charAt_5068e_i12 T d Q X 15 [some (mx_S 36), some (mx_I x1)] [mx_I r1] g1 u) (X))) : eJ0_charAt_5068e_i12 T d Q X 4 [some (mx_S 36), some (mx_I x1)] [mx_I s0] g u := k
set_option maxRecDepth 4000 in
theorem wJ0_charAt_5068e_i12_15 {T : Nat × (Nat → Int32)} {d : Nat} {Q : mz_K} {X : mz_X} {g : mz_S} {u : Nat × Nat} {x1 s0 : Int} (k : 0 ≤ w32 s0 ∧ w32 s0 ≤ 65535 ∧ Q s0 g) : eJ0_charAt_5068e_i12 T d Q X 15 [some (mx_S 36), some (mx_I x1)] [mx_I s0] g u := k
set_option maxRecDepth 4000 in
theorem wJ0_charAt_5068e_i12_16 {T : Nat × (Nat → Int32)} {d : Nat} {Q : mz_K} {X : mz_X} {g : mz_S} {u : Nat × Nat} {x1 : Int} (k : False) : eJ0_charAt_5068e_i12 T d Q X 16 [some (mx_S 36), some (mx_I x1)] [] g u := k
set_option maxRecDepth 8000 in
theorem zJ0_charAt_5068e_i12 {T : Nat × (Nat → Int32)} {d : Nat} {Q : mz_K} {X : mz_X} {g : mz_S} {x1 : Int} (k : zC T d 335 [mx_S 36] g (fun r1 g1 => (w32 r1 = w32 0 → False) ∧ (¬ (w32 r1 = w32 0) → zC T d 337 [mx_S 126, mx_I x1] g1 (fun r2 g2 => 0 ≤ w32 r2 ∧ w32 r2 ≤ 65535 ∧ Q r2 g2) (X))) (X)) : zC T (d + 1) 331 [mx_S 36, mx_I x1] g Q X := mz_enter (t := mJ0_charAt_5068e) rfl rfl (mz_A_in (wJ0_charAt_5068e_i12_0 (zM (k) (fun r1 g1 z => wJ0_charAt_5068e_i12_4 (zI (z) (fun k z => mz_A_in (wJ0_charAt_5068e_i12_16 ((k z)))) (fun k z => zM ((k z)) (fun r2 g2 z => wJ0_charAt_5068e_i12_15 (z)))))) :))
abbrev aJ0_indexOf_0f7a4 (T : Nat × (Nat → Int32)) (d : Nat) (Q : mz_K) (X : mz_X) : mz_J := mz_A (mx_F1 T.1 T.2, mx_mt mJ0_indexOf_0f7a4, (mx_mc mJ0_indexOf_0f7a4, mx_ms mJ0_indexOf_0f7a4)) mz_sh mz_rk 1 (zC T d) bJ0_indexOf_0f7a4 Q X
abbrev eJ0_indexOf_0f7a4 (T : Nat × (Nat → Int32)) (d : Nat) (Q : mz_K) (X : mz_X) (pc : Nat) : mx_L → List mx_v → mz_S → Nat × Nat → Prop := mz_B (mx_F1 T.1 T.2, mx_mt mJ0_indexOf_0f7a4, (mx_mc mJ0_indexOf_0f7a4, mx_ms mJ0_indexOf_0f7a4)) mz_sh mz_rk 1 (zC T d) (aJ0_indexOf_0f7a4 T d Q X) Q X (mx_sfx bJ0_indexOf_0f7a4 pc)
set_option maxRecDepth 4000 in
theorem wJ0_indexOf_0f7a4_0 {T : Nat × (Nat → Int32)} {d : Nat} {Q : mz_K} {X : mz_X} {g : mz_S} {u : Nat × Nat} {x1 : Int} (k : zC T d 333 [mx_S 11, mx_I x1, mx_I 0] g (fun r1 g1 => eJ0_indexOf_0f7a4 T d Q X 6 [some (mx_S 11), some (mx_I x1)] [mx_I r1] g1 u) (X)) : eJ0_indexOf_0f7a4 T d Q X 0 [some (mx_S 11), some (mx_I x1)] [] g u := k
set_option maxRecDepth 4000 in
theorem wJ0_indexOf_0f7a4_6 {T : Nat × (Nat → Int32)} {d : Nat} {Q : mz_K} {X : mz_X} {g : mz_S} {u : Nat × Nat} {x1 s0 : Int} (k : Q s0 g) : eJ0_indexOf_0f7a4 T d Q X 6 [some (mx_S 11), some (mx_I x1)] [mx_I s0] g u := k
set_option maxRecDepth 8000 in
theorem zJ0_indexOf_0f7a4 {T : Nat × (Nat → Int32)} {d : Nat} {Q : mz_K} {X : mz_X} {g : mz_S} {x1 : Int} (k : zC T d 333 [mx_S 11, mx_I x1, mx_I 0] g (fun r1 g1 => Q r1 g1) (X)) : zC T (d + 1) 332 [mx_S 11, mx_I x1] g Q X := mz_enter (t := mJ0_indexOf_0f7a4) rfl rfl (mz_A_in (wJ0_indexOf_0f7a4_0 (zM (k) (fun r1 g1 z => wJ0_indexOf_0f7a4_6 (z))) :))
abbrev aJ0_coder_7d493_i2 (T : Nat × (Nat → Int32)) (d : Nat) (Q : mz_K) (X : mz_X) : mz_J := mz_A (mx_F1 T.1 T.2, mx_mt mJ0_coder_7d493, (mx_mc mJ0_coder_7d493, mx_ms mJ0_coder_7d493)) mz_sh mz_rk 1 (zC T d) bJ0_coder_7d493 Q X
abbrev eJ0_coder_7d493_i2 (T : Nat × (Nat → Int32)) (d : Nat) (Q : mz_K) (X : mz_X) (pc : Nat) : mx_L → List mx_v → mz_S → Nat × Nat → Prop := mz_B (mx_F1 T.1 T.2, mx_mt mJ0_coder_7d493, (mx_mc mJ0_coder_7d493, mx_ms mJ0_coder_7d493)) mz_sh mz_rk 1 (zC T d) (aJ0_coder_7d493_i2 T d Q X) Q X (mx_sfx bJ0_coder_7d493 pc)
set_option maxRecDepth 4000 in
theorem wJ0_coder_7d493_i2_0 {T : Nat × (Nat → Int32)} {d : Nat} {Q : mz_K} {X : mz_X} {g : mz_S} {u : Nat × Nat} (k : (w32 1 = w32 0 → aJ0_coder_7d493_i2 T d Q X 13 [some (mx_S 12)] [] g u) ∧ (¬ (w32 1 = w32 0) → aJ0_coder_7d493_i2 T d Q X 14 [some (mx_S 12)] [mx_I 0] g u)) : eJ0_coder_7d493_i2 T d Q X 0 [some (mx_S 12)] [] g u := k
set_option maxRecDepth 4000 in
theorem wJ0_coder_7d493_i2_13 {T : Nat × (Nat → Int32)} {d : Nat} {Q : mz_K} {X : mz_X} {g : mz_S} {u : Nat × Nat} (k : -128 ≤ w32 1 ∧ w32 1 ≤ 127 ∧ Q 1 g) : eJ0_coder_7d493_i2 T d Q X 13 [some (mx_S 12)] [] g u := k
set_option maxRecDepth 4000 in
theorem wJ0_coder_7d493_i2_14 {T : Nat × (Nat → Int32)} {d : Nat} {Q : mz_K} {X : mz_X} {g : mz_S} {u : Nat × Nat} {s0 : Int} (k : -128 ≤ w32 s0 ∧ w32 s0 ≤ 127 ∧ Q s0 g) : eJ0_coder_7d493_i2 T d Q X 14 [some (mx_S 12)] [mx_I s0] g u := k
set_option maxRecDepth 8000 in
theorem zJ0_coder_7d493_i2_14 {T : Nat × (Nat → Int32)} {d : Nat} {Q : mz_K} {X : mz_X} {g : mz_S} {u : Nat × Nat} {s0 : Int} (k : -128 ≤ w32 s0 ∧ w32 s0 ≤ 127 ∧ Q s0 g) : aJ0_coder_7d493_i2 T d Q X 14 [some (mx_S 12)] [mx_I s0] g u := mz_A_in (wJ0_coder_7d493_i2_14 (k))
set_option maxRecDepth 8000 in
theorem zJ0_coder_7d493_i2 {T : Nat × (Nat → Int32)} {d : Nat} {Q : mz_K} {X : mz_X} {g : mz_S} (k : (w32 1 = w32 0 → aJ0_coder_7d493_i2 T d Q X 14 [some (mx_S 12)] [mx_I 1] g ((0, 0) : Nat × Nat)) ∧ (¬ (w32 1 = w32 0) → aJ0_coder_7d493_i2 T d Q X 14 [some (mx_S 12)] [mx_I 0] g ((0, 0) : Nat × Nat))) : zC T (d + 1) 334 [mx_S 12] g Q X := mz_enter (t := mJ0_coder_7d493) rfl rfl (mz_A_in (wJ0_coder_7d493_i2_0 (zI (k) (fun k z => mz_A_in (wJ0_coder_7d493_i2_13 ((zout (tb := bJ0_coder_7d493) (pc := 14) (k z) :)))) (fun k => k)) :))
abbrev aJ0_isLatin1_aae02_i2 (T : Nat × (Nat → Int32)) (d : Nat) (Q : mz_K) (X : mz_X) : mz_J := mz_A (mx_F1 T.1 T.2, mx_mt mJ0_isLatin1_aae02, (mx_mc mJ0_isLatin1_aae02, mx_ms mJ0_isLatin1_aae02)) mz_sh mz_rk 1 (zC T d) bJ0_isLatin1_aae02 Q X
abbrev eJ0_isLatin1_aae02_i2 (T : Nat × (Nat → Int32)) (d : Nat) (Q : mz_K) (X : mz_X) (pc : Nat) : mx_L → List mx_v → mz_S → Nat × Nat → Prop := mz_B (mx_F1 T.1 T.2, mx_mt mJ0_isLatin1_aae02, (mx_mc mJ0_isLatin1_aae02, mx_ms mJ0_isLatin1_aae02)) mz_sh mz_rk 1 (zC T d) (aJ0_isLatin1_aae02_i2 T d Q X) Q X (mx_sfx bJ0_isLatin1_aae02 pc)
set_option maxRecDepth 4000 in
theorem wJ0_isLatin1_aae02_i2_0 {T : Nat × (Nat → Int32)} {d : Nat} {Q : mz_K} {X : mz_X} {g : mz_S} {u : Nat × Nat} (k : (w32 1 = w32 0 → aJ0_isLatin1_aae02_i2 T d Q X 17 [some (mx_S 12)] [] g u) ∧ (¬ (w32 1 = w32 0) → (¬ w32 0 = w32 0 → aJ0_isLatin1_aae02_i2 T d Q X 17 [some (mx_S 12)] [] g u) ∧ (¬ (¬ w32 0 = w32 0) → aJ0_isLatin1_aae02_i2 T d Q X 18 [some (mx_S 12)] [mx_I 1] g u))) : eJ0_isLatin1_aae02_i2 T d Q X 0 [some (mx_S 12)] [] g u := k
set_option maxRecDepth 4000 in
theorem wJ0_isLatin1_aae02_i2_17 {T : Nat × (Nat → Int32)} {d : Nat} {Q : mz_K} {X : mz_X} {g : mz_S} {u : Nat × Nat} (k : (w32 0 = 0 ∨ w32 0 = 1) ∧ Q 0 g) : eJ0_isLatin1_aae02_i2 T d Q X 17 [some (mx_S 12)] [] g u := k
set_option maxRecDepth 4000 in
theorem wJ0_isLatin1_aae02_i2_18 {T : Nat × (Nat → Int32)} {d : Nat} {Q : mz_K} {X : mz_X} {g : mz_S} {u : Nat × Nat} {s0 : Int} (k : (w32 s0 = 0 ∨ w32 s0 = 1) ∧ Q s0 g) : eJ0_isLatin1_aae02_i2 T d Q X 18 [some (mx_S 12)] [mx_I s0] g u := k
set_option maxRecDepth 8000 in
theorem zJ0_isLatin1_aae02_i2_17 {T : Nat × (Nat → Int32)} {d : Nat} {Q : mz_K} {X : mz_X} {g : mz_S} {u : Nat × Nat} (k : aJ0_isLatin1_aae02_i2 T d Q X 18 [some (mx_S 12)] [mx_I 0] g u) : aJ0_isLatin1_aae02_i2 T d Q X 17 [some (mx_S 12)] [] g u := mz_A_in (wJ0_isLatin1_aae02_i2_17 ((zout (tb := bJ0_isLatin1_aae02) (pc := 18) k :)))
set_option maxRecDepth 8000 in
theorem zJ0_isLatin1_aae02_i2_18 {T : Nat × (Nat → Int32)} {d : Nat} {Q : mz_K} {X : mz_X} {g : mz_S} {u : Nat × Nat} {s0 : Int} (k : (w32 s0 = 0 ∨ w32 s0 = 1) ∧ Q s0 g) : aJ0_isLatin1_aae02_i2 T d Q X 18 [some (mx_S 12)] [mx_I s0] g u := mz_A_in (wJ0_isLatin1_aae02_i2_18 (k))
set_option maxRecDepth 8000 in
theorem zJ0_isLatin1_aae02_i2 {T : Nat × (Nat → Int32)} {d : Nat} {Q : mz_K} {X : mz_X} {g : mz_S} (k : (w32 1 = w32 0 → aJ0_isLatin1_aae02_i2 T d Q X 17 [some (mx_S 12)] [] g ((0, 0) : Nat × Nat)) ∧ (¬ (w32 1 = w32 0) → (¬ w32 0 = w32 0 → aJ0_isLatin1_aae02_i2 T d Q X 17 [some (mx_S 12)] [] g ((0, 0) : Nat × Nat)) ∧ (¬ (¬ w32 0 = w32 0) → aJ0_isLatin1_aae02_i2 T d Q X 18 [some (mx_S 12)] [mx_I 1] g ((0, 0) : Nat × Nat)))) : zC T (d + 1) 335 [mx_S 12] g Q X := mz_enter (t := mJ0_isLatin1_aae02) rfl rfl (mz_A_in (wJ0_isLatin1_aae02_i2_0 (k) :))
abbrev aJ0_coder_7d493_i3 (T : Nat × (Nat → Int32)) (d : Nat) (Q : mz_K) (X : mz_X) : mz_J := mz_A (mx_F1 T.1 T.2, mx_mt mJ0_coder_7d493, (mx_mc mJ0_coder_7d493, mx_ms mJ0_coder_7d493)) mz_sh mz_rk 1 (zC T d) bJ0_coder_7d493 Q X
abbrev eJ0_coder_7d493_i3 (T : Nat × (Nat → Int32)) (d : Nat) (Q : mz_K) (X : mz_X) (pc : Nat) : mx_L → List mx_v → mz_S → Nat × Nat → Prop := mz_B (mx_F1 T.1 T.2, mx_mt mJ0_coder_7d493, (mx_mc mJ0_coder_7d493, mx_ms mJ0_coder_7d493)) mz_sh mz_rk 1 (zC T d) (aJ0_coder_7d493_i3 T d Q X) Q X (mx_sfx bJ0_coder_7d493 pc)
set_option maxRecDepth 4000 in
theorem wJ0_coder_7d493_i3_0 {T : Nat × (Nat → Int32)} {d : Nat} {Q : mz_K} {X : mz_X} {g : mz_S} {u : Nat × Nat} (k : (w32 1 = w32 0 → aJ0_coder_7d493_i3 T d Q X 13 [some (mx_S 13)] [] g u) ∧ (¬ (w32 1 = w32 0) → aJ0_coder_7d493_i3 T d Q X 14 [some (mx_S 13)] [mx_I 0] g u)) : eJ0_coder_7d493_i3 T d Q X 0 [some (mx_S 13)] [] g u := k
set_option maxRecDepth 4000 in
theorem wJ0_coder_7d493_i3_13 {T : Nat × (Nat → Int32)} {d : Nat} {Q : mz_K} {X : mz_X} {g : mz_S} {u : Nat × Nat} (k : -128 ≤ w32 1 ∧ w32 1 ≤ 127 ∧ Q 1 g) : eJ0_coder_7d493_i3 T d Q X 13 [some (mx_S 13)] [] g u := k
set_option maxRecDepth 4000 in
theorem wJ0_coder_7d493_i3_14 {T : Nat × (Nat → Int32)} {d : Nat} {Q : mz_K} {X : mz_X} {g : mz_S} {u : Nat × Nat} {s0 : Int} (k : -128 ≤ w32 s0 ∧ w32 s0 ≤ 127 ∧ Q s0 g) : eJ0_coder_7d493_i3 T d Q X 14 [some (mx_S 13)] [mx_I s0] g u := k
set_option maxRecDepth 8000 in
theorem zJ0_coder_7d493_i3_14 {T : Nat × (Nat → Int32)} {d : Nat} {Q : mz_K} {X : mz_X} {g : mz_S} {u : Nat × Nat} {s0 : Int} (k : -128 ≤ w32 s0 ∧ w32 s0 ≤ 127 ∧ Q s0 g) : aJ0_coder_7d493_i3 T d Q X 14 [some (mx_S 13)] [mx_I s0] g u := mz_A_in (wJ0_coder_7d493_i3_14 (k))
set_option maxRecDepth 8000 in
theorem zJ0_coder_7d493_i3 {T : Nat × (Nat → Int32)} {d : Nat} {Q : mz_K} {X : mz_X} {g : mz_S} (k : (w32 1 = w32 0 → aJ0_coder_7d493_i3 T d Q X 14 [some (mx_S 13)] [mx_I 1] g ((0, 0) : Nat × Nat)) ∧ (¬ (w32 1 = w32 0) → aJ0_coder_7d493_i3 T d Q X 14 [some (mx_S 13)] [mx_I 0] g ((0, 0) : Nat × Nat))) : zC T (d + 1) 334 [mx_S 13] g Q X := mz_enter (t := mJ0_coder_7d493) rfl rfl (mz_A_in (wJ0_coder_7d493_i3_0 (zI (k) (fun k z => mz_A_in (wJ0_coder_7d493_i3_13 ((zout (tb := bJ0_coder_7d493) (pc := 14) (k z) :)))) (fun k => k)) :))
abbrev aJ0_isLatin1_aae02_i3 (T : Nat × (Nat → Int32)) (d : Nat) (Q : mz_K) (X : mz_X) : mz_J := mz_A (mx_F1 T.1 T.2, mx_mt mJ0_isLatin1_aae02, (mx_mc mJ0_isLatin1_aae02, mx_ms mJ0_isLatin1_aae02)) mz_sh mz_rk 1 (zC T d) bJ0_isLatin1_aae02 Q X
abbrev eJ0_isLatin1_aae02_i3 (T : Nat × (Nat → Int32)) (d : Nat) (Q : mz_K) (X : mz_X) (pc : Nat) : mx_L → List mx_v → mz_S → Nat × Nat → Prop := mz_B (mx_F1 T.1 T.2, mx_mt mJ0_isLatin1_aae02, (mx_mc mJ0_isLatin1_aae02, mx_ms mJ0_isLatin1_aae02)) mz_sh mz_rk 1 (zC T d) (aJ0_isLatin1_aae02_i3 T d Q X) Q X (mx_sfx bJ0_isLatin1_aae02 pc)
set_option maxRecDepth 4000 in
theorem wJ0_isLatin1_aae02_i3_0 {T : Nat × (Nat → Int32)} {d : Nat} {Q : mz_K} {X : mz_X} {g : mz_S} {u : Nat × Nat} (k : (w32 1 = w32 0 → aJ0_isLatin1_aae02_i3 T d Q X 17 [some (mx_S 13)] [] g u) ∧ (¬ (w32 1 = w32 0) → (¬ w32 0 = w32 0 → aJ0_isLatin1_aae02_i3 T d Q X 17 [some (mx_S 13)] [] g u) ∧ (¬ (¬ w32 0 = w32 0) → aJ0_isLatin1_aae02_i3 T d Q X 18 [some (mx_S 13)] [mx_I 1] g u))) : eJ0_isLatin1_aae02_i3 T d Q X 0 [some (mx_S 13)] [] g u := k
set_option maxRecDepth 4000 in
theorem wJ0_isLatin1_aae02_i3_17 {T : Nat × (Nat → Int32)} {d : Nat} {Q : mz_K} {X : mz_X} {g : mz_S} {u : Nat × Nat} (k : (w32 0 = 0 ∨ w32 0 = 1) ∧ Q 0 g) : eJ0_isLatin1_aae02_i3 T d Q X 17 [some (mx_S 13)] [] g u := k
set_option maxRecDepth 4000 in
theorem wJ0_isLatin1_aae02_i3_18 {T : Nat × (Nat → Int32)} {d : Nat} {Q : mz_K} {X : mz_X} {g : mz_S} {u : Nat × Nat} {s0 : Int} (k : (w32 s0 = 0 ∨ w32 s0 = 1) ∧ Q s0 g) : eJ0_isLatin1_aae02_i3 T d Q X 18 [some (mx_S 13)] [mx_I s0] g u := k
set_option maxRecDepth 8000 in
theorem zJ0_isLatin1_aae02_i3_17 {T : Nat × (Nat → Int32)} {d : Nat} {Q : mz_K} {X : mz_X} {g : mz_S} {u : Nat × Nat} (k : aJ0_isLatin1_aae02_i3 T d Q X 18 [some (mx_S 13)] [mx_I 0] g u) : aJ0_isLatin1_aae02_i3 T d Q X 17 [some (mx_S 13)] [] g u := mz_A_in (wJ0_isLatin1_aae02_i3_17 ((zout (tb := bJ0_isLatin1_aae02) (pc := 18) k :)))
set_option maxRecDepth 8000 in
theorem zJ0_isLatin1_aae02_i3_18 {T : Nat × (Nat → Int32)} {d : Nat} {Q : mz_K} {X : mz_X} {g : mz_S} {u : Nat × Nat} {s0 : Int} (k : (w32 s0 = 0 ∨ w32 s0 = 1) ∧ Q s0 g) : aJ0_isLatin1_aae02_i3 T d Q X 18 [some (mx_S 13)] [mx_I s0] g u := mz_A_in (wJ0_isLatin1_aae02_i3_18 (k))
set_option maxRecDepth 8000 in
theorem zJ0_isLatin1_aae02_i3 {T : Nat × (Nat → Int32)} {d : Nat} {Q : mz_K} {X : mz_X} {g : mz_S} (k : (w32 1 = w32 0 → aJ0_isLatin1_aae02_i3 T d Q X 17 [some (mx_S 13)] [] g ((0, 0) : Nat × Nat)) ∧ (¬ (w32 1 = w32 0) → (¬ w32 0 = w32 0 → aJ0_isLatin1_aae02_i3 T d Q X 17 [some (mx_S 13)] [] g ((0, 0) : Nat × Nat)) ∧ (¬ (¬ w32 0 = w32 0) → aJ0_isLatin1_aae02_i3 T d Q X 18 [some (mx_S 13)] [mx_I 1] g ((0, 0) : Nat × Nat)))) : zC T (d + 1) 335 [mx_S 13] g Q X := mz_enter (t := mJ0_isLatin1_aae02) rfl rfl (mz_A_in (wJ0_isLatin1_aae02_i3_0 (k) :))
abbrev aJ0_coder_7d493_i4 (T : Nat × (Nat → Int32)) (d : Nat) (Q : mz_K) (X : mz_X) : mz_J := mz_A (mx_F1 T.1 T.2, mx_mt mJ0_coder_7d493, (mx_mc mJ0_coder_7d493, mx_ms mJ0_coder_7d493)) mz_sh mz_rk 1 (zC T d) bJ0_coder_7d493 Q X
abbrev eJ0_coder_7d493_i4 (T : Nat × (Nat → Int32)) (d : Nat) (Q : mz_K) (X : mz_X) (pc : Nat) : mx_L → List mx_v → mz_S → Nat × Nat → Prop := mz_B (mx_F1 T.1 T.2, mx_mt mJ0_coder_7d493, (mx_mc mJ0_coder_7d493, mx_ms mJ0_coder_7d493)) mz_sh mz_rk 1 (zC T d) (aJ0_coder_7d493_i4 T d Q X) Q X (mx_sfx bJ0_coder_7d493 pc)
set_option maxRecDepth 4000 in
theorem wJ0_coder_7d493_i4_0 {T : Nat × (Nat → Int32)} {d : Nat} {Q : mz_K} {X : mz_X} {g : mz_S} {u : Nat × Nat} (k : (w32 1 = w32 0 → aJ0_coder_7d493_i4 T d Q X 13 [some (mx_S 14)] [] g u) ∧ (¬ (w32 1 = w32 0) → aJ0_coder_7d493_i4 T d Q X 14 [some (mx_S 14)] [mx_I 0] g u)) : eJ0_coder_7d493_i4 T d Q X 0 [some (mx_S 14)] [] g u := k
set_option maxRecDepth 4000 in
theorem wJ0_coder_7d493_i4_13 {T : Nat × (Nat → Int32)} {d : Nat} {Q : mz_K} {X : mz_X} {g : mz_S} {u : Nat × Nat} (k : -128 ≤ w32 1 ∧ w32 1 ≤ 127 ∧ Q 1 g) : eJ0_coder_7d493_i4 T d Q X 13 [some (mx_S 14)] [] g u := k
set_option maxRecDepth 4000 in
theorem wJ0_coder_7d493_i4_14 {T : Nat × (Nat → Int32)} {d : Nat} {Q : mz_K} {X : mz_X} {g : mz_S} {u : Nat × Nat} {s0 : Int} (k : -128 ≤ w32 s0 ∧ w32 s0 ≤ 127 ∧ Q s0 g) : eJ0_coder_7d493_i4 T d Q X 14 [some (mx_S 14)] [mx_I s0] g u := k
set_option maxRecDepth 8000 in
theorem zJ0_coder_7d493_i4_14 {T : Nat × (Nat → Int32)} {d : Nat} {Q : mz_K} {X : mz_X} {g : mz_S} {u : Nat × Nat} {s0 : Int} (k : -128 ≤ w32 s0 ∧ w32 s0 ≤ 127 ∧ Q s0 g) : aJ0_coder_7d493_i4 T d Q X 14 [some (mx_S 14)] [mx_I s0] g u := mz_A_in (wJ0_coder_7d493_i4_14 (k))
set_option maxRecDepth 8000 in
theorem zJ0_coder_7d493_i4 {T : Nat × (Nat → Int32)} {d : Nat} {Q : mz_K} {X : mz_X} {g : mz_S} (k : (w32 1 = w32 0 → aJ0_coder_7d493_i4 T d Q X 14 [some (mx_S 14)] [mx_I 1] g ((0, 0) : Nat × Nat)) ∧ (¬ (w32 1 = w32 0) → aJ0_coder_7d493_i4 T d Q X 14 [some (mx_S 14)] [mx_I 0] g ((0, 0) : Nat × Nat))) : zC T (d + 1) 334 [mx_S 14] g Q X := mz_enter (t := mJ0_coder_7d493) rfl rfl (mz_A_in (wJ0_coder_7d493_i4_0 (zI (k) (fun k z => mz_A_in (wJ0_coder_7d493_i4_13 ((zout (tb := bJ0_coder_7d493) (pc := 14) (k z) :)))) (fun k => k)) :))
abbrev aJ0_isLatin1_aae02_i4 (T : Nat × (Nat → Int32)) (d : Nat) (Q : mz_K) (X : mz_X) : mz_J := mz_A (mx_F1 T.1 T.2, mx_mt mJ0_isLatin1_aae02, (mx_mc mJ0_isLatin1_aae02, mx_ms mJ0_isLatin1_aae02)) mz_sh mz_rk 1 (zC T d) bJ0_isLatin1_aae02 Q X
abbrev eJ0_isLatin1_aae02_i4 (T : Nat × (Nat → Int32)) (d : Nat) (Q : mz_K) (X : mz_X) (pc : Nat) : mx_L → List mx_v → mz_S → Nat × Nat → Prop := mz_B (mx_F1 T.1 T.2, mx_mt mJ0_isLatin1_aae02, (mx_mc mJ0_isLatin1_aae02, mx_ms mJ0_isLatin1_aae02)) mz_sh mz_rk 1 (zC T d) (aJ0_isLatin1_aae02_i4 T d Q X) Q X (mx_sfx bJ0_isLatin1_aae02 pc)
set_option maxRecDepth 4000 in
theorem wJ0_isLatin1_aae02_i4_0 {T : Nat × (Nat → Int32)} {d : Nat} {Q : mz_K} {X : mz_X} {g : mz_S} {u : Nat × Nat} (k : (w32 1 = w32 0 → aJ0_isLatin1_aae02_i4 T d Q X 17 [some (mx_S 14)] [] g u) ∧ (¬ (w32 1 = w32 0) → (¬ w32 0 = w32 0 → aJ0_isLatin1_aae02_i4 T d Q X 17 [some (mx_S 14)] [] g u) ∧ (¬ (¬ w32 0 = w32 0) → aJ0_isLatin1_aae02_i4 T d Q X 18 [some (mx_S 14)] [mx_I 1] g u))) : eJ0_isLatin1_aae02_i4 T d Q X 0 [some (mx_S 14)] [] g u := k
set_option maxRecDepth 4000 in
theorem wJ0_isLatin1_aae02_i4_17 {T : Nat × (Nat → Int32)} {d : Nat} {Q : mz_K} {X : mz_X} {g : mz_S} {u : Nat × Nat} (k : (w32 0 = 0 ∨ w32 0 = 1) ∧ Q 0 g) : eJ0_isLatin1_aae02_i4 T d Q X 17 [some (mx_S 14)] [] g u := k
set_option maxRecDepth 4000 in
theorem wJ0_isLatin1_aae02_i4_18 {T : Nat × (Nat → Int32)} {d : Nat} {Q : mz_K} {X : mz_X} {g : mz_S} {u : Nat × Nat} {s0 : Int} (k : (w32 s0 = 0 ∨ w32 s0 = 1) ∧ Q s0 g) : eJ0_isLatin1_aae02_i4 T d Q X 18 [some (mx_S 14)] [mx_I s0] g u := k
set_option maxRecDepth 8000 in
theorem zJ0_isLatin1_aae02_i4_17 {T : Nat × (Nat → Int32)} {d : Nat} {Q : mz_K} {X : mz_X} {g : mz_S} {u : Nat × Nat} (k : aJ0_isLatin1_aae02_i4 T d Q X 18 [some (mx_S 14)] [mx_I 0] g u) : aJ0_isLatin1_aae02_i4 T d Q X 17 [some (mx_S 14)] [] g u := mz_A_in (wJ0_isLatin1_aae02_i4_17 ((zout (tb := bJ0_isLatin1_aae02) (pc := 18) k :)))
set_option maxRecDepth 8000 in
theorem zJ0_isLatin1_aae02_i4_18 {T : Nat × (Nat → Int32)} {d : Nat} {Q : mz_K} {X : mz_X} {g : mz_S} {u : Nat × Nat} {s0 : Int} (k : (w32 s0 = 0 ∨ w32 s0 = 1) ∧ Q s0 g) : aJ0_isLatin1_aae02_i4 T d Q X 18 [some (mx_S 14)] [mx_I s0] g u := mz_A_in (wJ0_isLatin1_aae02_i4_18 (k))
set_option maxRecDepth 8000 in
theorem zJ0_isLatin1_aae02_i4 {T : Nat × (Nat → Int32)} {d : Nat} {Q : mz_K} {X : mz_X} {g : mz_S} (k : (w32 1 = w32 0 → aJ0_isLatin1_aae02_i4 T d Q X 17 [some (mx_S 14)] [] g ((0, 0) : Nat × Nat)) ∧ (¬ (w32 1 = w32 0) → (¬ w32 0 = w32 0 → aJ0_isLatin1_aae02_i4 T d Q X 17 [some (mx_S 14)] [] g ((0, 0) : Nat × Nat)) ∧ (¬ (¬ w32 0 = w32 0) → aJ0_isLatin1_aae02_i4 T d Q X 18 [some (mx_S 14)] [mx_I 1] g ((0, 0) : Nat × Nat)))) : zC T (d + 1) 335 [mx_S 14] g Q X := mz_enter (t := mJ0_isLatin1_aae02) rfl rfl (mz_A_in (wJ0_isLatin1_aae02_i4_0 (k) :))
abbrev aJ0_coder_7d493_i5 (T : Nat × (Nat → Int32)) (d : Nat) (Q : mz_K) (X : mz_X) : mz_J := mz_A (mx_F1 T.1 T.2, mx_mt mJ0_coder_7d493, (mx_mc mJ0_coder_7d493, mx_ms mJ0_coder_7d493)) mz_sh mz_rk 1 (zC T d) bJ0_coder_7d493 Q X
abbrev eJ0_coder_7d493_i5 (T : Nat × (Nat → Int32)) (d : Nat) (Q : mz_K) (X : mz_X) (pc : Nat) : mx_L → List mx_v → mz_S → Nat × Nat → Prop := mz_B (mx_F1 T.1 T.2, mx_mt mJ0_coder_7d493, (mx_mc mJ0_coder_7d493, mx_ms mJ0_coder_7d493)) mz_sh mz_rk 1 (zC T d) (aJ0_coder_7d493_i5 T d Q X) Q X (mx_sfx bJ0_coder_7d493 pc)
set_option maxRecDepth 4000 in
theorem wJ0_coder_7d493_i5_0 {T : Nat × (Nat → Int32)} {d : Nat} {Q : mz_K} {X : mz_X} {g : mz_S} {u : Nat × Nat} (k : (w32 1 = w32 0 → aJ0_coder_7d493_i5 T d Q X 13 [some (mx_S 15)] [] g u) ∧ (¬ (w32 1 = w32 0) → aJ0_coder_7d493_i5 T d Q X 14 [some (mx_S 15)] [mx_I 0] g u)) : eJ0_coder_7d493_i5 T d Q X 0 [some (mx_S 15)] [] g u := k
set_option maxRecDepth 4000 in
theorem wJ0_coder_7d493_i5_13 {T : Nat × (Nat → Int32)} {d : Nat} {Q : mz_K} {X : mz_X} {g : mz_S} {u : Nat × Nat} (k : -128 ≤ w32 1 ∧ w32 1 ≤ 127 ∧ Q 1 g) : eJ0_coder_7d493_i5 T d Q X 13 [some (mx_S 15)] [] g u := k
set_option maxRecDepth 4000 in
theorem wJ0_coder_7d493_i5_14 {T : Nat × (Nat → Int32)} {d : Nat} {Q : mz_K} {X : mz_X} {g : mz_S} {u : Nat × Nat} {s0 : Int} (k : -128 ≤ w32 s0 ∧ w32 s0 ≤ 127 ∧ Q s0 g) : eJ0_coder_7d493_i5 T d Q X 14 [some (mx_S 15)] [mx_I s0] g u := k
set_option maxRecDepth 8000 in
theorem zJ0_coder_7d493_i5_14 {T : Nat × (Nat → Int32)} {d : Nat} {Q : mz_K} {X : mz_X} {g : mz_S} {u : Nat × Nat} {s0 : Int} (k : -128 ≤ w32 s0 ∧ w32 s0 ≤ 127 ∧ Q s0 g) : aJ0_coder_7d493_i5 T d Q X 14 [some (mx_S 15)] [mx_I s0] g u := mz_A_in (wJ0_coder_7d493_i5_14 (k))
set_option maxRecDepth 8000 in
theorem zJ0_coder_7d493_i5 {T : Nat × (Nat → Int32)} {d : Nat} {Q : mz_K} {X : mz_X} {g : mz_S} (k : (w32 1 = w32 0 → aJ0_coder_7d493_i5 T d Q X 14 [some (mx_S 15)] [mx_I 1] g ((0, 0) : Nat × Nat)) ∧ (¬ (w32 1 = w32 0) → aJ0_coder_7d493_i5 T d Q X 14 [some (mx_S 15)] [mx_I 0] g ((0, 0) : Nat × Nat))) : zC T (d + 1) 334 [mx_S 15] g Q X := mz_enter (t := mJ0_coder_7d493) rfl rfl (mz_A_in (wJ0_coder_7d493_i5_0 (zI (k) (fun k z => mz_A_in (wJ0_coder_7d493_i5_13 ((zout (tb := bJ0_coder_7d493) (pc := 14) (k z) :)))) (fun k => k)) :))
abbrev aJ0_isLatin1_aae02_i5 (T : Nat × (Nat → Int32)) (d : Nat) (Q : mz_K) (X : mz_X) : mz_J := mz_A (mx_F1 T.1 T.2, mx_mt mJ0_isLatin1_aae02, (mx_mc mJ0_isLatin1_aae02, mx_ms mJ0_isLatin1_aae02)) mz_sh mz_rk 1 (zC T d) bJ0_isLatin1_aae02 Q X
abbrev eJ0_isLatin1_aae02_i5 (T : Nat × (Nat → Int32)) (d : Nat) (Q : mz_K) (X : mz_X) (pc : Nat) : mx_L → List mx_v → mz_S → Nat × Nat → Prop := mz_B (mx_F1 T.1 T.2, mx_mt mJ0_isLatin1_aae02, (mx_mc mJ0_isLatin1_aae02, mx_ms mJ0_isLatin1_aae02)) mz_sh mz_rk 1 (zC T d) (aJ0_isLatin1_aae02_i5 T d Q X) Q X (mx_sfx bJ0_isLatin1_aae02 pc)
set_option maxRecDepth 4000 in
theorem wJ0_isLatin1_aae02_i5_0 {T : Nat × (Nat → Int32)} {d : Nat} {Q : mz_K} {X : mz_X} {g : mz_S} {u : Nat × Nat} (k : (w32 1 = w32 0 → aJ0_isLatin1_aae02_i5 T d Q X 17 [some (mx_S 15)] [] g u) ∧ (¬ (w32 1 = w32 0) → (¬ w32 0 = w32 0 → aJ0_isLatin1_aae02_i5 T d Q X 17 [some (mx_S 15)] [] g u) ∧ (¬ (¬ w32 0 = w32 0) → aJ0_isLatin1_aae02_i5 T d Q X 18 [some (mx_S 15)] [mx_I 1] g u))) : eJ0_isLatin1_aae02_i5 T d Q X 0 [some (mx_S 15)] [] g u := k
set_option maxRecDepth 4000 in
theorem wJ0_isLatin1_aae02_i5_17 {T : Nat × (Nat → Int32)} {d : Nat} {Q : mz_K} {X : mz_X} {g : mz_S} {u : Nat × Nat} (k : (w32 0 = 0 ∨ w32 0 = 1) ∧ Q 0 g) : eJ0_isLatin1_aae02_i5 T d Q X 17 [some (mx_S 15)] [] g u := k
set_option maxRecDepth 4000 in
theorem wJ0_isLatin1_aae02_i5_18 {T : Nat × (Nat → Int32)} {d : Nat} {Q : mz_K} {X : mz_X} {g : mz_S} {u : Nat × Nat} {s0 : Int} (k : (w32 s0 = 0 ∨ w32 s0 = 1) ∧ Q s0 g) : eJ0_isLatin1_aae02_i5 T d Q X 18 [some (mx_S 15)] [mx_I s0] g u := k
set_option maxRecDepth 8000 in
theorem zJ0_isLatin1_aae02_i5_17 {T : Nat × (Nat → Int32)} {d : Nat} {Q : mz_K} {X : mz_X} {g : mz_S} {u : Nat × Nat} (k : aJ0_isLatin1_aae02_i5 T d Q X 18 [some (mx_S 15)] [mx_I 0] g u) : aJ0_isLatin1_aae02_i5 T d Q X 17 [some (mx_S 15)] [] g u := mz_A_in (wJ0_isLatin1_aae02_i5_17 ((zout (tb := bJ0_isLatin1_aae02) (pc := 18) k :)))
set_option maxRecDepth 8000 in
theorem zJ0_isLatin1_aae02_i5_18 {T : Nat × (Nat → Int32)} {d : Nat} {Q : mz_K} {X : mz_X} {g : mz_S} {u : Nat × Nat} {s0 : Int} (k : (w32 s0 = 0 ∨ w32 s0 = 1) ∧ Q s0 g) : aJ0_isLatin1_aae02_i5 T d Q X 18 [some (mx_S 15)] [mx_I s0] g u := mz_A_in (wJ0_isLatin1_aae02_i5_18 (k))
set_option maxRecDepth 8000 in
theorem zJ0_isLatin1_aae02_i5 {T : Nat × (Nat → Int32)} {d : Nat} {Q : mz_K} {X : mz_X} {g : mz_S} (k : (w32 1 = w32 0 → aJ0_isLatin1_aae02_i5 T d Q X 17 [some (mx_S 15)] [] g ((0, 0) : Nat × Nat)) ∧ (¬ (w32 1 = w32 0) → (¬ w32 0 = w32 0 → aJ0_isLatin1_aae02_i5 T d Q X 17 [some (mx_S 15)] [] g ((0, 0) : Nat × Nat)) ∧ (¬ (¬ w32 0 = w32 0) → aJ0_isLatin1_aae02_i5 T d Q X 18 [some (mx_S 15)] [mx_I 1] g ((0, 0) : Nat × Nat)))) : zC T (d + 1) 335 [mx_S 15] g Q X := mz_enter (t := mJ0_isLatin1_aae02) rfl rfl (mz_A_in (wJ0_isLatin1_aae02_i5_0 (k) :))
abbrev aJ0_coder_7d493_i6 (T : Nat × (Nat → Int32)) (d : Nat) (Q : mz_K) (X : mz_X) : mz_J := mz_A (mx_F1 T.1 T.2, mx_mt mJ0_coder_7d493, (mx_mc mJ0_coder_7d493, mx_ms mJ0_coder_7d493)) mz_sh mz_rk 1 (zC T d) bJ0_coder_7d493 Q X
abbrev eJ0_coder_7d493_i6 (T : Nat × (Nat → Int32)) (d : Nat) (Q : mz_K) (X : mz_X) (pc : Nat) : mx_L → List mx_v → mz_S → Nat × Nat → Prop := mz_B (mx_F1 T.1 T.2, mx_mt mJ0_coder_7d493, (mx_mc mJ0_coder_7d493, mx_ms mJ0_coder_7d493)) mz_sh mz_rk 1 (zC T d) (aJ0_coder_7d493_i6 T d Q X) Q X (mx_sfx bJ0_coder_7d493 pc)
set_option maxRecDepth 4000 in
theorem wJ0_coder_7d493_i6_0 {T : Nat × (Nat → Int32)} {d : Nat} {Q : mz_K} {X : mz_X} {g : mz_S} {u : Nat × Nat} (k : (w32 1 = w32 0 → aJ0_coder_7d493_i6 T d Q X 13 [some (mx_S 16)] [] g u) ∧ (¬ (w32 1 = w32 0) → aJ0_coder_7d493_i6 T d Q X 14 [some (mx_S 16)] [mx_I 0] g u)) : eJ0_coder_7d493_i6 T d Q X 0 [some (mx_S 16)] [] g u := k
set_option maxRecDepth 4000 in
theorem wJ0_coder_7d493_i6_13 {T : Nat × (Nat → Int32)} {d : Nat} {Q : mz_K} {X : mz_X} {g : mz_S} {u : Nat × Nat} (k : -128 ≤ w32 1 ∧ w32 1 ≤ 127 ∧ Q 1 g) : eJ0_coder_7d493_i6 T d Q X 13 [some (mx_S 16)] [] g u := k
set_option maxRecDepth 4000 in
theorem wJ0_coder_7d493_i6_14 {T : Nat × (Nat → Int32)} {d : Nat} {Q : mz_K} {X : mz_X} {g : mz_S} {u : Nat × Nat} {s0 : Int} (k : -128 ≤ w32 s0 ∧ w32 s0 ≤ 127 ∧ Q s0 g) : eJ0_coder_7d493_i6 T d Q X 14 [some (mx_S 16)] [mx_I s0] g u := k
set_option maxRecDepth 8000 in
theorem zJ0_coder_7d493_i6_14 {T : Nat × (Nat → Int32)} {d : Nat} {Q : mz_K} {X : mz_X} {g : mz_S} {u : Nat × Nat} {s0 : Int} (k : -128 ≤ w32 s0 ∧ w32 s0 ≤ 127 ∧ Q s0 g) : aJ0_coder_7d493_i6 T d Q X 14 [some (mx_S 16)] [mx_I s0] g u := mz_A_in (wJ0_coder_7d493_i6_14 (k))
set_option maxRecDepth 8000 in
theorem zJ0_coder_7d493_i6 {T : Nat × (Nat → Int32)} {d : Nat} {Q : mz_K} {X : mz_X} {g : mz_S} (k : (w32 1 = w32 0 → aJ0_coder_7d493_i6 T d Q X 14 [some (mx_S 16)] [mx_I 1] g ((0, 0) : Nat × Nat)) ∧ (¬ (w32 1 = w32 0) → aJ0_coder_7d493_i6 T d Q X 14 [some (mx_S 16)] [mx_I 0] g ((0, 0) : Nat × Nat))) : zC T (d + 1) 334 [mx_S 16] g Q X := mz_enter (t := mJ0_coder_7d493) rfl rfl (mz_A_in (wJ0_coder_7d493_i6_0 (zI (k) (fun k z => mz_A_in (wJ0_coder_7d493_i6_13 ((zout (tb := bJ0_coder_7d493) (pc := 14) (k z) :)))) (fun k => k)) :))
abbrev aJ0_isLatin1_aae02_i6 (T : Nat × (Nat → Int32)) (d : Nat) (Q : mz_K) (X : mz_X) : mz_J := mz_A (mx_F1 T.1 T.2, mx_mt mJ0_isLatin1_aae02, (mx_mc mJ0_isLatin1_aae02, mx_ms mJ0_isLatin1_aae02)) mz_sh mz_rk 1 (zC T d) bJ0_isLatin1_aae02 Q X
abbrev eJ0_isLatin1_aae02_i6 (T : Nat × (Nat → Int32)) (d : Nat) (Q : mz_K) (X : mz_X) (pc : Nat) : mx_L → List mx_v → mz_S → Nat × Nat → Prop := mz_B (mx_F1 T.1 T.2, mx_mt mJ0_isLatin1_aae02, (mx_mc mJ0_isLatin1_aae02, mx_ms mJ0_isLatin1_aae02)) mz_sh mz_rk 1 (zC T d) (aJ0_isLatin1_aae02_i6 T d Q X) Q X (mx_sfx bJ0_isLatin1_aae02 pc)
set_option maxRecDepth 4000 in
theorem wJ0_isLatin1_aae02_i6_0 {T : Nat × (Nat → Int32)} {d : Nat} {Q : mz_K} {X : mz_X} {g : mz_S} {u : Nat × Nat} (k : (w32 1 = w32 0 → aJ0_isLatin1_aae02_i6 T d Q X 17 [some (mx_S 16)] [] g u) ∧ (¬ (w32 1 = w32 0) → (¬ w32 0 = w32 0 → aJ0_isLatin1_aae02_i6 T d Q X 17 [some (mx_S 16)] [] g u) ∧ (¬ (¬ w32 0 = w32 0) → aJ0_isLatin1_aae02_i6 T d Q X 18 [some (mx_S 16)] [mx_I 1] g u))) : eJ0_isLatin1_aae02_i6 T d Q X 0 [some (mx_S 16)] [] g u := k
set_option maxRecDepth 4000 in
theorem wJ0_isLatin1_aae02_i6_17 {T : Nat × (Nat → Int32)} {d : Nat} {Q : mz_K} {X : mz_X} {g : mz_S} {u : Nat × Nat} (k : (w32 0 = 0 ∨ w32 0 = 1) ∧ Q 0 g) : eJ0_isLatin1_aae02_i6 T d Q X 17 [some (mx_S 16)] [] g u := k
set_option maxRecDepth 4000 in
theorem wJ0_isLatin1_aae02_i6_18 {T : Nat × (Nat → Int32)} {d : Nat} {Q : mz_K} {X : mz_X} {g : mz_S} {u : Nat × Nat} {s0 : Int} (k : (w32 s0 = 0 ∨ w32 s0 = 1) ∧ Q s0 g) : eJ0_isLatin1_aae02_i6 T d Q X 18 [some (mx_S 16)] [mx_I s0] g u := k
set_option maxRecDepth 8000 in
theorem zJ0_isLatin1_aae02_i6_17 {T : Nat × (Nat → Int32)} {d : Nat} {Q : mz_K} {X : mz_X} {g : mz_S} {u : Nat × Nat} (k : aJ0_isLatin1_aae02_i6 T d Q X 18 [some (mx_S 16)] [mx_I 0] g u) : aJ0_isLatin1_aae02_i6 T d Q X 17 [some (mx_S 16)] [] g u := mz_A_in (wJ0_isLatin1_aae02_i6_17 ((zout (tb := bJ0_isLatin1_aae02) (pc := 18) k :)))
set_option maxRecDepth 8000 in
theorem zJ0_isLatin1_aae02_i6_18 {T : Nat × (Nat → Int32)} {d : Nat} {Q : mz_K} {X : mz_X} {g : mz_S} {u : Nat × Nat} {s0 : Int} (k : (w32 s0 = 0 ∨ w32 s0 = 1) ∧ Q s0 g) : aJ0_isLatin1_aae02_i6 T d Q X 18 [some (mx_S 16)] [mx_I s0] g u := mz_A_in (wJ0_isLatin1_aae02_i6_18 (k))
set_option maxRecDepth 8000 in
theorem zJ0_isLatin1_aae02_i6 {T : Nat × (Nat → Int32)} {d : Nat} {Q : mz_K} {X : mz_X} {g : mz_S} (k : (w32 1 = w32 0 → aJ0_isLatin1_aae02_i6 T d Q X 17 [some (mx_S 16)] [] g ((0, 0) : Nat × Nat)) ∧ (¬ (w32 1 = w32 0) → (¬ w32 0 = w32 0 → aJ0_isLatin1_aae02_i6 T d Q X 17 [some (mx_S 16)] [] g ((0, 0) : Nat × Nat)) ∧ (¬ (¬ w32 0 = w32 0) → aJ0_isLatin1_aae02_i6 T d Q X 18 [some (mx_S 16)] [mx_I 1] g ((0, 0) : Nat × Nat)))) : zC T (d + 1) 335 [mx_S 16] g Q X := mz_enter (t := mJ0_isLatin1_aae02) rfl rfl (mz_A_in (wJ0_isLatin1_aae02_i6_0 (k) :))
abbrev aJ0_coder_7d493_i7 (T : Nat × (Nat → Int32)) (d : Nat) (Q : mz_K) (X : mz_X) : mz_J := mz_A (mx_F1 T.1 T.2, mx_mt mJ0_coder_7d493, (mx_mc mJ0_coder_7d493, mx_ms mJ0_coder_7d493)) mz_sh mz_rk 1 (zC T d) bJ0_coder_7d493 Q X
abbrev eJ0_coder_7d493_i7 (T : Nat × (Nat → Int32)) (d : Nat) (Q : mz_K) (X : mz_X) (pc : Nat) : mx_L → List mx_v → mz_S → Nat × Nat → Prop := mz_B (mx_F1 T.1 T.2, mx_mt mJ0_coder_7d493, (mx_mc mJ0_coder_7d493, mx_ms mJ0_coder_7d493)) mz_sh mz_rk 1 (zC T d) (aJ0_coder_7d493_i7 T d Q X) Q X (mx_sfx bJ0_coder_7d493 pc)
set_option maxRecDepth 4000 in
theorem wJ0_coder_7d493_i7_0 {T : Nat × (Nat → Int32)} {d : Nat} {Q : mz_K} {X : mz_X} {g : mz_S} {u : Nat × Nat} (k : (w32 1 = w32 0 → aJ0_coder_7d493_i7 T d Q X 13 [some (mx_S 17)] [] g u) ∧ (¬ (w32 1 = w32 0) → aJ0_coder_7d493_i7 T d Q X 14 [some (mx_S 17)] [mx_I 0] g u)) : eJ0_coder_7d493_i7 T d Q X 0 [some (mx_S 17)] [] g u := k
set_option maxRecDepth 4000 in
theorem wJ0_coder_7d493_i7_13 {T : Nat × (Nat → Int32)} {d : Nat} {Q : mz_K} {X : mz_X} {g : mz_S} {u : Nat × Nat} (k : -128 ≤ w32 1 ∧ w32 1 ≤ 127 ∧ Q 1 g) : eJ0_coder_7d493_i7 T d Q X 13 [some (mx_S 17)] [] g u := k
set_option maxRecDepth 4000 in
theorem wJ0_coder_7d493_i7_14 {T : Nat × (Nat → Int32)} {d : Nat} {Q : mz_K} {X : mz_X} {g : mz_S} {u : Nat × Nat} {s0 : Int} (k : -128 ≤ w32 s0 ∧ w32 s0 ≤ 127 ∧ Q s0 g) : eJ0_coder_7d493_i7 T d Q X 14 [some (mx_S 17)] [mx_I s0] g u := k
set_option maxRecDepth 8000 in
theorem zJ0_coder_7d493_i7_14 {T : Nat × (Nat → Int32)} {d : Nat} {Q : mz_K} {X : mz_X} {g : mz_S} {u : Nat × Nat} {s0 : Int} (k : -128 ≤ w32 s0 ∧ w32 s0 ≤ 127 ∧ Q s0 g) : aJ0_coder_7d493_i7 T d Q X 14 [some (mx_S 17)] [mx_I s0] g u := mz_A_in (wJ0_coder_7d493_i7_14 (k))
set_option maxRecDepth 8000 in
theorem zJ0_coder_7d493_i7 {T : Nat × (Nat → Int32)} {d : Nat} {Q : mz_K} {X : mz_X} {g : mz_S} (k : (w32 1 = w32 0 → aJ0_coder_7d493_i7 T d Q X 14 [some (mx_S 17)] [mx_I 1] g ((0, 0) : Nat × Nat)) ∧ (¬ (w32 1 = w32 0) → aJ0_coder_7d493_i7 T d Q X 14 [some (mx_S 17)] [mx_I 0] g ((0, 0) : Nat × Nat))) : zC T (d + 1) 334 [mx_S 17] g Q X := mz_enter (t := mJ0_coder_7d493) rfl rfl (mz_A_in (wJ0_coder_7d493_i7_0 (zI (k) (fun k z => mz_A_in (wJ0_coder_7d493_i7_13 ((zout (tb := bJ0_coder_7d493) (pc := 14) (k z) :)))) (fun k => k)) :))
abbrev aJ0_isLatin1_aae02_i7 (T : Nat × (Nat → Int32)) (d : Nat) (Q : mz_K) (X : mz_X) : mz_J := mz_A (mx_F1 T.1 T.2, mx_mt mJ0_isLatin1_aae02, (mx_mc mJ0_isLatin1_aae02, mx_ms mJ0_isLatin1_aae02)) mz_sh mz_rk 1 (zC T d) bJ0_isLatin1_aae02 Q X
abbrev eJ0_isLatin1_aae02_i7 (T : Nat × (Nat → Int32)) (d : Nat) (Q : mz_K) (X : mz_X) (pc : Nat) : mx_L → List mx_v → mz_S → Nat × Nat → Prop := mz_B (mx_F1 T.1 T.2, mx_mt mJ0_isLatin1_aae02, (mx_mc mJ0_isLatin1_aae02, mx_ms mJ0_isLatin1_aae02)) mz_sh mz_rk 1 (zC T d) (aJ0_isLatin1_aae02_i7 T d Q X) Q X (mx_sfx bJ0_isLatin1_aae02 pc)
set_option maxRecDepth 4000 in
theorem wJ0_isLatin1_aae02_i7_0 {T : Nat × (Nat → Int32)} {d : Nat} {Q : mz_K} {X : mz_X} {g : mz_S} {u : Nat × Nat} (k : (w32 1 = w32 0 → aJ0_isLatin1_aae02_i7 T d Q X 17 [some (mx_S 17)] [] g u) ∧ (¬ (w32 1 = w32 0) → (¬ w32 0 = w32 0 → aJ0_isLatin1_aae02_i7 T d Q X 17 [some (mx_S 17)] [] g u) ∧ (¬ (¬ w32 0 = w32 0) → aJ0_isLatin1_aae02_i7 T d Q X 18 [some (mx_S 17)] [mx_I 1] g u))) : eJ0_isLatin1_aae02_i7 T d Q X 0 [some (mx_S 17)] [] g u := k
set_option maxRecDepth 4000 in
theorem wJ0_isLatin1_aae02_i7_17 {T : Nat × (Nat → Int32)} {d : Nat} {Q : mz_K} {X : mz_X} {g : mz_S} {u : Nat × Nat} (k : (w32 0 = 0 ∨ w32 0 = 1) ∧ Q 0 g) : eJ0_isLatin1_aae02_i7 T d Q X 17 [some (mx_S 17)] [] g u := k
set_option maxRecDepth 4000 in
theorem wJ0_isLatin1_aae02_i7_18 {T : Nat × (Nat → Int32)} {d : Nat} {Q : mz_K} {X : mz_X} {g : mz_S} {u : Nat × Nat} {s0 : Int} (k : (w32 s0 = 0 ∨ w32 s0 = 1) ∧ Q s0 g) : eJ0_isLatin1_aae02_i7 T d Q X 18 [some (mx_S 17)] [mx_I s0] g u := k
set_option maxRecDepth 8000 in
theorem zJ0_isLatin1_aae02_i7_17 {T : Nat × (Nat → Int32)} {d : Nat} {Q : mz_K} {X : mz_X} {g : mz_S} {u : Nat × Nat} (k : aJ0_isLatin1_aae02_i7 T d Q X 18 [some (mx_S 17)] [mx_I 0] g u) : aJ0_isLatin1_aae02_i7 T d Q X 17 [some (mx_S 17)] [] g u := mz_A_in (wJ0_isLatin1_aae02_i7_17 ((zout (tb := bJ0_isLatin1_aae02) (pc := 18) k :)))
set_option maxRecDepth 8000 in
theorem zJ0_isLatin1_aae02_i7_18 {T : Nat × (Nat → Int32)} {d : Nat} {Q : mz_K} {X : mz_X} {g : mz_S} {u : Nat × Nat} {s0 : Int} (k : (w32 s0 = 0 ∨ w32 s0 = 1) ∧ Q s0 g) : aJ0_isLatin1_aae02_i7 T d Q X 18 [some (mx_S 17)] [mx_I s0] g u := mz_A_in (wJ0_isLatin1_aae02_i7_18 (k))
set_option maxRecDepth 8000 in
theorem zJ0_isLatin1_aae02_i7 {T : Nat × (Nat → Int32)} {d : Nat} {Q : mz_K} {X : mz_X} {g : mz_S} (k : (w32 1 = w32 0 → aJ0_isLatin1_aae02_i7 T d Q X 17 [some (mx_S 17)] [] g ((0, 0) : Nat × Nat)) ∧ (¬ (w32 1 = w32 0) → (¬ w32 0 = w32 0 → aJ0_isLatin1_aae02_i7 T d Q X 17 [some (mx_S 17)] [] g ((0, 0) : Nat × Nat)) ∧ (¬ (¬ w32 0 = w32 0) → aJ0_isLatin1_aae02_i7 T d Q X 18 [some (mx_S 17)] [mx_I 1] g ((0, 0) : Nat × Nat)))) : zC T (d + 1) 335 [mx_S 17] g Q X := mz_enter (t := mJ0_isLatin1_aae02) rfl rfl (mz_A_in (wJ0_isLatin1_aae02_i7_0 (k) :))
abbrev aJ0_coder_7d493_i8 (T : Nat × (Nat → Int32)) (d : Nat) (Q : mz_K) (X : mz_X) : mz_J := mz_A (mx_F1 T.1 T.2, mx_mt mJ0_coder_7d493, (mx_mc mJ0_coder_7d493, mx_ms mJ0_coder_7d493)) mz_sh mz_rk 1 (zC T d) bJ0_coder_7d493 Q X
abbrev eJ0_coder_7d493_i8 (T : Nat × (Nat → Int32)) (d : Nat) (Q : mz_K) (X : mz_X) (pc : Nat) : mx_L → List mx_v → mz_S → Nat × Nat → Prop := mz_B (mx_F1 T.1 T.2, mx_mt mJ0_coder_7d493, (mx_mc mJ0_coder_7d493, mx_ms mJ0_coder_7d493)) mz_sh mz_rk 1 (zC T d) (aJ0_coder_7d493_i8 T d Q X) Q X (mx_sfx bJ0_coder_7d493 pc)
set_option maxRecDepth 4000 in
theorem wJ0_coder_7d493_i8_0 {T : Nat × (Nat → Int32)} {d : Nat} {Q : mz_K} {X : mz_X} {g : mz_S} {u : Nat × Nat} (k : (w32 1 = w32 0 → aJ0_coder_7d493_i8 T d Q X 13 [some (mx_S 18)] [] g u) ∧ (¬ (w32 1 = w32 0) → aJ0_coder_7d493_i8 T d Q X 14 [some (mx_S 18)] [mx_I 0] g u)) : eJ0_coder_7d493_i8 T d Q X 0 [some (mx_S 18)] [] g u := k
set_option maxRecDepth 4000 in
theorem wJ0_coder_7d493_i8_13 {T : Nat × (Nat → Int32)} {d : Nat} {Q : mz_K} {X : mz_X} {g : mz_S} {u : Nat × Nat} (k : -128 ≤ w32 1 ∧ w32 1 ≤ 127 ∧ Q 1 g) : eJ0_coder_7d493_i8 T d Q X 13 [some (mx_S 18)] [] g u := k
set_option maxRecDepth 4000 in
theorem wJ0_coder_7d493_i8_14 {T : Nat × (Nat → Int32)} {d : Nat} {Q : mz_K} {X : mz_X} {g : mz_S} {u : Nat × Nat} {s0 : Int} (k : -128 ≤ w32 s0 ∧ w32 s0 ≤ 127 ∧ Q s0 g) : eJ0_coder_7d493_i8 T d Q X 14 [some (mx_S 18)] [mx_I s0] g u := k
set_option maxRecDepth 8000 in
theorem zJ0_coder_7d493_i8_14 {T : Nat × (Nat → Int32)} {d : Nat} {Q : mz_K} {X : mz_X} {g : mz_S} {u : Nat × Nat} {s0 : Int} (k : -128 ≤ w32 s0 ∧ w32 s0 ≤ 127 ∧ Q s0 g) : aJ0_coder_7d493_i8 T d Q X 14 [some (mx_S 18)] [mx_I s0] g u := mz_A_in (wJ0_coder_7d493_i8_14 (k))
set_option maxRecDepth 8000 in
theorem zJ0_coder_7d493_i8 {T : Nat × (Nat → Int32)} {d : Nat} {Q : mz_K} {X : mz_X} {g : mz_S} (k : (w32 1 = w32 0 → aJ0_coder_7d493_i8 T d Q X 14 [some (mx_S 18)] [mx_I 1] g ((0, 0) : Nat × Nat)) ∧ (¬ (w32 1 = w32 0) → aJ0_coder_7d493_i8 T d Q X 14 [some (mx_S 18)] [mx_I 0] g ((0, 0) : Nat × Nat))) : zC T (d + 1) 334 [mx_S 18] g Q X := mz_enter (t := mJ0_coder_7d493) rfl rfl (mz_A_in (wJ0_coder_7d493_i8_0 (zI (k) (fun k z => mz_A_in (wJ0_coder_7d493_i8_13 ((zout (tb := bJ0_coder_7d493) (pc := 14) (k z) :)))) (fun k => k)) :))
