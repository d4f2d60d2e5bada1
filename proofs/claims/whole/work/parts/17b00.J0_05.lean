/-! J0, 5 -/
abbrev aJ0_isLatin1_aae02_i20 (T : Nat × (Nat → Int32)) (d : Nat) (Q : mz_K) (X : mz_X) : mz_J := mz_A (mx_F1 T.1 T.2, mx_mt mJ0_isLatin1_aae02, (mx_mc mJ0_isLatin1_aae02, mx_ms mJ0_isLatin1_aae02)) mz_sh mz_rk 1 (zC T d) bJ0_isLatin1_aae02 Q X
abbrev eJ0_isLatin1_aae02_i20 (T : Nat × (Nat → Int32)) (d : Nat) (Q : mz_K) (X : mz_X) (pc : Nat) : mx_L → List mx_v → mz_S → Nat × Nat → Prop := mz_B (mx_F1 T.1 T.2, mx_mt mJ0_isLatin1_aae02, (mx_mc mJ0_isLatin1_aae02, mx_ms mJ0_isLatin1_aae02)) mz_sh mz_rk 1 (zC T d) (aJ0_isLatin1_aae02_i20 T d Q X) Q X (mx_sfx bJ0_isLatin1_aae02 pc)
set_option maxRecDepth 4000 in
theorem wJ0_isLatin1_aae02_i20_0 {T : Nat × (Nat → Int32)} {d : Nat} {Q : mz_K} {X : mz_X} {g : mz_S} {u : Nat × Nat} (k : (w32 1 = w32 0 → aJ0_isLatin1_aae02_i20 T d Q X 17 [some (mx_S 25)] [] g u) ∧ (¬ (w32 1 = w32 0) → (¬ w32 0 = w32 0 → aJ0_isLatin1_aae02_i20 T d Q X 17 [some (mx_S 25)] [] g u) ∧ (¬ (¬ w32 0 = w32 0) → aJ0_isLatin1_aae02_i20 T d Q X 18 [some (mx_S 25)] [mx_I 1] g u))) : eJ0_isLatin1_aae02_i20 T d Q X 0 [some (mx_S 25)] [] g u := k
set_option maxRecDepth 4000 in
theorem wJ0_isLatin1_aae02_i20_17 {T : Nat × (Nat → Int32)} {d : Nat} {Q : mz_K} {X : mz_X} {g : mz_S} {u : Nat × Nat} (k : (w32 0 = 0 ∨ w32 0 = 1) ∧ Q 0 g) : eJ0_isLatin1_aae02_i20 T d Q X 17 [some (mx_S 25)] [] g u := k
set_option maxRecDepth 4000 in
theorem wJ0_isLatin1_aae02_i20_18 {T : Nat × (Nat → Int32)} {d : Nat} {Q : mz_K} {X : mz_X} {g : mz_S} {u : Nat × Nat} {s0 : Int} (k : (w32 s0 = 0 ∨ w32 s0 = 1) ∧ Q s0 g) : eJ0_isLatin1_aae02_i20 T d Q X 18 [some (mx_S 25)] [mx_I s0] g u := k
set_option maxRecDepth 8000 in
theorem zJ0_isLatin1_aae02_i20_17 {T : Nat × (Nat → Int32)} {d : Nat} {Q : mz_K} {X : mz_X} {g : mz_S} {u : Nat × Nat} (k : aJ0_isLatin1_aae02_i20 T d Q X 18 [some (mx_S 25)] [mx_I 0] g u) : aJ0_isLatin1_aae02_i20 T d Q X 17 [some (mx_S 25)] [] g u := mz_A_in (wJ0_isLatin1_aae02_i20_17 ((zout (tb := bJ0_isLatin1_aae02) (pc := 18) k :)))
set_option maxRecDepth 8000 in
theorem zJ0_isLatin1_aae02_i20_18 {T : Nat × (Nat → Int32)} {d : Nat} {Q : mz_K} {X : mz_X} {g : mz_S} {u : Nat × Nat} {s0 : Int} (k : (w32 s0 = 0 ∨ w32 s0 = 1) ∧ Q s0 g) : aJ0_isLatin1_aae02_i20 T d Q X 18 [some (mx_S 25)] [mx_I s0] g u := mz_A_in (wJ0_isLatin1_aae02_i20_18 (k))
set_option maxRecDepth 8000 in
theorem zJ0_isLatin1_aae02_i20 {T : Nat × (Nat → Int32)} {d : Nat} {Q : mz_K} {X : mz_X} {g : mz_S} (k : (w32 1 = w32 0 → aJ0_isLatin1_aae02_i20 T d Q X 17 [some (mx_S 25)] [] g ((0, 0) : Nat × Nat)) ∧ (¬ (w32 1 = w32 0) → (¬ w32 0 = w32 0 → aJ0_isLatin1_aae02_i20 T d Q X 17 [some (mx_S 25)] [] g ((0, 0) : Nat × Nat)) ∧ (¬ (¬ w32 0 = w32 0) → aJ0_isLatin1_aae02_i20 T d Q X 18 [some (mx_S 25)] [mx_I 1] g ((0, 0) : Nat × Nat)))) : zC T (d + 1) 335 [mx_S 25] g Q X := mz_enter (t := mJ0_isLatin1_aae02) rfl rfl (mz_A_in (wJ0_isLatin1_aae02_i20_0 (k) :))
abbrev aJ0_coder_7d493_i21 (T : Nat × (Nat → Int32)) (d : Nat) (Q : mz_K) (X : mz_X) : mz_J := mz_A (mx_F1 T.1 T.2, mx_mt mJ0_coder_7d493, (mx_mc mJ0_coder_7d493, mx_ms mJ0_coder_7d493)) mz_sh mz_rk 1 (zC T d) bJ0_coder_7d493 Q X
abbrev eJ0_coder_7d493_i21 (T : Nat × (Nat → Int32)) (d : Nat) (Q : mz_K) (X : mz_X) (pc : Nat) : mx_L → List mx_v → mz_S → Nat × Nat → Prop := mz_B (mx_F1 T.1 T.2, mx_mt mJ0_coder_7d493, (mx_mc mJ0_coder_7d493, mx_ms mJ0_coder_7d493)) mz_sh mz_rk 1 (zC T d) (aJ0_coder_7d493_i21 T d Q X) Q X (mx_sfx bJ0_coder_7d493 pc)
set_option maxRecDepth 4000 in
theorem wJ0_coder_7d493_i21_0 {T : Nat × (Nat → Int32)} {d : Nat} {Q : mz_K} {X : mz_X} {g : mz_S} {u : Nat × Nat} (k : (w32 1 = w32 0 → aJ0_coder_7d493_i21 T d Q X 13 [some (mx_S 26)] [] g u) ∧ (¬ (w32 1 = w32 0) → aJ0_coder_7d493_i21 T d Q X 14 [some (mx_S 26)] [mx_I 0] g u)) : eJ0_coder_7d493_i21 T d Q X 0 [some (mx_S 26)] [] g u := k
set_option maxRecDepth 4000 in
theorem wJ0_coder_7d493_i21_13 {T : Nat × (Nat → Int32)} {d : Nat} {Q : mz_K} {X : mz_X} {g : mz_S} {u : Nat × Nat} (k : -128 ≤ w32 1 ∧ w32 1 ≤ 127 ∧ Q 1 g) : eJ0_coder_7d493_i21 T d Q X 13 [some (mx_S 26)] [] g u := k
set_option maxRecDepth 4000 in
theorem wJ0_coder_7d493_i21_14 {T : Nat × (Nat → Int32)} {d : Nat} {Q : mz_K} {X : mz_X} {g : mz_S} {u : Nat × Nat} {s0 : Int} (k : -128 ≤ w32 s0 ∧ w32 s0 ≤ 127 ∧ Q s0 g) : eJ0_coder_7d493_i21 T d Q X 14 [some (mx_S 26)] [mx_I s0] g u := k
set_option maxRecDepth 8000 in
theorem zJ0_coder_7d493_i21_14 {T : Nat × (Nat → Int32)} {d : Nat} {Q : mz_K} {X : mz_X} {g : mz_S} {u : Nat × Nat} {s0 : Int} (k : -128 ≤ w32 s0 ∧ w32 s0 ≤ 127 ∧ Q s0 g) : aJ0_coder_7d493_i21 T d Q X 14 [some (mx_S 26)] [mx_I s0] g u := mz_A_in (wJ0_coder_7d493_i21_14 (k))
set_option maxRecDepth 8000 in
theorem zJ0_coder_7d493_i21 {T : Nat × (Nat → Int32)} {d : Nat} {Q : mz_K} {X : mz_X} {g : mz_S} (k : (w32 1 = w32 0 → aJ0_coder_7d493_i21 T d Q X 14 [some (mx_S 26)] [mx_I 1] g ((0, 0) : Nat × Nat)) ∧ (¬ (w32 1 = w32 0) → aJ0_coder_7d493_i21 T d Q X 14 [some (mx_S 26)] [mx_I 0] g ((0, 0) : Nat × Nat))) : zC T (d + 1) 334 [mx_S 26] g Q X := mz_enter (t := mJ0_coder_7d493) rfl rfl (mz_A_in (wJ0_coder_7d493_i21_0 (zI (k) (fun k z => mz_A_in (wJ0_coder_7d493_i21_13 ((zout (tb := bJ0_coder_7d493) (pc := 14) (k z) :)))) (fun k => k)) :))
abbrev aJ0_isLatin1_aae02_i21 (T : Nat × (Nat → Int32)) (d : Nat) (Q : mz_K) (X : mz_X) : mz_J := mz_A (mx_F1 T.1 T.2, mx_mt mJ0_isLatin1_aae02, (mx_mc mJ0_isLatin1_aae02, mx_ms mJ0_isLatin1_aae02)) mz_sh mz_rk 1 (zC T d) bJ0_isLatin1_aae02 Q X
abbrev eJ0_isLatin1_aae02_i21 (T : Nat × (Nat → Int32)) (d : Nat) (Q : mz_K) (X : mz_X) (pc : Nat) : mx_L → List mx_v → mz_S → Nat × Nat → Prop := mz_B (mx_F1 T.1 T.2, mx_mt mJ0_isLatin1_aae02, (mx_mc mJ0_isLatin1_aae02, mx_ms mJ0_isLatin1_aae02)) mz_sh mz_rk 1 (zC T d) (aJ0_isLatin1_aae02_i21 T d Q X) Q X (mx_sfx bJ0_isLatin1_aae02 pc)
set_option maxRecDepth 4000 in
theorem wJ0_isLatin1_aae02_i21_0 {T : Nat × (Nat → Int32)} {d : Nat} {Q : mz_K} {X : mz_X} {g : mz_S} {u : Nat × Nat} (k : (w32 1 = w32 0 → aJ0_isLatin1_aae02_i21 T d Q X 17 [some (mx_S 26)] [] g u) ∧ (¬ (w32 1 = w32 0) → (¬ w32 0 = w32 0 → aJ0_isLatin1_aae02_i21 T d Q X 17 [some (mx_S 26)] [] g u) ∧ (¬ (¬ w32 0 = w32 0) → aJ0_isLatin1_aae02_i21 T d Q X 18 [some (mx_S 26)] [mx_I 1] g u))) : eJ0_isLatin1_aae02_i21 T d Q X 0 [some (mx_S 26)] [] g u := k
set_option maxRecDepth 4000 in
theorem wJ0_isLatin1_aae02_i21_17 {T : Nat × (Nat → Int32)} {d : Nat} {Q : mz_K} {X : mz_X} {g : mz_S} {u : Nat × Nat} (k : (w32 0 = 0 ∨ w32 0 = 1) ∧ Q 0 g) : eJ0_isLatin1_aae02_i21 T d Q X 17 [some (mx_S 26)] [] g u := k
set_option maxRecDepth 4000 in
theorem wJ0_isLatin1_aae02_i21_18 {T : Nat × (Nat → Int32)} {d : Nat} {Q : mz_K} {X : mz_X} {g : mz_S} {u : Nat × Nat} {s0 : Int} (k : (w32 s0 = 0 ∨ w32 s0 = 1) ∧ Q s0 g) : eJ0_isLatin1_aae02_i21 T d Q X 18 [some (mx_S 26)] [mx_I s0] g u := k
set_option maxRecDepth 8000 in
theorem zJ0_isLatin1_aae02_i21_17 {T : Nat × (Nat → Int32)} {d : Nat} {Q : mz_K} {X : mz_X} {g : mz_S} {u : Nat × Nat} (k : aJ0_isLatin1_aae02_i21 T d Q X 18 [some (mx_S 26)] [mx_I 0] g u) : aJ0_isLatin1_aae02_i21 T d Q X 17 [some (mx_S 26)] [] g u := mz_A_in (wJ0_isLatin1_aae02_i21_17 ((zout (tb := bJ0_isLatin1_aae02) (pc := 18) k :)))
set_option maxRecDepth 8000 in
theorem zJ0_isLatin1_aae02_i21_18 {T : Nat × (Nat → Int32)} {d : Nat} {Q : mz_K} {X : mz_X} {g : mz_S} {u : Nat × Nat} {s0 : Int} (k : (w32 s0 = 0 ∨ w32 s0 = 1) ∧ Q s0 g) : aJ0_isLatin1_aae02_i21 T d Q X 18 [some (mx_S 26)] [mx_I s0] g u := mz_A_in (wJ0_isLatin1_aae02_i21_18 (k))
set_option maxRecDepth 8000 in
theorem zJ0_isLatin1_aae02_i21 {T : Nat × (Nat → Int32)} {d : Nat} {Q : mz_K} {X : mz_X} {g : mz_S} (k : (w32 1 = w32 0 → aJ0_isLatin1_aae02_i21 T d Q X 17 [some (mx_S 26)] [] g ((0, 0) : Nat × Nat)) ∧ (¬ (w32 1 = w32 0) → (¬ w32 0 = w32 0 → aJ0_isLatin1_aae02_i21 T d Q X 17 [some (mx_S 26)] [] g ((0, 0) : Nat × Nat)) ∧ (¬ (¬ w32 0 = w32 0) → aJ0_isLatin1_aae02_i21 T d Q X 18 [some (mx_S 26)] [mx_I 1] g ((0, 0) : Nat × Nat)))) : zC T (d + 1) 335 [mx_S 26] g Q X := mz_enter (t := mJ0_isLatin1_aae02) rfl rfl (mz_A_in (wJ0_isLatin1_aae02_i21_0 (k) :))
abbrev aJ0_coder_7d493_i22 (T : Nat × (Nat → Int32)) (d : Nat) (Q : mz_K) (X : mz_X) : mz_J := mz_A (mx_F1 T.1 T.2, mx_mt mJ0_coder_7d493, (mx_mc mJ0_coder_7d493, mx_ms mJ0_coder_7d493)) mz_sh mz_rk 1 (zC T d) bJ0_coder_7d493 Q X
abbrev eJ0_coder_7d493_i22 (T : Nat × (Nat → Int32)) (d : Nat) (Q : mz_K) (X : mz_X) (pc : Nat) : mx_L → List mx_v → mz_S → Nat × Nat → Prop := mz_B (mx_F1 T.1 T.2, mx_mt mJ0_coder_7d493, (mx_mc mJ0_coder_7d493, mx_ms mJ0_coder_7d493)) mz_sh mz_rk 1 (zC T d) (aJ0_coder_7d493_i22 T d Q X) Q X (mx_sfx bJ0_coder_7d493 pc)
set_option maxRecDepth 4000 in
theorem wJ0_coder_7d493_i22_0 {T : Nat × (Nat → Int32)} {d : Nat} {Q : mz_K} {X : mz_X} {g : mz_S} {u : Nat × Nat} (k : (w32 1 = w32 0 → aJ0_coder_7d493_i22 T d Q X 13 [some (mx_S 27)] [] g u) ∧ (¬ (w32 1 = w32 0) → aJ0_coder_7d493_i22 T d Q X 14 [some (mx_S 27)] [mx_I 0] g u)) : eJ0_coder_7d493_i22 T d Q X 0 [some (mx_S 27)] [] g u := k
set_option maxRecDepth 4000 in
theorem wJ0_coder_7d493_i22_13 {T : Nat × (Nat → Int32)} {d : Nat} {Q : mz_K} {X : mz_X} {g : mz_S} {u : Nat × Nat} (k : -128 ≤ w32 1 ∧ w32 1 ≤ 127 ∧ Q 1 g) : eJ0_coder_7d493_i22 T d Q X 13 [some (mx_S 27)] [] g u := k
set_option maxRecDepth 4000 in
theorem wJ0_coder_7d493_i22_14 {T : Nat × (Nat → Int32)} {d : Nat} {Q : mz_K} {X : mz_X} {g : mz_S} {u : Nat × Nat} {s0 : Int} (k : -128 ≤ w32 s0 ∧ w32 s0 ≤ 127 ∧ Q s0 g) : eJ0_coder_7d493_i22 T d Q X 14 [some (mx_S 27)] [mx_I s0] g u := k
set_option maxRecDepth 8000 in
theorem zJ0_coder_7d493_i22_14 {T : Nat × (Nat → Int32)} {d : Nat} {Q : mz_K} {X : mz_X} {g : mz_S} {u : Nat × Nat} {s0 : Int} (k : -128 ≤ w32 s0 ∧ w32 s0 ≤ 127 ∧ Q s0 g) : aJ0_coder_7d493_i22 T d Q X 14 [some (mx_S 27)] [mx_I s0] g u := mz_A_in (wJ0_coder_7d493_i22_14 (k))
set_option maxRecDepth 8000 in
theorem zJ0_coder_7d493_i22 {T : Nat × (Nat → Int32)} {d : Nat} {Q : mz_K} {X : mz_X} {g : mz_S} (k : (w32 1 = w32 0 → aJ0_coder_7d493_i22 T d Q X 14 [some (mx_S 27)] [mx_I 1] g ((0, 0) : Nat × Nat)) ∧ (¬ (w32 1 = w32 0) → aJ0_coder_7d493_i22 T d Q X 14 [some (mx_S 27)] [mx_I 0] g ((0, 0) : Nat × Nat))) : zC T (d + 1) 334 [mx_S 27] g Q X := mz_enter (t := mJ0_coder_7d493) rfl rfl (mz_A_in (wJ0_coder_7d493_i22_0 (zI (k) (fun k z => mz_A_in (wJ0_coder_7d493_i22_13 ((zout (tb := bJ0_coder_7d493) (pc := 14) (k z) :)))) (fun k => k)) :))
abbrev aJ0_isLatin1_aae02_i22 (T : Nat × (Nat → Int32)) (d : Nat) (Q : mz_K) (X : mz_X) : mz_J := mz_A (mx_F1 T.1 T.2, mx_mt mJ0_isLatin1_aae02, (mx_mc mJ0_isLatin1_aae02, mx_ms mJ0_isLatin1_aae02)) mz_sh mz_rk 1 (zC T d) bJ0_isLatin1_aae02 Q X
abbrev eJ0_isLatin1_aae02_i22 (T : Nat × (Nat → Int32)) (d : Nat) (Q : mz_K) (X : mz_X) (pc : Nat) : mx_L → List mx_v → mz_S → Nat × Nat → Prop := mz_B (mx_F1 T.1 T.2, mx_mt mJ0_isLatin1_aae02, (mx_mc mJ0_isLatin1_aae02, mx_ms mJ0_isLatin1_aae02)) mz_sh mz_rk 1 (zC T d) (aJ0_isLatin1_aae02_i22 T d Q X) Q X (mx_sfx bJ0_isLatin1_aae02 pc)
set_option maxRecDepth 4000 in
theorem wJ0_isLatin1_aae02_i22_0 {T : Nat × (Nat → Int32)} {d : Nat} {Q : mz_K} {X : mz_X} {g : mz_S} {u : Nat × Nat} (k : (w32 1 = w32 0 → aJ0_isLatin1_aae02_i22 T d Q X 17 [some (mx_S 27)] [] g u) ∧ (¬ (w32 1 = w32 0) → (¬ w32 0 = w32 0 → aJ0_isLatin1_aae02_i22 T d Q X 17 [some (mx_S 27)] [] g u) ∧ (¬ (¬ w32 0 = w32 0) → aJ0_isLatin1_aae02_i22 T d Q X 18 [some (mx_S 27)] [mx_I 1] g u))) : eJ0_isLatin1_aae02_i22 T d Q X 0 [some (mx_S 27)] [] g u := k
set_option maxRecDepth 4000 in
theorem wJ0_isLatin1_aae02_i22_17 {T : Nat × (Nat → Int32)} {d : Nat} {Q : mz_K} {X : mz_X} {g : mz_S} {u : Nat × Nat} (k : (w32 0 = 0 ∨ w32 0 = 1) ∧ Q 0 g) : eJ0_isLatin1_aae02_i22 T d Q X 17 [some (mx_S 27)] [] g u := k
set_option maxRecDepth 4000 in
theorem wJ0_isLatin1_aae02_i22_18 {T : Nat × (Nat → Int32)} {d : Nat} {Q : mz_K} {X : mz_X} {g : mz_S} {u : Nat × Nat} {s0 : Int} (k : (w32 s0 = 0 ∨ w32 s0 = 1) ∧ Q s0 g) : eJ0_isLatin1_aae02_i22 T d Q X 18 [some (mx_S 27)] [mx_I s0] g u := k
set_option maxRecDepth 8000 in
theorem zJ0_isLatin1_aae02_i22_17 {T : Nat × (Nat → Int32)} {d : Nat} {Q : mz_K} {X : mz_X} {g : mz_S} {u : Nat × Nat} (k : aJ0_isLatin1_aae02_i22 T d Q X 18 [some (mx_S 27)] [mx_I 0] g u) : aJ0_isLatin1_aae02_i22 T d Q X 17 [some (mx_S 27)] [] g u := mz_A_in (wJ0_isLatin1_aae02_i22_17 ((zout (tb := bJ0_isLatin1_aae02) (pc := 18) k :)))
set_option maxRecDepth 8000 in
theorem zJ0_isLatin1_aae02_i22_18 {T : Nat × (Nat → Int32)} {d : Nat} {Q : mz_K} {X : mz_X} {g : mz_S} {u : Nat × Nat} {s0 : Int} (k : (w32 s0 = 0 ∨ w32 s0 = 1) ∧ Q s0 g) : aJ0_isLatin1_aae02_i22 T d Q X 18 [some (mx_S 27)] [mx_I s0] g u := mz_A_in (wJ0_isLatin1_aae02_i22_18 (k))
set_option maxRecDepth 8000 in
theorem zJ0_isLatin1_aae02_i22 {T : Nat × (Nat → Int32)} {d : Nat} {Q : mz_K} {X : mz_X} {g : mz_S} (k : (w32 1 = w32 0 → aJ0_isLatin1_aae02_i22 T d Q X 17 [some (mx_S 27)] [] g ((0, 0) : Nat × Nat)) ∧ (¬ (w32 1 = w32 0) → (¬ w32 0 = w32 0 → aJ0_isLatin1_aae02_i22 T d Q X 17 [some (mx_S 27)] [] g ((0, 0) : Nat × Nat)) ∧ (¬ (¬ w32 0 = w32 0) → aJ0_isLatin1_aae02_i22 T d Q X 18 [some (mx_S 27)] [mx_I 1] g ((0, 0) : Nat × Nat)))) : zC T (d + 1) 335 [mx_S 27] g Q X := mz_enter (t := mJ0_isLatin1_aae02) rfl rfl (mz_A_in (wJ0_isLatin1_aae02_i22_0 (k) :))
abbrev aJ0_coder_7d493_i23 (T : Nat × (Nat → Int32)) (d : Nat) (Q : mz_K) (X : mz_X) : mz_J := mz_A (mx_F1 T.1 T.2, mx_mt mJ0_coder_7d493, (mx_mc mJ0_coder_7d493, mx_ms mJ0_coder_7d493)) mz_sh mz_rk 1 (zC T d) bJ0_coder_7d493 Q X
abbrev eJ0_coder_7d493_i23 (T : Nat × (Nat → Int32)) (d : Nat) (Q : mz_K) (X : mz_X) (pc : Nat) : mx_L → List mx_v → mz_S → Nat × Nat → Prop := mz_B (mx_F1 T.1 T.2, mx_mt mJ0_coder_7d493, (mx_mc mJ0_coder_7d493, mx_ms mJ0_coder_7d493)) mz_sh mz_rk 1 (zC T d) (aJ0_coder_7d493_i23 T d Q X) Q X (mx_sfx bJ0_coder_7d493 pc)
set_option maxRecDepth 4000 in
theorem wJ0_coder_7d493_i23_0 {T : Nat × (Nat → Int32)} {d : Nat} {Q : mz_K} {X : mz_X} {g : mz_S} {u : Nat × Nat} (k : (w32 1 = w32 0 → aJ0_coder_7d493_i23 T d Q X 13 [some (mx_S 28)] [] g u) ∧ (¬ (w32 1 = w32 0) → aJ0_coder_7d493_i23 T d Q X 14 [some (mx_S 28)] [mx_I 0] g u)) : eJ0_coder_7d493_i23 T d Q X 0 [some (mx_S 28)] [] g u := k
set_option maxRecDepth 4000 in
theorem wJ0_coder_7d493_i23_13 {T : Nat × (Nat → Int32)} {d : Nat} {Q : mz_K} {X : mz_X} {g : mz_S} {u : Nat × Nat} (k : -128 ≤ w32 1 ∧ w32 1 ≤ 127 ∧ Q 1 g) : eJ0_coder_7d493_i23 T d Q X 13 [some (mx_S 28)] [] g u := k
set_option maxRecDepth 4000 in
theorem wJ0_coder_7d493_i23_14 {T : Nat × (Nat → Int32)} {d : Nat} {Q : mz_K} {X : mz_X} {g : mz_S} {u : Nat × Nat} {s0 : Int} (k : -128 ≤ w32 s0 ∧ w32 s0 ≤ 127 ∧ Q s0 g) : eJ0_coder_7d493_i23 T d Q X 14 [some (mx_S 28)] [mx_I s0] g u := k
set_option maxRecDepth 8000 in
theorem zJ0_coder_7d493_i23_14 {T : Nat × (Nat → Int32)} {d : Nat} {Q : mz_K} {X : mz_X} {g : mz_S} {u : Nat × Nat} {s0 : Int} (k : -128 ≤ w32 s0 ∧ w32 s0 ≤ 127 ∧ Q s0 g) : aJ0_coder_7d493_i23 T d Q X 14 [some (mx_S 28)] [mx_I s0] g u := mz_A_in (wJ0_coder_7d493_i23_14 (k))
set_option maxRecDepth 8000 in
theorem zJ0_coder_7d493_i23 {T : Nat × (Nat → Int32)} {d : Nat} {Q : mz_K} {X : mz_X} {g : mz_S} (k : (w32 1 = w32 0 → aJ0_coder_7d493_i23 T d Q X 14 [some (mx_S 28)] [mx_I 1] g ((0, 0) : Nat × Nat)) ∧ (¬ (w32 1 = w32 0) → aJ0_coder_7d493_i23 T d Q X 14 [some (mx_S 28)] [mx_I 0] g ((0, 0) : Nat × Nat))) : zC T (d + 1) 334 [mx_S 28] g Q X := mz_enter (t := mJ0_coder_7d493) rfl rfl (mz_A_in (wJ0_coder_7d493_i23_0 (zI (k) (fun k z => mz_A_in (wJ0_coder_7d493_i23_13 ((zout (tb := bJ0_coder_7d493) (pc := 14) (k z) :)))) (fun k => k)) :))
abbrev aJ0_isLatin1_aae02_i23 (T : Nat × (Nat → Int32)) (d : Nat) (Q : mz_K) (X : mz_X) : mz_J := mz_A (mx_F1 T.1 T.2, mx_mt mJ0_isLatin1_aae02, (mx_mc mJ0_isLatin1_aae02, mx_ms mJ0_isLatin1_aae02)) mz_sh mz_rk 1 (zC T d) bJ0_isLatin1_aae02 Q X
abbrev eJ0_isLatin1_aae02_i23 (T : Nat × (Nat → Int32)) (d : Nat) (Q : mz_K) (X : mz_X) (pc : Nat) : mx_L → List mx_v → mz_S → Nat × Nat → Prop := mz_B (mx_F1 T.1 T.2, mx_mt mJ0_isLatin1_aae02, (mx_mc mJ0_isLatin1_aae02, mx_ms mJ0_isLatin1_aae02)) mz_sh mz_rk 1 (zC T d) (aJ0_isLatin1_aae02_i23 T d Q X) Q X (mx_sfx bJ0_isLatin1_aae02 pc)
set_option maxRecDepth 4000 in
theorem wJ0_isLatin1_aae02_i23_0 {T : Nat × (Nat → Int32)} {d : Nat} {Q : mz_K} {X : mz_X} {g : mz_S} {u : Nat × Nat} (k : (w32 1 = w32 0 → aJ0_isLatin1_aae02_i23 T d Q X 17 [some (mx_S 28)] [] g u) ∧ (¬ (w32 1 = w32 0) → (¬ w32 0 = w32 0 → aJ0_isLatin1_aae02_i23 T d Q X 17 [some (mx_S 28)] [] g u) ∧ (¬ (¬ w32 0 = w32 0) → aJ0_isLatin1_aae02_i23 T d Q X 18 [some (mx_S 28)] [mx_I 1] g u))) : eJ0_isLatin1_aae02_i23 T d Q X 0 [some (mx_S 28)] [] g u := k
set_option maxRecDepth 4000 in
theorem wJ0_isLatin1_aae02_i23_17 {T : Nat × (Nat → Int32)} {d : Nat} {Q : mz_K} {X : mz_X} {g : mz_S} {u : Nat × Nat} (k : (w32 0 = 0 ∨ w32 0 = 1) ∧ Q 0 g) : eJ0_isLatin1_aae02_i23 T d Q X 17 [some (mx_S 28)] [] g u := k
set_option maxRecDepth 4000 in
theorem wJ0_isLatin1_aae02_i23_18 {T : Nat × (Nat → Int32)} {d : Nat} {Q : mz_K} {X : mz_X} {g : mz_S} {u : Nat × Nat} {s0 : Int} (k : (w32 s0 = 0 ∨ w32 s0 = 1) ∧ Q s0 g) : eJ0_isLatin1_aae02_i23 T d Q X 18 [some (mx_S 28)] [mx_I s0] g u := k
set_option maxRecDepth 8000 in
theorem zJ0_isLatin1_aae02_i23_17 {T : Nat × (Nat → Int32)} {d : Nat} {Q : mz_K} {X : mz_X} {g : mz_S} {u : Nat × Nat} (k : aJ0_isLatin1_aae02_i23 T d Q X 18 [some (mx_S 28)] [mx_I 0] g u) : aJ0_isLatin1_aae02_i23 T d Q X 17 [some (mx_S 28)] [] g u := mz_A_in (wJ0_isLatin1_aae02_i23_17 ((zout (tb := bJ0_isLatin1_aae02) (pc := 18) k :)))
set_option maxRecDepth 8000 in
theorem zJ0_isLatin1_aae02_i23_18 {T : Nat × (Nat → Int32)} {d : Nat} {Q : mz_K} {X : mz_X} {g : mz_S} {u : Nat × Nat} {s0 : Int} (k : (w32 s0 = 0 ∨ w32 s0 = 1) ∧ Q s0 g) : aJ0_isLatin1_aae02_i23 T d Q X 18 [some (mx_S 28)] [mx_I s0] g u := mz_A_in (wJ0_isLatin1_aae02_i23_18 (k))
set_option maxRecDepth 8000 in
theorem zJ0_isLatin1_aae02_i23 {T : Nat × (Nat → Int32)} {d : Nat} {Q : mz_K} {X : mz_X} {g : mz_S} (k : (w32 1 = w32 0 → aJ0_isLatin1_aae02_i23 T d Q X 17 [some (mx_S 28)] [] g ((0, 0) : Nat × Nat)) ∧ (¬ (w32 1 = w32 0) → (¬ w32 0 = w32 0 → aJ0_isLatin1_aae02_i23 T d Q X 17 [some (mx_S 28)] [] g ((0, 0) : Nat × Nat)) ∧ (¬ (¬ w32 0 = w32 0) → aJ0_isLatin1_aae02_i23 T d Q X 18 [some (mx_S 28)] [mx_I 1] g ((0, 0) : Nat × Nat)))) : zC T (d + 1) 335 [mx_S 28] g Q X := mz_enter (t := mJ0_isLatin1_aae02) rfl rfl (mz_A_in (wJ0_isLatin1_aae02_i23_0 (k) :))
abbrev aJ0_coder_7d493_i24 (T : Nat × (Nat → Int32)) (d : Nat) (Q : mz_K) (X : mz_X) : mz_J := mz_A (mx_F1 T.1 T.2, mx_mt mJ0_coder_7d493, (mx_mc mJ0_coder_7d493, mx_ms mJ0_coder_7d493)) mz_sh mz_rk 1 (zC T d) bJ0_coder_7d493 Q X
abbrev eJ0_coder_7d493_i24 (T : Nat × (Nat → Int32)) (d : Nat) (Q : mz_K) (X : mz_X) (pc : Nat) : mx_L → List mx_v → mz_S → Nat × Nat → Prop := mz_B (mx_F1 T.1 T.2, mx_mt mJ0_coder_7d493, (mx_mc mJ0_coder_7d493, mx_ms mJ0_coder_7d493)) mz_sh mz_rk 1 (zC T d) (aJ0_coder_7d493_i24 T d Q X) Q X (mx_sfx bJ0_coder_7d493 pc)
set_option maxRecDepth 4000 in
theorem wJ0_coder_7d493_i24_0 {T : Nat × (Nat → Int32)} {d : Nat} {Q : mz_K} {X : mz_X} {g : mz_S} {u : Nat × Nat} (k : (w32 1 = w32 0 → aJ0_coder_7d493_i24 T d Q X 13 [some (mx_S 29)] [] g u) ∧ (¬ (w32 1 = w32 0) → aJ0_coder_7d493_i24 T d Q X 14 [some (mx_S 29)] [mx_I 0] g u)) : eJ0_coder_7d493_i24 T d Q X 0 [some (mx_S 29)] [] g u := k
set_option maxRecDepth 4000 in
theorem wJ0_coder_7d493_i24_13 {T : Nat × (Nat → Int32)} {d : Nat} {Q : mz_K} {X : mz_X} {g : mz_S} {u : Nat × Nat} (k : -128 ≤ w32 1 ∧ w32 1 ≤ 127 ∧ Q 1 g) : eJ0_coder_7d493_i24 T d Q X 13 [some (mx_S 29)] [] g u := k
set_option maxRecDepth 4000 in
theorem wJ0_coder_7d493_i24_14 {T : Nat × (Nat → Int32)} {d : Nat} {Q : mz_K} {X : mz_X} {g : mz_S} {u : Nat × Nat} {s0 : Int} (k : -128 ≤ w32 s0 ∧ w32 s0 ≤ 127 ∧ Q s0 g) : eJ0_coder_7d493_i24 T d Q X 14 [some (mx_S 29)] [mx_I s0] g u := k
set_option maxRecDepth 8000 in
theorem zJ0_coder_7d493_i24_14 {T : Nat × (Nat → Int32)} {d : Nat} {Q : mz_K} {X : mz_X} {g : mz_S} {u : Nat × Nat} {s0 : Int} (k : -128 ≤ w32 s0 ∧ w32 s0 ≤ 127 ∧ Q s0 g) : aJ0_coder_7d493_i24 T d Q X 14 [some (mx_S 29)] [mx_I s0] g u := mz_A_in (wJ0_coder_7d493_i24_14 (k))
set_option maxRecDepth 8000 in
theorem zJ0_coder_7d493_i24 {T : Nat × (Nat → Int32)} {d : Nat} {Q : mz_K} {X : mz_X} {g : mz_S} (k : (w32 1 = w32 0 → aJ0_coder_7d493_i24 T d Q X 14 [some (mx_S 29)] [mx_I 1] g ((0, 0) : Nat × Nat)) ∧ (¬ (w32 1 = w32 0) → aJ0_coder_7d493_i24 T d Q X 14 [some (mx_S 29)] [mx_I 0] g ((0, 0) : Nat × Nat))) : zC T (d + 1) 334 [mx_S 29] g Q X := mz_enter (t := mJ0_coder_7d493) rfl rfl (mz_A_in (wJ0_coder_7d493_i24_0 (zI (k) (fun k z => mz_A_in (wJ0_coder_7d493_i24_13 ((zout (tb := bJ0_coder_7d493) (pc := 14) (k z) :)))) (fun k => k)) :))
abbrev aJ0_isLatin1_aae02_i24 (T : Nat × (Nat → Int32)) (d : Nat) (Q : mz_K) (X : mz_X) : mz_J := mz_A (mx_F1 T.1 T.2, mx_mt mJ0_isLatin1_aae02, (mx_mc mJ0_isLatin1_aae02, mx_ms mJ0_isLatin1_aae02)) mz_sh mz_rk 1 (zC T d) bJ0_isLatin1_aae02 Q X
abbrev eJ0_isLatin1_aae02_i24 (T : Nat × (Nat → Int32)) (d : Nat) (Q : mz_K) (X : mz_X) (pc : Nat) : mx_L → List mx_v → mz_S → Nat × Nat → Prop := mz_B (mx_F1 T.1 T.2, mx_mt mJ0_isLatin1_aae02, (mx_mc mJ0_isLatin1_aae02, mx_ms mJ0_isLatin1_aae02)) mz_sh mz_rk 1 (zC T d) (aJ0_isLatin1_aae02_i24 T d Q X) Q X (mx_sfx bJ0_isLatin1_aae02 pc)
set_option maxRecDepth 4000 in
theorem wJ0_isLatin1_aae02_i24_0 {T : Nat × (Nat → Int32)} {d : Nat} {Q : mz_K} {X : mz_X} {g : mz_S} {u : Nat × Nat} (k : (w32 1 = w32 0 → aJ0_isLatin1_aae02_i24 T d Q X 17 [some (mx_S 29)] [] g u) ∧ (¬ (w32 1 = w32 0) → (¬ w32 0 = w32 0 → aJ0_isLatin1_aae02_i24 T d Q X 17 [some (mx_S 29)] [] g u) ∧ (¬ (¬ w32 0 = w32 0) → aJ0_isLatin1_aae02_i24 T d Q X 18 [some (mx_S 29)] [mx_I 1] g u))) : eJ0_isLatin1_aae02_i24 T d Q X 0 [some (mx_S 29)] [] g u := k
set_option maxRecDepth 4000 in
theorem wJ0_isLatin1_aae02_i24_17 {T : Nat × (Nat → Int32)} {d : Nat} {Q : mz_K} {X : mz_X} {g : mz_S} {u : Nat × Nat} (k : (w32 0 = 0 ∨ w32 0 = 1) ∧ Q 0 g) : eJ0_isLatin1_aae02_i24 T d Q X 17 [some (mx_S 29)] [] g u := k
set_option maxRecDepth 4000 in
theorem wJ0_isLatin1_aae02_i24_18 {T : Nat × (Nat → Int32)} {d : Nat} {Q : mz_K} {X : mz_X} {g : mz_S} {u : Nat × Nat} {s0 : Int} (k : (w32 s0 = 0 ∨ w32 s0 = 1) ∧ Q s0 g) : eJ0_isLatin1_aae02_i24 T d Q X 18 [some (mx_S 29)] [mx_I s0] g u := k
set_option maxRecDepth 8000 in
theorem zJ0_isLatin1_aae02_i24_17 {T : Nat × (Nat → Int32)} {d : Nat} {Q : mz_K} {X : mz_X} {g : mz_S} {u : Nat × Nat} (k : aJ0_isLatin1_aae02_i24 T d Q X 18 [some (mx_S 29)] [mx_I 0] g u) : aJ0_isLatin1_aae02_i24 T d Q X 17 [some (mx_S 29)] [] g u := mz_A_in (wJ0_isLatin1_aae02_i24_17 ((zout (tb := bJ0_isLatin1_aae02) (pc := 18) k :)))
set_option maxRecDepth 8000 in
theorem zJ0_isLatin1_aae02_i24_18 {T : Nat × (Nat → Int32)} {d : Nat} {Q : mz_K} {X : mz_X} {g : mz_S} {u : Nat × Nat} {s0 : Int} (k : (w32 s0 = 0 ∨ w32 s0 = 1) ∧ Q s0 g) : aJ0_isLatin1_aae02_i24 T d Q X 18 [some (mx_S 29)] [mx_I s0] g u := mz_A_in (wJ0_isLatin1_aae02_i24_18 (k))
set_option maxRecDepth 8000 in
theorem zJ0_isLatin1_aae02_i24 {T : Nat × (Nat → Int32)} {d : Nat} {Q : mz_K} {X : mz_X} {g : mz_S} (k : (w32 1 = w32 0 → aJ0_isLatin1_aae02_i24 T d Q X 17 [some (mx_S 29)] [] g ((0, 0) : Nat × Nat)) ∧ (¬ (w32 1 = w32 0) → (¬ w32 0 = w32 0 → aJ0_isLatin1_aae02_i24 T d Q X 17 [some (mx_S 29)] [] g ((0, 0) : Nat × Nat)) ∧ (¬ (¬ w32 0 = w32 0) → aJ0_isLatin1_aae02_i24 T d Q X 18 [some (mx_S 29)] [mx_I 1] g ((0, 0) : Nat × Nat)))) : zC T (d + 1) 335 [mx_S 29] g Q X := mz_enter (t := mJ0_isLatin1_aae02) rfl rfl (mz_A_in (wJ0_isLatin1_aae02_i24_0 (k) :))
abbrev aJ0_coder_7d493_i25 (T : Nat × (Nat → Int32)) (d : Nat) (Q : mz_K) (X : mz_X) : mz_J := mz_A (mx_F1 T.1 T.2, mx_mt mJ0_coder_7d493, (mx_mc mJ0_coder_7d493, mx_ms mJ0_coder_7d493)) mz_sh mz_rk 1 (zC T d) bJ0_coder_7d493 Q X
abbrev eJ0_coder_7d493_i25 (T : Nat × (Nat → Int32)) (d : Nat) (Q : mz_K) (X : mz_X) (pc : Nat) : mx_L → List mx_v → mz_S → Nat × Nat → Prop := mz_B (mx_F1 T.1 T.2, mx_mt mJ0_coder_7d493, (mx_mc mJ0_coder_7d493, mx_ms mJ0_coder_7d493)) mz_sh mz_rk 1 (zC T d) (aJ0_coder_7d493_i25 T d Q X) Q X (mx_sfx bJ0_coder_7d493 pc)
set_option maxRecDepth 4000 in
theorem wJ0_coder_7d493_i25_0 {T : Nat × (Nat → Int32)} {d : Nat} {Q : mz_K} {X : mz_X} {g : mz_S} {u : Nat × Nat} (k : (w32 1 = w32 0 → aJ0_coder_7d493_i25 T d Q X 13 [some (mx_S 30)] [] g u) ∧ (¬ (w32 1 = w32 0) → aJ0_coder_7d493_i25 T d Q X 14 [some (mx_S 30)] [mx_I 0] g u)) : eJ0_coder_7d493_i25 T d Q X 0 [some (mx_S 30)] [] g u := k
set_option maxRecDepth 4000 in
theorem wJ0_coder_7d493_i25_13 {T : Nat × (Nat → Int32)} {d : Nat} {Q : mz_K} {X : mz_X} {g : mz_S} {u : Nat × Nat} (k : -128 ≤ w32 1 ∧ w32 1 ≤ 127 ∧ Q 1 g) : eJ0_coder_7d493_i25 T d Q X 13 [some (mx_S 30)] [] g u := k
set_option maxRecDepth 4000 in
theorem wJ0_coder_7d493_i25_14 {T : Nat × (Nat → Int32)} {d : Nat} {Q : mz_K} {X : mz_X} {g : mz_S} {u : Nat × Nat} {s0 : Int} (k : -128 ≤ w32 s0 ∧ w32 s0 ≤ 127 ∧ Q s0 g) : eJ0_coder_7d493_i25 T d Q X 14 [some (mx_S 30)] [mx_I s0] g u := k
set_option maxRecDepth 8000 in
theorem zJ0_coder_7d493_i25_14 {T : Nat × (Nat → Int32)} {d : Nat} {Q : mz_K} {X : mz_X} {g : mz_S} {u : Nat × Nat} {s0 : Int} (k : -128 ≤ w32 s0 ∧ w32 s0 ≤ 127 ∧ Q s0 g) : aJ0_coder_7d493_i25 T d Q X 14 [some (mx_S 30)] [mx_I s0] g u := mz_A_in (wJ0_coder_7d493_i25_14 (k))
set_option maxRecDepth 8000 in
theorem zJ0_coder_7d493_i25 {T : Nat × (Nat → Int32)} {d : Nat} {Q : mz_K} {X : mz_X} {g : mz_S} (k : (w32 1 = w32 0 → aJ0_coder_7d493_i25 T d Q X 14 [some (mx_S 30)] [mx_I 1] g ((0, 0) : Nat × Nat)) ∧ (¬ (w32 1 = w32 0) → aJ0_coder_7d493_i25 T d Q X 14 [some (mx_S 30)] [mx_I 0] g ((0, 0) : Nat × Nat))) : zC T (d + 1) 334 [mx_S 30] g Q X := mz_enter (t := mJ0_coder_7d493) rfl rfl (mz_A_in (wJ0_coder_7d493_i25_0 (zI (k) (fun k z => mz_A_in (wJ0_coder_7d493_i25_13 ((zout (tb := bJ0_coder_7d493) (pc := 14) (k z) :)))) (fun k => k)) :))
abbrev aJ0_isLatin1_aae02_i25 (T : Nat × (Nat → Int32)) (d : Nat) (Q : mz_K) (X : mz_X) : mz_J := mz_A (mx_F1 T.1 T.2, mx_mt mJ0_isLatin1_aae02, (mx_mc mJ0_isLatin1_aae02, mx_ms mJ0_isLatin1_aae02)) mz_sh mz_rk 1 (zC T d) bJ0_isLatin1_aae02 Q X
abbrev eJ0_isLatin1_aae02_i25 (T : Nat × (Nat → Int32)) (d : Nat) (Q : mz_K) (X : mz_X) (pc : Nat) : mx_L → List mx_v → mz_S → Nat × Nat → Prop := mz_B (mx_F1 T.1 T.2, mx_mt mJ0_isLatin1_aae02, (mx_mc mJ0_isLatin1_aae02, mx_ms mJ0_isLatin1_aae02)) mz_sh mz_rk 1 (zC T d) (aJ0_isLatin1_aae02_i25 T d Q X) Q X (mx_sfx bJ0_isLatin1_aae02 pc)
set_option maxRecDepth 4000 in
theorem wJ0_isLatin1_aae02_i25_0 {T : Nat × (Nat → Int32)} {d : Nat} {Q : mz_K} {X : mz_X} {g : mz_S} {u : Nat × Nat} (k : (w32 1 = w32 0 → aJ0_isLatin1_aae02_i25 T d Q X 17 [some (mx_S 30)] [] g u) ∧ (¬ (w32 1 = w32 0) → (¬ w32 0 = w32 0 → aJ0_isLatin1_aae02_i25 T d Q X 17 [some (mx_S 30)] [] g u) ∧ (¬ (¬ w32 0 = w32 0) → aJ0_isLatin1_aae02_i25 T d Q X 18 [some (mx_S 30)] [mx_I 1] g u))) : eJ0_isLatin1_aae02_i25 T d Q X 0 [some (mx_S 30)] [] g u := k
set_option maxRecDepth 4000 in
theorem wJ0_isLatin1_aae02_i25_17 {T : Nat × (Nat → Int32)} {d : Nat} {Q : mz_K} {X : mz_X} {g : mz_S} {u : Nat × Nat} (k : (w32 0 = 0 ∨ w32 0 = 1) ∧ Q 0 g) : eJ0_isLatin1_aae02_i25 T d Q X 17 [some (mx_S 30)] [] g u := k
set_option maxRecDepth 4000 in
theorem wJ0_isLatin1_aae02_i25_18 {T : Nat × (Nat → Int32)} {d : Nat} {Q : mz_K} {X : mz_X} {g : mz_S} {u : Nat × Nat} {s0 : Int} (k : (w32 s0 = 0 ∨ w32 s0 = 1) ∧ Q s0 g) : eJ0_isLatin1_aae02_i25 T d Q X 18 [some (mx_S 30)] [mx_I s0] g u := k
set_option maxRecDepth 8000 in
theorem zJ0_isLatin1_aae02_i25_17 {T : Nat × (Nat → Int32)} {d : Nat} {Q : mz_K} {X : mz_X} {g : mz_S} {u : Nat × Nat} (k : aJ0_isLatin1_aae02_i25 T d Q X 18 [some (mx_S 30)] [mx_I 0] g u) : aJ0_isLatin1_aae02_i25 T d Q X 17 [some (mx_S 30)] [] g u := mz_A_in (wJ0_isLatin1_aae02_i25_17 ((zout (tb := bJ0_isLatin1_aae02) (pc := 18) k :)))
set_option maxRecDepth 8000 in
theorem zJ0_isLatin1_aae02_i25_18 {T : Nat × (Nat → Int32)} {d : Nat} {Q : mz_K} {X : mz_X} {g : mz_S} {u : Nat × Nat} {s0 : Int} (k : (w32 s0 = 0 ∨ w32 s0 = 1) ∧ Q s0 g) : aJ0_isLatin1_aae02_i25 T d Q X 18 [some (mx_S 30)] [mx_I s0] g u := mz_A_in (wJ0_isLatin1_aae02_i25_18 (k))
set_option maxRecDepth 8000 in
theorem zJ0_isLatin1_aae02_i25 {T : Nat × (Nat → Int32)} {d : Nat} {Q : mz_K} {X : mz_X} {g : mz_S} (k : (w32 1 = w32 0 → aJ0_isLatin1_aae02_i25 T d Q X 17 [some (mx_S 30)] [] g ((0, 0) : Nat × Nat)) ∧ (¬ (w32 1 = w32 0) → (¬ w32 0 = w32 0 → aJ0_isLatin1_aae02_i25 T d Q X 17 [some (mx_S 30)] [] g ((0, 0) : Nat × Nat)) ∧ (¬ (¬ w32 0 = w32 0) → aJ0_isLatin1_aae02_i25 T d Q X 18 [some (mx_S 30)] [mx_I 1] g ((0, 0) : Nat × Nat)))) : zC T (d + 1) 335 [mx_S 30] g Q X := mz_enter (t := mJ0_isLatin1_aae02) rfl rfl (mz_A_in (wJ0_isLatin1_aae02_i25_0 (k) :))
abbrev aJ0_coder_7d493_i26 (T : Nat × (Nat → Int32)) (d : Nat) (Q : mz_K) (X : mz_X) : mz_J := mz_A (mx_F1 T.1 T.2, mx_mt mJ0_coder_7d493, (mx_mc mJ0_coder_7d493, mx_ms mJ0_coder_7d493)) mz_sh mz_rk 1 (zC T d) bJ0_coder_7d493 Q X
abbrev eJ0_coder_7d493_i26 (T : Nat × (Nat → Int32)) (d : Nat) (Q : mz_K) (X : mz_X) (pc : Nat) : mx_L → List mx_v → mz_S → Nat × Nat → Prop := mz_B (mx_F1 T.1 T.2, mx_mt mJ0_coder_7d493, (mx_mc mJ0_coder_7d493, mx_ms mJ0_coder_7d493)) mz_sh mz_rk 1 (zC T d) (aJ0_coder_7d493_i26 T d Q X) Q X (mx_sfx bJ0_coder_7d493 pc)
set_option maxRecDepth 4000 in
theorem wJ0_coder_7d493_i26_0 {T : Nat × (Nat → Int32)} {d : Nat} {Q : mz_K} {X : mz_X} {g : mz_S} {u : Nat × Nat} (k : (w32 1 = w32 0 → aJ0_coder_7d493_i26 T d Q X 13 [some (mx_S 31)] [] g u) ∧ (¬ (w32 1 = w32 0) → aJ0_coder_7d493_i26 T d Q X 14 [some (mx_S 31)] [mx_I 0] g u)) : eJ0_coder_7d493_i26 T d Q X 0 [some (mx_S 31)] [] g u := k
set_option maxRecDepth 4000 in
theorem wJ0_coder_7d493_i26_13 {T : Nat × (Nat → Int32)} {d : Nat} {Q : mz_K} {X : mz_X} {g : mz_S} {u : Nat × Nat} (k : -128 ≤ w32 1 ∧ w32 1 ≤ 127 ∧ Q 1 g) : eJ0_coder_7d493_i26 T d Q X 13 [some (mx_S 31)] [] g u := k
set_option maxRecDepth 4000 in
theorem wJ0_coder_7d493_i26_14 {T : Nat × (Nat → Int32)} {d : Nat} {Q : mz_K} {X : mz_X} {g : mz_S} {u : Nat × Nat} {s0 : Int} (k : -128 ≤ w32 s0 ∧ w32 s0 ≤ 127 ∧ Q s0 g) : eJ0_coder_7d493_i26 T d Q X 14 [some (mx_S 31)] [mx_I s0] g u := k
set_option maxRecDepth 8000 in
theorem zJ0_coder_7d493_i26_14 {T : Nat × (Nat → Int32)} {d : Nat} {Q : mz_K} {X : mz_X} {g : mz_S} {u : Nat × Nat} {s0 : Int} (k : -128 ≤ w32 s0 ∧ w32 s0 ≤ 127 ∧ Q s0 g) : aJ0_coder_7d493_i26 T d Q X 14 [some (mx_S 31)] [mx_I s0] g u := mz_A_in (wJ0_coder_7d493_i26_14 (k))
set_option maxRecDepth 8000 in
theorem zJ0_coder_7d493_i26 {T : Nat × (Nat → Int32)} {d : Nat} {Q : mz_K} {X : mz_X} {g : mz_S} (k : (w32 1 = w32 0 → aJ0_coder_7d493_i26 T d Q X 14 [some (mx_S 31)] [mx_I 1] g ((0, 0) : Nat × Nat)) ∧ (¬ (w32 1 = w32 0) → aJ0_coder_7d493_i26 T d Q X 14 [some (mx_S 31)] [mx_I 0] g ((0, 0) : Nat × Nat))) : zC T (d + 1) 334 [mx_S 31] g Q X := mz_enter (t := mJ0_coder_7d493) rfl rfl (mz_A_in (wJ0_coder_7d493_i26_0 (zI (k) (fun k z => mz_A_in (wJ0_coder_7d493_i26_13 ((zout (tb := bJ0_coder_7d493) (pc := 14) (k z) :)))) (fun k => k)) :))
abbrev aJ0_isLatin1_aae02_i26 (T : Nat × (Nat → Int32)) (d : Nat) (Q : mz_K) (X : mz_X) : mz_J := mz_A (mx_F1 T.1 T.2, mx_mt mJ0_isLatin1_aae02, (mx_mc mJ0_isLatin1_aae02, mx_ms mJ0_isLatin1_aae02)) mz_sh mz_rk 1 (zC T d) bJ0_isLatin1_aae02 Q X
abbrev eJ0_isLatin1_aae02_i26 (T : Nat × (Nat → Int32)) (d : Nat) (Q : mz_K) (X : mz_X) (pc : Nat) : mx_L → List mx_v → mz_S → Nat × Nat → Prop := mz_B (mx_F1 T.1 T.2, mx_mt mJ0_isLatin1_aae02, (mx_mc mJ0_isLatin1_aae02, mx_ms mJ0_isLatin1_aae02)) mz_sh mz_rk 1 (zC T d) (aJ0_isLatin1_aae02_i26 T d Q X) Q X (mx_sfx bJ0_isLatin1_aae02 pc)
set_option maxRecDepth 4000 in
theorem wJ0_isLatin1_aae02_i26_0 {T : Nat × (Nat → Int32)} {d : Nat} {Q : mz_K} {X : mz_X} {g : mz_S} {u : Nat × Nat} (k : (w32 1 = w32 0 → aJ0_isLatin1_aae02_i26 T d Q X 17 [some (mx_S 31)] [] g u) ∧ (¬ (w32 1 = w32 0) → (¬ w32 0 = w32 0 → aJ0_isLatin1_aae02_i26 T d Q X 17 [some (mx_S 31)] [] g u) ∧ (¬ (¬ w32 0 = w32 0) → aJ0_isLatin1_aae02_i26 T d Q X 18 [some (mx_S 31)] [mx_I 1] g u))) : eJ0_isLatin1_aae02_i26 T d Q X 0 [some (mx_S 31)] [] g u := k
set_option maxRecDepth 4000 in
theorem wJ0_isLatin1_aae02_i26_17 {T : Nat × (Nat → Int32)} {d : Nat} {Q : mz_K} {X : mz_X} {g : mz_S} {u : Nat × Nat} (k : (w32 0 = 0 ∨ w32 0 = 1) ∧ Q 0 g) : eJ0_isLatin1_aae02_i26 T d Q X 17 [some (mx_S 31)] [] g u := k
set_option maxRecDepth 4000 in
theorem wJ0_isLatin1_aae02_i26_18 {T : Nat × (Nat → Int32)} {d : Nat} {Q : mz_K} {X : mz_X} {g : mz_S} {u : Nat × Nat} {s0 : Int} (k : (w32 s0 = 0 ∨ w32 s0 = 1) ∧ Q s0 g) : eJ0_isLatin1_aae02_i26 T d Q X 18 [some (mx_S 31)] [mx_I s0] g u := k
set_option maxRecDepth 8000 in
theorem zJ0_isLatin1_aae02_i26_17 {T : Nat × (Nat → Int32)} {d : Nat} {Q : mz_K} {X : mz_X} {g : mz_S} {u : Nat × Nat} (k : aJ0_isLatin1_aae02_i26 T d Q X 18 [some (mx_S 31)] [mx_I 0] g u) : aJ0_isLatin1_aae02_i26 T d Q X 17 [some (mx_S 31)] [] g u := mz_A_in (wJ0_isLatin1_aae02_i26_17 ((zout (tb := bJ0_isLatin1_aae02) (pc := 18) k :)))
set_option maxRecDepth 8000 in
theorem zJ0_isLatin1_aae02_i26_18 {T : Nat × (Nat → Int32)} {d : Nat} {Q : mz_K} {X : mz_X} {g : mz_S} {u : Nat × Nat} {s0 : Int} (k : (w32 s0 = 0 ∨ w32 s0 = 1) ∧ Q s0 g) : aJ0_isLatin1_aae02_i26 T d Q X 18 [some (mx_S 31)] [mx_I s0] g u := mz_A_in (wJ0_isLatin1_aae02_i26_18 (k))
set_option maxRecDepth 8000 in
theorem zJ0_isLatin1_aae02_i26 {T : Nat × (Nat → Int32)} {d : Nat} {Q : mz_K} {X : mz_X} {g : mz_S} (k : (w32 1 = w32 0 → aJ0_isLatin1_aae02_i26 T d Q X 17 [some (mx_S 31)] [] g ((0, 0) : Nat × Nat)) ∧ (¬ (w32 1 = w32 0) → (¬ w32 0 = w32 0 → aJ0_isLatin1_aae02_i26 T d Q X 17 [some (mx_S 31)] [] g ((0, 0) : Nat × Nat)) ∧ (¬ (¬ w32 0 = w32 0) → aJ0_isLatin1_aae02_i26 T d Q X 18 [some (mx_S 31)] [mx_I 1] g ((0, 0) : Nat × Nat)))) : zC T (d + 1) 335 [mx_S 31] g Q X := mz_enter (t := mJ0_isLatin1_aae02) rfl rfl (mz_A_in (wJ0_isLatin1_aae02_i26_0 (k) :))
abbrev aJ0_coder_7d493_i27 (T : Nat × (Nat → Int32)) (d : Nat) (Q : mz_K) (X : mz_X) : mz_J := mz_A (mx_F1 T.1 T.2, mx_mt mJ0_coder_7d493, (mx_mc mJ0_coder_7d493, mx_ms mJ0_coder_7d493)) mz_sh mz_rk 1 (zC T d) bJ0_coder_7d493 Q X
abbrev eJ0_coder_7d493_i27 (T : Nat × (Nat → Int32)) (d : Nat) (Q : mz_K) (X : mz_X) (pc : Nat) : mx_L → List mx_v → mz_S → Nat × Nat → Prop := mz_B (mx_F1 T.1 T.2, mx_mt mJ0_coder_7d493, (mx_mc mJ0_coder_7d493, mx_ms mJ0_coder_7d493)) mz_sh mz_rk 1 (zC T d) (aJ0_coder_7d493_i27 T d Q X) Q X (mx_sfx bJ0_coder_7d493 pc)
set_option maxRecDepth 4000 in
theorem wJ0_coder_7d493_i27_0 {T : Nat × (Nat → Int32)} {d : Nat} {Q : mz_K} {X : mz_X} {g : mz_S} {u : Nat × Nat} (k : (w32 1 = w32 0 → aJ0_coder_7d493_i27 T d Q X 13 [some (mx_S 32)] [] g u) ∧ (¬ (w32 1 = w32 0) → aJ0_coder_7d493_i27 T d Q X 14 [some (mx_S 32)] [mx_I 0] g u)) : eJ0_coder_7d493_i27 T d Q X 0 [some (mx_S 32)] [] g u := k
set_option maxRecDepth 4000 in
theorem wJ0_coder_7d493_i27_13 {T : Nat × (Nat → Int32)} {d : Nat} {Q : mz_K} {X : mz_X} {g : mz_S} {u : Nat × Nat} (k : -128 ≤ w32 1 ∧ w32 1 ≤ 127 ∧ Q 1 g) : eJ0_coder_7d493_i27 T d Q X 13 [some (mx_S 32)] [] g u := k
set_option maxRecDepth 4000 in
theorem wJ0_coder_7d493_i27_14 {T : Nat × (Nat → Int32)} {d : Nat} {Q : mz_K} {X : mz_X} {g : mz_S} {u : Nat × Nat} {s0 : Int} (k : -128 ≤ w32 s0 ∧ w32 s0 ≤ 127 ∧ Q s0 g) : eJ0_coder_7d493_i27 T d Q X 14 [some (mx_S 32)] [mx_I s0] g u := k
set_option maxRecDepth 8000 in
theorem zJ0_coder_7d493_i27_14 {T : Nat × (Nat → Int32)} {d : Nat} {Q : mz_K} {X : mz_X} {g : mz_S} {u : Nat × Nat} {s0 : Int} (k : -128 ≤ w32 s0 ∧ w32 s0 ≤ 127 ∧ Q s0 g) : aJ0_coder_7d493_i27 T d Q X 14 [some (mx_S 32)] [mx_I s0] g u := mz_A_in (wJ0_coder_7d493_i27_14 (k))
set_option maxRecDepth 8000 in
theorem zJ0_coder_7d493_i27 {T : Nat × (Nat → Int32)} {d : Nat} {Q : mz_K} {X : mz_X} {g : mz_S} (k : (w32 1 = w32 0 → aJ0_coder_7d493_i27 T d Q X 14 [some (mx_S 32)] [mx_I 1] g ((0, 0) : Nat × Nat)) ∧ (¬ (w32 1 = w32 0) → aJ0_coder_7d493_i27 T d Q X 14 [some (mx_S 32)] [mx_I 0] g ((0, 0) : Nat × Nat))) : zC T (d + 1) 334 [mx_S 32] g Q X := mz_enter (t := mJ0_coder_7d493) rfl rfl (mz_A_in (wJ0_coder_7d493_i27_0 (zI (k) (fun k z => mz_A_in (wJ0_coder_7d493_i27_13 ((zout (tb := bJ0_coder_7d493) (pc := 14) (k z) :)))) (fun k => k)) :))
abbrev aJ0_isLatin1_aae02_i27 (T : Nat × (Nat → Int32)) (d : Nat) (Q : mz_K) (X : mz_X) : mz_J := mz_A (mx_F1 T.1 T.2, mx_mt mJ0_isLatin1_aae02, (mx_mc mJ0_isLatin1_aae02, mx_ms mJ0_isLatin1_aae02)) mz_sh mz_rk 1 (zC T d) bJ0_isLatin1_aae02 Q X
abbrev eJ0_isLatin1_aae02_i27 (T : Nat × (Nat → Int32)) (d : Nat) (Q : mz_K) (X : mz_X) (pc : Nat) : mx_L → List mx_v → mz_S → Nat × Nat → Prop := mz_B (mx_F1 T.1 T.2, mx_mt mJ0_isLatin1_aae02, (mx_mc mJ0_isLatin1_aae02, mx_ms mJ0_isLatin1_aae02)) mz_sh mz_rk 1 (zC T d) (aJ0_isLatin1_aae02_i27 T d Q X) Q X (mx_sfx bJ0_isLatin1_aae02 pc)
set_option maxRecDepth 4000 in
theorem wJ0_isLatin1_aae02_i27_0 {T : Nat × (Nat → Int32)} {d : Nat} {Q : mz_K} {X : mz_X} {g : mz_S} {u : Nat × Nat} (k : (w32 1 = w32 0 → aJ0_isLatin1_aae02_i27 T d Q X 17 [some (mx_S 32)] [] g u) ∧ (¬ (w32 1 = w32 0) → (¬ w32 0 = w32 0 → aJ0_isLatin1_aae02_i27 T d Q X 17 [some (mx_S 32)] [] g u) ∧ (¬ (¬ w32 0 = w32 0) → aJ0_isLatin1_aae02_i27 T d Q X 18 [some (mx_S 32)] [mx_I 1] g u))) : eJ0_isLatin1_aae02_i27 T d Q X 0 [some (mx_S 32)] [] g u := k
set_option maxRecDepth 4000 in
theorem wJ0_isLatin1_aae02_i27_17 {T : Nat × (Nat → Int32)} {d : Nat} {Q : mz_K} {X : mz_X} {g : mz_S} {u : Nat × Nat} (k : (w32 0 = 0 ∨ w32 0 = 1) ∧ Q 0 g) : eJ0_isLatin1_aae02_i27 T d Q X 17 [some (mx_S 32)] [] g u := k
set_option maxRecDepth 4000 in
theorem wJ0_isLatin1_aae02_i27_18 {T : Nat × (Nat → Int32)} {d : Nat} {Q : mz_K} {X : mz_X} {g : mz_S} {u : Nat × Nat} {s0 : Int} (k : (w32 s0 = 0 ∨ w32 s0 = 1) ∧ Q s0 g) : eJ0_isLatin1_aae02_i27 T d Q X 18 [some (mx_S 32)] [mx_I s0] g u := k
set_option maxRecDepth 8000 in
theorem zJ0_isLatin1_aae02_i27_17 {T : Nat × (Nat → Int32)} {d : Nat} {Q : mz_K} {X : mz_X} {g : mz_S} {u : Nat × Nat} (k : aJ0_isLatin1_aae02_i27 T d Q X 18 [some (mx_S 32)] [mx_I 0] g u) : aJ0_isLatin1_aae02_i27 T d Q X 17 [some (mx_S 32)] [] g u := mz_A_in (wJ0_isLatin1_aae02_i27_17 ((zout (tb := bJ0_isLatin1_aae02) (pc := 18) k :)))
set_option maxRecDepth 8000 in
theorem zJ0_isLatin1_aae02_i27_18 {T : Nat × (Nat → Int32)} {d : Nat} {Q : mz_K} {X : mz_X} {g : mz_S} {u : Nat × Nat} {s0 : Int} (k : (w32 s0 = 0 ∨ w32 s0 = 1) ∧ Q s0 g) : aJ0_isLatin1_aae02_i27 T d Q X 18 [some (mx_S 32)] [mx_I s0] g u := mz_A_in (wJ0_isLatin1_aae02_i27_18 (k))
set_option maxRecDepth 8000 in
theorem zJ0_isLatin1_aae02_i27 {T : Nat × (Nat → Int32)} {d : Nat} {Q : mz_K} {X : mz_X} {g : mz_S} (k : (w32 1 = w32 0 → aJ0_isLatin1_aae02_i27 T d Q X 17 [some (mx_S 32)] [] g ((0, 0) : Nat × Nat)) ∧ (¬ (w32 1 = w32 0) → (¬ w32 0 = w32 0 → aJ0_isLatin1_aae02_i27 T d Q X 17 [some (mx_S 32)] [] g ((0, 0) : Nat × Nat)) ∧ (¬ (¬ w32 0 = w32 0) → aJ0_isLatin1_aae02_i27 T d Q X 18 [some (mx_S 32)] [mx_I 1] g ((0, 0) : Nat × Nat)))) : zC T (d + 1) 335 [mx_S 32] g Q X := mz_enter (t := mJ0_isLatin1_aae02) rfl rfl (mz_A_in (wJ0_isLatin1_aae02_i27_0 (k) :))
