/-! the law up to its loop -/
def mx_lawQ : mx_O → mx_H → Prop := mz_up mz_sh 1 (fun n _ => w32 n = 1) (fun _ _ => False)
/-- THE LAW, as the small machine has it -/
def mx_law : Prop := ∀ (L : Nat) (xs : Nat → Int32), L ≤ 3584 → mx_A (mx_F1 L xs, [], (601024, 7293034)) (mx_CA mx_mT mx_mB (mx_F1 L xs) 1300) bL_law mx_lawQ 0 (mx_loc [mx_S 0] 8) [] ([], fun _ _ => 0) (0, 0)
theorem mu_n0 : (fun (a _ : Nat) => if a = 0 then (0 : Int) else 0) = mu_g [] := by
  funext a b
  show (if a = 0 then (0 : Int) else 0) = 0
  split <;> rfl
theorem mu_n1 : mu_new mu_w1 (mz_sh.take 99).length = true := by decide +kernel
theorem mu_n2 : mu_new mu_w2 (mz_sh.take 179).length = true := by decide +kernel
theorem mu_sh : mz_sh.take 179 ++ [.inr (1, 1)] = mz_sh := by decide +kernel
theorem mu_a1 : mx_at 1 = 1 := by decide
set_option maxRecDepth 8000 in
theorem law_pre0 {L : Nat} {xs : Nat → Int32} {Q : mx_O → mx_H → Prop} {J : Nat → mx_L → List mx_v → mx_H → Nat × Nat → Prop} {C : mx_C} {S1 S2 : List mx_d} {g1 g2 : Nat → Nat → Int} {tl : List mx_E} (h1 : ∀ R : mx_O → mx_H → Prop, R (.inl none) (S1, g1) → C 147 [mx_R 0] ([.inl (11, List.replicate 11 none)], fun (a _ : Nat) => if a = 0 then (0 : Int) else 0) R) (h2 : ∀ R : mx_O → mx_H → Prop, R (.inl none) (S2, g2) → C 207 [mx_R S1.length] (S1 ++ [.inl (12, List.replicate 106 none)], fun (a b : Nat) => if a = S1.length then (0 : Int) else g1 a b) R) (k : mx_B (mx_F1 L xs, [], (601024, 7293034)) C J Q tl [some (mx_S 0), some (mx_R 0), some (mx_R S1.length), some (mx_R S2.length), some (mx_I 0), none, none, none] [] (S2 ++ [.inr (1, mx_at 1)], fun (a b : Nat) => if a = S2.length then (0 : Int) else g2 a b) (180, 28477 + mx_at 1)) : mx_B (mx_F1 L xs, [], (601024, 7293034)) C J Q ((mx_sfx bL_law 0).take 13 ++ tl) (mx_loc [mx_S 0] 8) [] ([], fun _ _ => 0) (0, 0) := by
  refine And.intro (show 0 + 1 ≤ 601024 by decide) (And.intro (show 0 + 11 ≤ 7293034 by decide) ?_)
  refine And.intro (show 0 + 1 + 98 ≤ 601024 by decide) (And.intro (show 0 + 11 + 15230 ≤ 7293034 by decide) ?_)
  refine h1 _ ?_
  refine And.intro (show 0 + 1 + 98 + 1 ≤ 601024 by decide) (And.intro (show 0 + 11 + 15230 + 106 ≤ 7293034 by decide) ?_)
  refine And.intro (show 0 + 1 + 98 + 1 + 79 ≤ 601024 by decide) (And.intro (show 0 + 11 + 15230 + 106 + 13130 ≤ 7293034 by decide) ?_)
  refine h2 _ ?_
  refine And.intro (by decide) (And.intro (by decide) (And.intro (show 0 + 1 + 98 + 1 + 79 + 1 ≤ 601024 by decide) (And.intro (show 0 + 11 + 15230 + 106 + 13130 + mx_at 1 ≤ 7293034 by decide) ?_)))
  exact k
set_option maxRecDepth 8000 in
theorem law_rows : mx_sfx bL_law 0 = (mx_sfx bL_law 0).take 13 ++ mx_sfx bL_law 23 := rfl
theorem mu_l1 : (mz_sh.take 99).length = 99 := by decide +kernel
theorem mu_l2 : (mz_sh.take 179).length = 179 := by decide +kernel
theorem law_pre {L : Nat} {xs : Nat → Int32} {Q : mx_O → mx_H → Prop} {J : Nat → mx_L → List mx_v → mx_H → Nat × Nat → Prop} (k : mx_B (mx_F1 L xs, [], (601024, 7293034)) (mx_CA mx_mT mx_mB (mx_F1 L xs) 1300) J Q (mx_sfx bL_law 23) [some (mx_S 0), some (mx_R 0), some (mx_R 99), some (mx_R 179), some (mx_I 0), none, none, none] [] (mz_sh, mu_g mu_w2) (180, 28478)) : mx_B (mx_F1 L xs, [], (601024, 7293034)) (mx_CA mx_mT mx_mB (mx_F1 L xs) 1300) J Q (mx_sfx bL_law 0) (mx_loc [mx_S 0] 8) [] ([], fun _ _ => 0) (0, 0) := by
  rw [law_rows]
  refine law_pre0 (S1 := mz_sh.take 99) (S2 := mz_sh.take 179) (g1 := mu_g mu_w1) (g2 := mu_g mu_w2) (fun R hR => ?_) (fun R hR => ?_) ?_
  · rw [mu_n0]
    exact mu_call mu_run1 hR
  · rw [mu_g_new mu_n1, mu_l1]
    exact mu_call mu_run2 hR
  · rw [mu_g_new mu_n2, mu_a1, mu_sh, mu_l1, mu_l2]
    exact k
