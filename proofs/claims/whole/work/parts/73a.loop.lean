/-! the law's loop -/
theorem Inv.wk {W W' : Int} {g : mz_S} (h : Inv W g) (hw : W ≤ W') : Inv W' g := ⟨h.1, h.2.1, h.2.2.1, h.2.2.2.1, h.2.2.2.2.1, h.2.2.2.2.2.1, h.2.2.2.2.2.2.1, IC.wk h.2.2.2.2.2.2.2.1 hw, h.2.2.2.2.2.2.2.2⟩
theorem InvA.wk {W W' : Int} {g : mz_S} (h : InvA W g) (hw : W ≤ W') : InvA W' g := by
  rcases h with h | h
  · exact Or.inl (h.wk hw)
  · exact Or.inr ⟨h.1, h.2.1, h.2.2.1, h.2.2.2.1, h.2.2.2.2.1, h.2.2.2.2.2.1, h.2.2.2.2.2.2.1, IC.wk h.2.2.2.2.2.2.2.1 hw, h.2.2.2.2.2.2.2.2⟩
theorem S_all {T : Nat × (Nat → Int32)} {d : Nat} {Q : mz_K} {X : mz_X} {g : mz_S} {u : Nat × Nat} {W x4 : Int} {o5 o6 o7 : Option mx_v} (hI : InvA W g) (hW : 0 ≤ W ∧ W ≤ 1000000000) (hu : u.1 ≤ 500000 ∧ u.2 ≤ 7000000) (hi : 0 ≤ x4 ∧ x4 + 7 ≤ (T.1 : Int)) (hT : T.1 ≤ 3584) (k : LwT T d Q X W u x4) : ∀ j : Nat, j ≤ 44 → aLaw T (d + 220) Q X ([236, 292, 305, 385, 453, 533, 613, 681, 761, 829, 902, 982, 1007, 1087, 1225, 1329, 1397, 1453, 1521, 1589, 1669, 1773, 1840, 1932, 2012, 2130, 2197, 2277, 2345, 2413, 2505, 2573, 2677, 2773, 2911, 2966, 3022, 3090, 3145, 3225, 3285, 3396, 3463, 3547, 3615].getD j 0) [some (mx_S 0), some (mx_R 0), some (mx_R 99), some (mx_R 179), some (mx_I x4), o5, o6, o7] [] g u
  | 0, _ => S_go hI hW hu hi hT k
  | 1, _ => S_town hI hW hu hi hT k
  | 2, _ => S_road hI hW hu hi hT k
  | 3, _ => S_lag hI hW hu hi hT k
  | 4, _ => S_rate hI hW hu hi hT k
  | 5, _ => S_rateAt hI hW hu hi hT k
  | 6, _ => S_broker hI hW hu hi hT k
  | 7, _ => S_put hI hW hu hi hT k
  | 8, _ => S_drawer hI hW hu hi hT k
  | 9, _ => S_feed hI hW hu hi hT k
  | 10, _ => S_text hI hW hu hi hT k
  | 11, _ => S_fault hI hW hu hi hT k
  | 12, _ => S_lines hI hW hu hi hT k
  | 13, _ => S_said hI hW hu hi hT k
  | 14, _ => S_tell hI hW hu hi hT k
  | 15, _ => S_pay hI hW hu hi hT k
  | 16, _ => S_back hI hW hu hi hT k
  | 17, _ => S_twin hI hW hu hi hT k
  | 18, _ => S_word hI hW hu hi hT k
  | 19, _ => S_owes hI hW hu hi hT k
  | 20, _ => S_heard hI hW hu hi hT k
  | 21, _ => S_claim hI hW hu hi hT k
  | 22, _ => S_settle hI hW hu hi hT k
  | 23, _ => S_market hI hW hu hi hT k
  | 24, _ => S_goods hI hW hu hi hT k
  | 25, _ => S_hidden hI hW hu hi hT k
  | 26, _ => S_ring hI hW hu hi hT k
  | 27, _ => S_cross hI hW hu hi hT k
  | 28, _ => S_fewest hI hW hu hi hT k
  | 29, _ => S_step hI hW hu hi hT k
  | 30, _ => S_entry hI hW hu hi hT k
  | 31, _ => S_expect hI hW hu hi hT k
  | 32, _ => S_dry hI hW hu hi hT k
  | 33, _ => S_plan hI hW hu hi hT k
  | 34, _ => S_falls hI hW hu hi hT k
  | 35, _ => S_fell hI hW hu hi hT k
  | 36, _ => S_ruin hI hW hu hi hT k
  | 37, _ => S_wealth hI hW hu hi hT k
  | 38, _ => S_run hI hW hu hi hT k
  | 39, _ => S_tray hI hW hu hi hT k
  | 40, _ => S_write hI hW hu hi hT k
  | 41, _ => S_read hI hW hu hi hT k
  | 42, _ => S_pour hI hW hu hi hT k
  | 43, _ => S_book hI hW hu hi hT k
  | 44, _ => S_count hI hW hu hi hT k
  | j + 45, h => absurd h (by omega)
theorem law_loop {T : Nat × (Nat → Int32)} {d : Nat} {Q : mz_K} {X : mz_X} (hT : T.1 ≤ 3584) (hQ : ∀ g, Q 1 g) : ∀ (n j : Nat) (g : mz_S) (u : Nat × Nat) (W : Int) (o5 o6 o7 : Option mx_v), j + n = 512 → InvA W g → (0 ≤ W ∧ W ≤ 1728 * (j : Int)) → u.1 ≤ 1000 + 3 * j → u.2 ≤ 100000 + 18 * j → aLaw T (d + 220) Q X 23 [some (mx_S 0), some (mx_R 0), some (mx_R 99), some (mx_R 179), some (mx_I (7 * (j : Int))), o5, o6, o7] [] g u := by
  intro n
  induction n with
  | zero =>
    intro j g u W o5 o6 o7 hj hI hW h1 h2
    refine zLaw_23 ?_
    first | with_reducible refine c_lt ?_ ?_ (fun z => ?_) (fun z => ?_) | with_reducible refine c_le ?_ ?_ (fun z => ?_) (fun z => ?_) | with_reducible refine c_eq ?_ ?_ (fun z => ?_) (fun z => ?_) | with_reducible refine c_ne ?_ ?_ (fun z => ?_) (fun z => ?_)
    · omega
    · omega
    · exact ⟨zb1, hQ g⟩
    · omega
  | succ n ih =>
    intro j g u W o5 o6 o7 hj hI hW h1 h2
    refine zLaw_23 ?_
    first | with_reducible refine c_lt ?_ ?_ (fun z => ?_) (fun z => ?_) | with_reducible refine c_le ?_ ?_ (fun z => ?_) (fun z => ?_) | with_reducible refine c_eq ?_ ?_ (fun z => ?_) (fun z => ?_) | with_reducible refine c_ne ?_ ?_ (fun z => ?_) (fun z => ?_)
    · omega
    · omega
    · exact ⟨zb1, hQ g⟩
    · have nx : LwT T d Q X W u (7 * (j : Int)) := by
        intro g' u' o5 o6 o7 hI' e1 e2
        refine zLaw_3640 ?_
        rw [show 7 * (j : Int) + 7 = 7 * ((j + 1 : Nat) : Int) by omega]
        exact ih (j + 1) g' u' (W + 1728) o5 o6 o7 (by omega) hI' (by omega) (by omega) (by omega)
      refine ⟨zin (by omega) (by omega) (by omega), fun _ => ?_, fun hz => ?_⟩
      · exact nx g u _ _ _ (hI.wk (by omega)) (by omega) (by omega)
      · rw [Int.sub_zero]
        exact S_all hI (by omega) (by omega) (by omega) hT nx _ (by omega)
