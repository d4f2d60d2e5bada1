/-! the law's cases, 2 -/
theorem S_goods {T : Nat × (Nat → Int32)} {d : Nat} {Q : mz_K} {X : mz_X} {g : mz_S} {u : Nat × Nat} {W x4 : Int} {o5 o6 o7 : Option mx_v} (hI : InvA W g) (hW : 0 ≤ W ∧ W ≤ 1000000000) (hu : u.1 ≤ 500000 ∧ u.2 ≤ 7000000) (hi : 0 ≤ x4 ∧ x4 + 7 ≤ (T.1 : Int)) (hT : T.1 ≤ 3584) (k : LwT T d Q X W u x4) : aLaw T (d + 220) Q X 2012 [some (mx_S 0), some (mx_R 0), some (mx_R 99), some (mx_R 179), some (mx_I x4), o5, o6, o7] [] g u := by
  have m : ∀ j : Int, 0 ≤ j ∧ j ≤ 6 → mx_in (x4 + j) T.1 := fun j hj => zin (by omega) (by omega) (by omega)
  refine zLaw_2012 ?_
  exact ⟨m 1 (by omega), m 2 (by omega), m 3 (by omega), m 4 (by omega), m 5 (by omega), m 6 (by omega), by omega, by omega, zM (W_goods hI hW (r32 _) (r32 _) (r32 _) (r32 _) (r32 _) (r32 _)) (fun r1 g1 z => ⟨m 1 (by omega), m 2 (by omega), m 3 (by omega), m 4 (by omega), m 5 (by omega), m 6 (by omega), zM z (fun r2 g2 h => fin_I h.1 (zLaw_2127 (k g2 _ _ _ _ h.2 (by dsimp only; omega) (by dsimp only; omega))))⟩)⟩
theorem S_hidden {T : Nat × (Nat → Int32)} {d : Nat} {Q : mz_K} {X : mz_X} {g : mz_S} {u : Nat × Nat} {W x4 : Int} {o5 o6 o7 : Option mx_v} (hI : InvA W g) (hW : 0 ≤ W ∧ W ≤ 1000000000) (hu : u.1 ≤ 500000 ∧ u.2 ≤ 7000000) (hi : 0 ≤ x4 ∧ x4 + 7 ≤ (T.1 : Int)) (hT : T.1 ≤ 3584) (k : LwT T d Q X W u x4) : aLaw T (d + 220) Q X 2130 [some (mx_S 0), some (mx_R 0), some (mx_R 99), some (mx_R 179), some (mx_I x4), o5, o6, o7] [] g u := by
  have m : ∀ j : Int, 0 ≤ j ∧ j ≤ 6 → mx_in (x4 + j) T.1 := fun j hj => zin (by omega) (by omega) (by omega)
  refine zLaw_2130 ?_
  exact ⟨m 1 (by omega), m 2 (by omega), by omega, by omega, zM (W_hidden hI hW (r32 _) (r32 _)) (fun r1 g1 z => ⟨m 1 (by omega), m 2 (by omega), zM z (fun r2 g2 h => fin_L h.1 (zLaw_2194 (k g2 _ _ _ _ h.2 (by dsimp only; omega) (by dsimp only; omega))))⟩)⟩
theorem S_ring {T : Nat × (Nat → Int32)} {d : Nat} {Q : mz_K} {X : mz_X} {g : mz_S} {u : Nat × Nat} {W x4 : Int} {o5 o6 o7 : Option mx_v} (hI : InvA W g) (hW : 0 ≤ W ∧ W ≤ 1000000000) (hu : u.1 ≤ 500000 ∧ u.2 ≤ 7000000) (hi : 0 ≤ x4 ∧ x4 + 7 ≤ (T.1 : Int)) (hT : T.1 ≤ 3584) (k : LwT T d Q X W u x4) : aLaw T (d + 220) Q X 2197 [some (mx_S 0), some (mx_R 0), some (mx_R 99), some (mx_R 179), some (mx_I x4), o5, o6, o7] [] g u := by
  have m : ∀ j : Int, 0 ≤ j ∧ j ≤ 6 → mx_in (x4 + j) T.1 := fun j hj => zin (by omega) (by omega) (by omega)
  refine zLaw_2197 ?_
  exact ⟨m 1 (by omega), m 2 (by omega), m 3 (by omega), by omega, by omega, zM (W_ring hI hW (r32 _) (r32 _) (r32 _)) (fun r1 g1 z => ⟨m 1 (by omega), m 2 (by omega), m 3 (by omega), zM z (fun r2 g2 h => fin_I h.1 (zLaw_2274 (k g2 _ _ _ _ h.2 (by dsimp only; omega) (by dsimp only; omega))))⟩)⟩
theorem S_cross {T : Nat × (Nat → Int32)} {d : Nat} {Q : mz_K} {X : mz_X} {g : mz_S} {u : Nat × Nat} {W x4 : Int} {o5 o6 o7 : Option mx_v} (hI : InvA W g) (hW : 0 ≤ W ∧ W ≤ 1000000000) (hu : u.1 ≤ 500000 ∧ u.2 ≤ 7000000) (hi : 0 ≤ x4 ∧ x4 + 7 ≤ (T.1 : Int)) (hT : T.1 ≤ 3584) (k : LwT T d Q X W u x4) : aLaw T (d + 220) Q X 2277 [some (mx_S 0), some (mx_R 0), some (mx_R 99), some (mx_R 179), some (mx_I x4), o5, o6, o7] [] g u := by
  have m : ∀ j : Int, 0 ≤ j ∧ j ≤ 6 → mx_in (x4 + j) T.1 := fun j hj => zin (by omega) (by omega) (by omega)
  refine zLaw_2277 ?_
  exact ⟨m 1 (by omega), m 2 (by omega), by omega, by omega, zM (W_cross hI hW (r32 _) (r32 _)) (fun r1 g1 z => ⟨m 1 (by omega), m 2 (by omega), zM z (fun r2 g2 h => fin_I h.1 (zLaw_2342 (k g2 _ _ _ _ h.2 (by dsimp only; omega) (by dsimp only; omega))))⟩)⟩
theorem S_fewest {T : Nat × (Nat → Int32)} {d : Nat} {Q : mz_K} {X : mz_X} {g : mz_S} {u : Nat × Nat} {W x4 : Int} {o5 o6 o7 : Option mx_v} (hI : InvA W g) (hW : 0 ≤ W ∧ W ≤ 1000000000) (hu : u.1 ≤ 500000 ∧ u.2 ≤ 7000000) (hi : 0 ≤ x4 ∧ x4 + 7 ≤ (T.1 : Int)) (hT : T.1 ≤ 3584) (k : LwT T d Q X W u x4) : aLaw T (d + 220) Q X 2345 [some (mx_S 0), some (mx_R 0), some (mx_R 99), some (mx_R 179), some (mx_I x4), o5, o6, o7] [] g u := by
  have m : ∀ j : Int, 0 ≤ j ∧ j ≤ 6 → mx_in (x4 + j) T.1 := fun j hj => zin (by omega) (by omega) (by omega)
  refine zLaw_2345 ?_
  exact ⟨m 1 (by omega), m 2 (by omega), by omega, by omega, zM (W_fewest hI hW (r32 _) (r32 _)) (fun r1 g1 z => ⟨m 1 (by omega), m 2 (by omega), zM z (fun r2 g2 h => fin_I h.1 (zLaw_2410 (k g2 _ _ _ _ h.2 (by dsimp only; omega) (by dsimp only; omega))))⟩)⟩
theorem S_step {T : Nat × (Nat → Int32)} {d : Nat} {Q : mz_K} {X : mz_X} {g : mz_S} {u : Nat × Nat} {W x4 : Int} {o5 o6 o7 : Option mx_v} (hI : InvA W g) (hW : 0 ≤ W ∧ W ≤ 1000000000) (hu : u.1 ≤ 500000 ∧ u.2 ≤ 7000000) (hi : 0 ≤ x4 ∧ x4 + 7 ≤ (T.1 : Int)) (hT : T.1 ≤ 3584) (k : LwT T d Q X W u x4) : aLaw T (d + 220) Q X 2413 [some (mx_S 0), some (mx_R 0), some (mx_R 99), some (mx_R 179), some (mx_I x4), o5, o6, o7] [] g u := by
  have m : ∀ j : Int, 0 ≤ j ∧ j ≤ 6 → mx_in (x4 + j) T.1 := fun j hj => zin (by omega) (by omega) (by omega)
  refine zLaw_2413 ?_
  exact ⟨m 1 (by omega), m 2 (by omega), m 3 (by omega), m 4 (by omega), by omega, by omega, zM (W_step hI hW (r32 _) (r32 _) (r32 _) (r32 _)) (fun r1 g1 z => ⟨m 1 (by omega), m 2 (by omega), m 3 (by omega), m 4 (by omega), zM z (fun r2 g2 h => fin_I h.1 (zLaw_2502 (k g2 _ _ _ _ h.2 (by dsimp only; omega) (by dsimp only; omega))))⟩)⟩
theorem S_entry {T : Nat × (Nat → Int32)} {d : Nat} {Q : mz_K} {X : mz_X} {g : mz_S} {u : Nat × Nat} {W x4 : Int} {o5 o6 o7 : Option mx_v} (hI : InvA W g) (hW : 0 ≤ W ∧ W ≤ 1000000000) (hu : u.1 ≤ 500000 ∧ u.2 ≤ 7000000) (hi : 0 ≤ x4 ∧ x4 + 7 ≤ (T.1 : Int)) (hT : T.1 ≤ 3584) (k : LwT T d Q X W u x4) : aLaw T (d + 220) Q X 2505 [some (mx_S 0), some (mx_R 0), some (mx_R 99), some (mx_R 179), some (mx_I x4), o5, o6, o7] [] g u := by
  have m : ∀ j : Int, 0 ≤ j ∧ j ≤ 6 → mx_in (x4 + j) T.1 := fun j hj => zin (by omega) (by omega) (by omega)
  refine zLaw_2505 ?_
  exact ⟨m 1 (by omega), m 2 (by omega), by omega, by omega, zM (W_entry hI hW (r32 _) (r32 _)) (fun r1 g1 z => ⟨m 1 (by omega), m 2 (by omega), zM z (fun r2 g2 h => fin_I h.1 (zLaw_2570 (k g2 _ _ _ _ h.2 (by dsimp only; omega) (by dsimp only; omega))))⟩)⟩
theorem S_expect {T : Nat × (Nat → Int32)} {d : Nat} {Q : mz_K} {X : mz_X} {g : mz_S} {u : Nat × Nat} {W x4 : Int} {o5 o6 o7 : Option mx_v} (hI : InvA W g) (hW : 0 ≤ W ∧ W ≤ 1000000000) (hu : u.1 ≤ 500000 ∧ u.2 ≤ 7000000) (hi : 0 ≤ x4 ∧ x4 + 7 ≤ (T.1 : Int)) (hT : T.1 ≤ 3584) (k : LwT T d Q X W u x4) : aLaw T (d + 220) Q X 2573 [some (mx_S 0), some (mx_R 0), some (mx_R 99), some (mx_R 179), some (mx_I x4), o5, o6, o7] [] g u := by
  have m : ∀ j : Int, 0 ≤ j ∧ j ≤ 6 → mx_in (x4 + j) T.1 := fun j hj => zin (by omega) (by omega) (by omega)
  refine zLaw_2573 ?_
  exact ⟨m 1 (by omega), m 2 (by omega), m 3 (by omega), m 4 (by omega), m 5 (by omega), by omega, by omega, zM (W_expect hI hW (r32 _) (r32 _) (r32 _) (r32 _) (r32 _)) (fun r1 g1 z => ⟨m 1 (by omega), m 2 (by omega), m 3 (by omega), m 4 (by omega), m 5 (by omega), zM z (fun r2 g2 h => fin_I h.1 (zLaw_2674 (k g2 _ _ _ _ h.2 (by dsimp only; omega) (by dsimp only; omega))))⟩)⟩
theorem S_dry2 {T : Nat × (Nat → Int32)} {d : Nat} {Q : mz_K} {X : mz_X} {g : mz_S} {u : Nat × Nat} {W x4 s : Int} {o5 o6 o7 : Option mx_v} (hI : InvA W g) (hW : 0 ≤ W ∧ W ≤ 1000000000) (hu : u.1 ≤ 500000 ∧ u.2 ≤ 7000000) (hi : 0 ≤ x4 ∧ x4 + 7 ≤ (T.1 : Int)) (hT : T.1 ≤ 3584) (k : LwT T d Q X W u x4) (hs : (w32 (T.2 (mx_at (x4 + 3))).toInt = w32 0 ∧ s = 0) ∨ (¬ w32 (T.2 (mx_at (x4 + 3))).toInt = w32 0 ∧ s = 1)) : aLaw T (d + 220) Q X 2704 [some (mx_S 0), some (mx_R 0), some (mx_R 99), some (mx_R 179), some (mx_I x4), o5, o6, o7] [mx_I s, mx_I (T.2 (mx_at (x4 + 2))).toInt, mx_I (T.2 (mx_at (x4 + 1))).toInt, mx_R 0] g u := by
  have m : ∀ j : Int, 0 ≤ j ∧ j ≤ 6 → mx_in (x4 + j) T.1 := fun j hj => zin (by omega) (by omega) (by omega)
  refine zLaw_2704 ⟨by omega, by omega, zM (W_dry hI hW (r32 _) (r32 _)) (fun r1 g1 z => ⟨m 1 (by omega), m 2 (by omega), m 3 (by omega), fun hz => ?_, fun hz => ?_⟩)⟩
  · rcases hs with ⟨_, e⟩ | ⟨e, _⟩
    · rw [e] at z
      exact zLaw_2737 (zM z (fun r2 g2 h => fin_I h.1 (zLaw_2770 (k g2 _ _ _ _ h.2 (by dsimp only; omega) (by dsimp only; omega)))))
    · exact absurd hz e
  · rcases hs with ⟨e, _⟩ | ⟨_, e⟩
    · exact absurd e hz
    · rw [e] at z
      exact zLaw_2737 (zM z (fun r2 g2 h => fin_I h.1 (zLaw_2770 (k g2 _ _ _ _ h.2 (by dsimp only; omega) (by dsimp only; omega)))))
theorem S_dry {T : Nat × (Nat → Int32)} {d : Nat} {Q : mz_K} {X : mz_X} {g : mz_S} {u : Nat × Nat} {W x4 : Int} {o5 o6 o7 : Option mx_v} (hI : InvA W g) (hW : 0 ≤ W ∧ W ≤ 1000000000) (hu : u.1 ≤ 500000 ∧ u.2 ≤ 7000000) (hi : 0 ≤ x4 ∧ x4 + 7 ≤ (T.1 : Int)) (hT : T.1 ≤ 3584) (k : LwT T d Q X W u x4) : aLaw T (d + 220) Q X 2677 [some (mx_S 0), some (mx_R 0), some (mx_R 99), some (mx_R 179), some (mx_I x4), o5, o6, o7] [] g u := by
  have m : ∀ j : Int, 0 ≤ j ∧ j ≤ 6 → mx_in (x4 + j) T.1 := fun j hj => zin (by omega) (by omega) (by omega)
  refine zLaw_2677 ?_
  exact ⟨m 1 (by omega), m 2 (by omega), m 3 (by omega), fun hz => S_dry2 hI hW hu hi hT k (Or.inl ⟨hz, rfl⟩), fun hz => S_dry2 hI hW hu hi hT k (Or.inr ⟨hz, rfl⟩)⟩
theorem S_plan {T : Nat × (Nat → Int32)} {d : Nat} {Q : mz_K} {X : mz_X} {g : mz_S} {u : Nat × Nat} {W x4 : Int} {o5 o6 o7 : Option mx_v} (hI : InvA W g) (hW : 0 ≤ W ∧ W ≤ 1000000000) (hu : u.1 ≤ 500000 ∧ u.2 ≤ 7000000) (hi : 0 ≤ x4 ∧ x4 + 7 ≤ (T.1 : Int)) (hT : T.1 ≤ 3584) (k : LwT T d Q X W u x4) : aLaw T (d + 220) Q X 2773 [some (mx_S 0), some (mx_R 0), some (mx_R 99), some (mx_R 179), some (mx_I x4), o5, o6, o7] [] g u := by
  have m : ∀ j : Int, 0 ≤ j ∧ j ≤ 6 → mx_in (x4 + j) T.1 := fun j hj => zin (by omega) (by omega) (by omega)
  refine zLaw_2773 ?_
  exact ⟨m 1 (by omega), m 2 (by omega), m 3 (by omega), m 4 (by omega), m 5 (by omega), m 6 (by omega), by omega, by omega, zM (W_plan hI hW (r32 _) (r32 _) (r32 _) (r32 _)) (fun r1 g1 z => ⟨m 1 (by omega), m 2 (by omega), m 3 (by omega), m 4 (by omega), m 5 (by omega), m 6 (by omega), zM z (fun r2 g2 h => fin_I h.1 (zLaw_2908 (k g2 _ _ _ _ h.2 (by dsimp only; omega) (by dsimp only; omega))))⟩)⟩
theorem S_falls {T : Nat × (Nat → Int32)} {d : Nat} {Q : mz_K} {X : mz_X} {g : mz_S} {u : Nat × Nat} {W x4 : Int} {o5 o6 o7 : Option mx_v} (hI : InvA W g) (hW : 0 ≤ W ∧ W ≤ 1000000000) (hu : u.1 ≤ 500000 ∧ u.2 ≤ 7000000) (hi : 0 ≤ x4 ∧ x4 + 7 ≤ (T.1 : Int)) (hT : T.1 ≤ 3584) (k : LwT T d Q X W u x4) : aLaw T (d + 220) Q X 2911 [some (mx_S 0), some (mx_R 0), some (mx_R 99), some (mx_R 179), some (mx_I x4), o5, o6, o7] [] g u := by
  have m : ∀ j : Int, 0 ≤ j ∧ j ≤ 6 → mx_in (x4 + j) T.1 := fun j hj => zin (by omega) (by omega) (by omega)
  refine zLaw_2911 ?_
  exact ⟨m 1 (by omega), by omega, by omega, zM (W_falls hI hW (r32 _)) (fun r1 g1 z => ⟨m 1 (by omega), zM z (fun r2 g2 h => fin_L h.1 (zLaw_2963 (k g2 _ _ _ _ h.2 (by dsimp only; omega) (by dsimp only; omega))))⟩)⟩
