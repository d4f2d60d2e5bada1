/-! the law's cases, 0 -/
theorem S_go {T : Nat × (Nat → Int32)} {d : Nat} {Q : mz_K} {X : mz_X} {g : mz_S} {u : Nat × Nat} {W x4 : Int} {o5 o6 o7 : Option mx_v} (hI : InvA W g) (hW : 0 ≤ W ∧ W ≤ 1000000000) (hu : u.1 ≤ 500000 ∧ u.2 ≤ 7000000) (hi : 0 ≤ x4 ∧ x4 + 7 ≤ (T.1 : Int)) (hT : T.1 ≤ 3584) (k : LwT T d Q X W u x4) : aLaw T (d + 220) Q X 236 [some (mx_S 0), some (mx_R 0), some (mx_R 99), some (mx_R 179), some (mx_I x4), o5, o6, o7] [] g u := by
  have m : ∀ j : Int, 0 ≤ j ∧ j ≤ 6 → mx_in (x4 + j) T.1 := fun j hj => zin (by omega) (by omega) (by omega)
  refine zLaw_236 ?_
  exact ⟨m 1 (by omega), by omega, by omega, zM (W_go hI hW (r32 _)) (fun r1 g1 z => ⟨m 1 (by omega), zM z (fun r2 g2 h => fin_I h.1 (zLaw_289 (k g2 _ _ _ _ h.2 (by dsimp only; omega) (by dsimp only; omega))))⟩)⟩
theorem S_town {T : Nat × (Nat → Int32)} {d : Nat} {Q : mz_K} {X : mz_X} {g : mz_S} {u : Nat × Nat} {W x4 : Int} {o5 o6 o7 : Option mx_v} (hI : InvA W g) (hW : 0 ≤ W ∧ W ≤ 1000000000) (hu : u.1 ≤ 500000 ∧ u.2 ≤ 7000000) (hi : 0 ≤ x4 ∧ x4 + 7 ≤ (T.1 : Int)) (hT : T.1 ≤ 3584) (k : LwT T d Q X W u x4) : aLaw T (d + 220) Q X 292 [some (mx_S 0), some (mx_R 0), some (mx_R 99), some (mx_R 179), some (mx_I x4), o5, o6, o7] [] g u := by
  have m : ∀ j : Int, 0 ≤ j ∧ j ≤ 6 → mx_in (x4 + j) T.1 := fun j hj => zin (by omega) (by omega) (by omega)
  refine zLaw_292 ?_
  exact zM (W_town hI hW ) (fun r1 g1 z => zM z (fun r2 g2 h => fin_E h.1 (k g2 _ _ _ _ h.2 (by omega) (by omega))))
theorem S_road {T : Nat × (Nat → Int32)} {d : Nat} {Q : mz_K} {X : mz_X} {g : mz_S} {u : Nat × Nat} {W x4 : Int} {o5 o6 o7 : Option mx_v} (hI : InvA W g) (hW : 0 ≤ W ∧ W ≤ 1000000000) (hu : u.1 ≤ 500000 ∧ u.2 ≤ 7000000) (hi : 0 ≤ x4 ∧ x4 + 7 ≤ (T.1 : Int)) (hT : T.1 ≤ 3584) (k : LwT T d Q X W u x4) : aLaw T (d + 220) Q X 305 [some (mx_S 0), some (mx_R 0), some (mx_R 99), some (mx_R 179), some (mx_I x4), o5, o6, o7] [] g u := by
  have m : ∀ j : Int, 0 ≤ j ∧ j ≤ 6 → mx_in (x4 + j) T.1 := fun j hj => zin (by omega) (by omega) (by omega)
  refine zLaw_305 ?_
  exact ⟨m 1 (by omega), m 2 (by omega), m 3 (by omega), by omega, by omega, zM (W_road hI hW (r32 _) (r32 _) (r32 _)) (fun r1 g1 z => ⟨m 1 (by omega), m 2 (by omega), m 3 (by omega), zM z (fun r2 g2 h => fin_I h.1 (zLaw_382 (k g2 _ _ _ _ h.2 (by dsimp only; omega) (by dsimp only; omega))))⟩)⟩
theorem S_lag {T : Nat × (Nat → Int32)} {d : Nat} {Q : mz_K} {X : mz_X} {g : mz_S} {u : Nat × Nat} {W x4 : Int} {o5 o6 o7 : Option mx_v} (hI : InvA W g) (hW : 0 ≤ W ∧ W ≤ 1000000000) (hu : u.1 ≤ 500000 ∧ u.2 ≤ 7000000) (hi : 0 ≤ x4 ∧ x4 + 7 ≤ (T.1 : Int)) (hT : T.1 ≤ 3584) (k : LwT T d Q X W u x4) : aLaw T (d + 220) Q X 385 [some (mx_S 0), some (mx_R 0), some (mx_R 99), some (mx_R 179), some (mx_I x4), o5, o6, o7] [] g u := by
  have m : ∀ j : Int, 0 ≤ j ∧ j ≤ 6 → mx_in (x4 + j) T.1 := fun j hj => zin (by omega) (by omega) (by omega)
  refine zLaw_385 ?_
  exact ⟨m 1 (by omega), m 2 (by omega), by omega, by omega, zM (W_lag hI hW (r32 _) (r32 _)) (fun r1 g1 z => ⟨m 1 (by omega), m 2 (by omega), zM z (fun r2 g2 h => fin_I h.1 (zLaw_450 (k g2 _ _ _ _ h.2 (by dsimp only; omega) (by dsimp only; omega))))⟩)⟩
theorem S_rate {T : Nat × (Nat → Int32)} {d : Nat} {Q : mz_K} {X : mz_X} {g : mz_S} {u : Nat × Nat} {W x4 : Int} {o5 o6 o7 : Option mx_v} (hI : InvA W g) (hW : 0 ≤ W ∧ W ≤ 1000000000) (hu : u.1 ≤ 500000 ∧ u.2 ≤ 7000000) (hi : 0 ≤ x4 ∧ x4 + 7 ≤ (T.1 : Int)) (hT : T.1 ≤ 3584) (k : LwT T d Q X W u x4) : aLaw T (d + 220) Q X 453 [some (mx_S 0), some (mx_R 0), some (mx_R 99), some (mx_R 179), some (mx_I x4), o5, o6, o7] [] g u := by
  have m : ∀ j : Int, 0 ≤ j ∧ j ≤ 6 → mx_in (x4 + j) T.1 := fun j hj => zin (by omega) (by omega) (by omega)
  refine zLaw_453 ?_
  exact ⟨m 1 (by omega), m 2 (by omega), m 3 (by omega), by omega, by omega, zM (W_rate hI hW (r32 _) (r32 _) (r32 _)) (fun r1 g1 z => ⟨m 1 (by omega), m 2 (by omega), m 3 (by omega), zM z (fun r2 g2 h => fin_I h.1 (zLaw_530 (k g2 _ _ _ _ h.2 (by dsimp only; omega) (by dsimp only; omega))))⟩)⟩
theorem S_rateAt {T : Nat × (Nat → Int32)} {d : Nat} {Q : mz_K} {X : mz_X} {g : mz_S} {u : Nat × Nat} {W x4 : Int} {o5 o6 o7 : Option mx_v} (hI : InvA W g) (hW : 0 ≤ W ∧ W ≤ 1000000000) (hu : u.1 ≤ 500000 ∧ u.2 ≤ 7000000) (hi : 0 ≤ x4 ∧ x4 + 7 ≤ (T.1 : Int)) (hT : T.1 ≤ 3584) (k : LwT T d Q X W u x4) : aLaw T (d + 220) Q X 533 [some (mx_S 0), some (mx_R 0), some (mx_R 99), some (mx_R 179), some (mx_I x4), o5, o6, o7] [] g u := by
  have m : ∀ j : Int, 0 ≤ j ∧ j ≤ 6 → mx_in (x4 + j) T.1 := fun j hj => zin (by omega) (by omega) (by omega)
  refine zLaw_533 ?_
  exact ⟨m 1 (by omega), m 2 (by omega), m 3 (by omega), by omega, by omega, zM (W_rateAt hI hW (r32 _) (r32 _) (r32 _)) (fun r1 g1 z => ⟨m 1 (by omega), m 2 (by omega), m 3 (by omega), zM z (fun r2 g2 h => fin_I h.1 (zLaw_610 (k g2 _ _ _ _ h.2 (by dsimp only; omega) (by dsimp only; omega))))⟩)⟩
theorem S_broker {T : Nat × (Nat → Int32)} {d : Nat} {Q : mz_K} {X : mz_X} {g : mz_S} {u : Nat × Nat} {W x4 : Int} {o5 o6 o7 : Option mx_v} (hI : InvA W g) (hW : 0 ≤ W ∧ W ≤ 1000000000) (hu : u.1 ≤ 500000 ∧ u.2 ≤ 7000000) (hi : 0 ≤ x4 ∧ x4 + 7 ≤ (T.1 : Int)) (hT : T.1 ≤ 3584) (k : LwT T d Q X W u x4) : aLaw T (d + 220) Q X 613 [some (mx_S 0), some (mx_R 0), some (mx_R 99), some (mx_R 179), some (mx_I x4), o5, o6, o7] [] g u := by
  have m : ∀ j : Int, 0 ≤ j ∧ j ≤ 6 → mx_in (x4 + j) T.1 := fun j hj => zin (by omega) (by omega) (by omega)
  refine zLaw_613 ?_
  exact ⟨m 1 (by omega), m 2 (by omega), by omega, by omega, zM (W_broker hI hW (r32 _) (r32 _)) (fun r1 g1 z => ⟨m 1 (by omega), m 2 (by omega), zM z (fun r2 g2 h => fin_I h.1 (zLaw_678 (k g2 _ _ _ _ h.2 (by dsimp only; omega) (by dsimp only; omega))))⟩)⟩
theorem S_put {T : Nat × (Nat → Int32)} {d : Nat} {Q : mz_K} {X : mz_X} {g : mz_S} {u : Nat × Nat} {W x4 : Int} {o5 o6 o7 : Option mx_v} (hI : InvA W g) (hW : 0 ≤ W ∧ W ≤ 1000000000) (hu : u.1 ≤ 500000 ∧ u.2 ≤ 7000000) (hi : 0 ≤ x4 ∧ x4 + 7 ≤ (T.1 : Int)) (hT : T.1 ≤ 3584) (k : LwT T d Q X W u x4) : aLaw T (d + 220) Q X 681 [some (mx_S 0), some (mx_R 0), some (mx_R 99), some (mx_R 179), some (mx_I x4), o5, o6, o7] [] g u := by
  have m : ∀ j : Int, 0 ≤ j ∧ j ≤ 6 → mx_in (x4 + j) T.1 := fun j hj => zin (by omega) (by omega) (by omega)
  refine zLaw_681 ?_
  exact ⟨m 1 (by omega), m 2 (by omega), m 3 (by omega), by omega, by omega, zM (W_put hI hW (r32 _) (r32 _) (r32 _)) (fun r1 g1 z => ⟨m 1 (by omega), m 2 (by omega), m 3 (by omega), zM z (fun r2 g2 h => fin_I h.1 (zLaw_758 (k g2 _ _ _ _ h.2 (by dsimp only; omega) (by dsimp only; omega))))⟩)⟩
theorem S_drawer {T : Nat × (Nat → Int32)} {d : Nat} {Q : mz_K} {X : mz_X} {g : mz_S} {u : Nat × Nat} {W x4 : Int} {o5 o6 o7 : Option mx_v} (hI : InvA W g) (hW : 0 ≤ W ∧ W ≤ 1000000000) (hu : u.1 ≤ 500000 ∧ u.2 ≤ 7000000) (hi : 0 ≤ x4 ∧ x4 + 7 ≤ (T.1 : Int)) (hT : T.1 ≤ 3584) (k : LwT T d Q X W u x4) : aLaw T (d + 220) Q X 761 [some (mx_S 0), some (mx_R 0), some (mx_R 99), some (mx_R 179), some (mx_I x4), o5, o6, o7] [] g u := by
  have m : ∀ j : Int, 0 ≤ j ∧ j ≤ 6 → mx_in (x4 + j) T.1 := fun j hj => zin (by omega) (by omega) (by omega)
  refine zLaw_761 ?_
  exact ⟨m 1 (by omega), m 2 (by omega), by omega, by omega, zM (W_drawer hI hW (r32 _) (r32 _)) (fun r1 g1 z => ⟨m 1 (by omega), m 2 (by omega), zM z (fun r2 g2 h => fin_I h.1 (zLaw_826 (k g2 _ _ _ _ h.2 (by dsimp only; omega) (by dsimp only; omega))))⟩)⟩
theorem S_feed {T : Nat × (Nat → Int32)} {d : Nat} {Q : mz_K} {X : mz_X} {g : mz_S} {u : Nat × Nat} {W x4 : Int} {o5 o6 o7 : Option mx_v} (hI : InvA W g) (hW : 0 ≤ W ∧ W ≤ 1000000000) (hu : u.1 ≤ 500000 ∧ u.2 ≤ 7000000) (hi : 0 ≤ x4 ∧ x4 + 7 ≤ (T.1 : Int)) (hT : T.1 ≤ 3584) (k : LwT T d Q X W u x4) : aLaw T (d + 220) Q X 829 [some (mx_S 0), some (mx_R 0), some (mx_R 99), some (mx_R 179), some (mx_I x4), o5, o6, o7] [] g u := by
  have m : ∀ j : Int, 0 ≤ j ∧ j ≤ 6 → mx_in (x4 + j) T.1 := fun j hj => zin (by omega) (by omega) (by omega)
  refine zLaw_829 ?_
  exact ⟨m 1 (by omega), m 2 (by omega), m 3 (by omega), m 4 (by omega), m 5 (by omega), zM (W_feed hI hW ) (fun r1 g1 z => ⟨m 1 (by omega), m 2 (by omega), m 3 (by omega), m 4 (by omega), m 5 (by omega), zM z (fun r2 g2 h => fin_E h.1 (k g2 _ _ _ _ h.2 (by omega) (by omega)))⟩)⟩
theorem S_text {T : Nat × (Nat → Int32)} {d : Nat} {Q : mz_K} {X : mz_X} {g : mz_S} {u : Nat × Nat} {W x4 : Int} {o5 o6 o7 : Option mx_v} (hI : InvA W g) (hW : 0 ≤ W ∧ W ≤ 1000000000) (hu : u.1 ≤ 500000 ∧ u.2 ≤ 7000000) (hi : 0 ≤ x4 ∧ x4 + 7 ≤ (T.1 : Int)) (hT : T.1 ≤ 3584) (k : LwT T d Q X W u x4) : aLaw T (d + 220) Q X 902 [some (mx_S 0), some (mx_R 0), some (mx_R 99), some (mx_R 179), some (mx_I x4), o5, o6, o7] [] g u := by
  have m : ∀ j : Int, 0 ≤ j ∧ j ≤ 6 → mx_in (x4 + j) T.1 := fun j hj => zin (by omega) (by omega) (by omega)
  refine zLaw_902 ?_
  exact ⟨m 1 (by omega), m 2 (by omega), m 3 (by omega), by omega, by omega, zM (W_text hI hW (r32 _) (r32 _) (r32 _)) (fun r1 g1 z => ⟨m 1 (by omega), m 2 (by omega), m 3 (by omega), zM z (fun r2 g2 h => fin_I h.1 (zLaw_979 (k g2 _ _ _ _ h.2 (by dsimp only; omega) (by dsimp only; omega))))⟩)⟩
theorem S_fault {T : Nat × (Nat → Int32)} {d : Nat} {Q : mz_K} {X : mz_X} {g : mz_S} {u : Nat × Nat} {W x4 : Int} {o5 o6 o7 : Option mx_v} (hI : InvA W g) (hW : 0 ≤ W ∧ W ≤ 1000000000) (hu : u.1 ≤ 500000 ∧ u.2 ≤ 7000000) (hi : 0 ≤ x4 ∧ x4 + 7 ≤ (T.1 : Int)) (hT : T.1 ≤ 3584) (k : LwT T d Q X W u x4) : aLaw T (d + 220) Q X 982 [some (mx_S 0), some (mx_R 0), some (mx_R 99), some (mx_R 179), some (mx_I x4), o5, o6, o7] [] g u := by
  have m : ∀ j : Int, 0 ≤ j ∧ j ≤ 6 → mx_in (x4 + j) T.1 := fun j hj => zin (by omega) (by omega) (by omega)
  refine zLaw_982 ?_
  exact ⟨m 1 (by omega), zM (W_fault hI hW (r32 _)) (fun r1 g1 z => ⟨m 1 (by omega), zM z (fun r2 g2 h => fin_E h.1 (k g2 _ _ _ _ h.2 (by omega) (by omega)))⟩)⟩
