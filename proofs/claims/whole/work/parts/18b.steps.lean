/-! steps through formulas -/
abbrev R32 (x : Int) : Prop := -2147483648 ≤ x ∧ x ≤ 2147483647
abbrev R64 (x : Int) : Prop := -9223372036854775808 ≤ x ∧ x ≤ 9223372036854775807
theorem c_lt {x y : Int} {A B : Prop} (hx : R32 x) (hy : R32 y) (a : x < y → A) (b : ¬ x < y → B) : (w32 x < w32 y → A) ∧ (¬ (w32 x < w32 y) → B) := by rw [w32_of hx.1 hx.2, w32_of hy.1 hy.2]; exact ⟨a, b⟩
theorem c_le {x y : Int} {A B : Prop} (hx : R32 x) (hy : R32 y) (a : x ≤ y → A) (b : ¬ x ≤ y → B) : (w32 x ≤ w32 y → A) ∧ (¬ (w32 x ≤ w32 y) → B) := by rw [w32_of hx.1 hx.2, w32_of hy.1 hy.2]; exact ⟨a, b⟩
theorem c_eq {x y : Int} {A B : Prop} (hx : R32 x) (hy : R32 y) (a : x = y → A) (b : ¬ x = y → B) : (w32 x = w32 y → A) ∧ (¬ (w32 x = w32 y) → B) := by rw [w32_of hx.1 hx.2, w32_of hy.1 hy.2]; exact ⟨a, b⟩
theorem c_ne {x y : Int} {A B : Prop} (hx : R32 x) (hy : R32 y) (a : ¬ x = y → A) (b : x = y → B) : (¬ w32 x = w32 y → A) ∧ (¬ (¬ w32 x = w32 y) → B) := by rw [w32_of hx.1 hx.2, w32_of hy.1 hy.2]; exact ⟨a, fun h => b (Decidable.not_not.mp h)⟩
theorem lc_3 (x y : Int) : (w64 y < w64 x ∧ mx_lcmp x y = 1) ∨ (w64 x = w64 y ∧ mx_lcmp x y = 0) ∨ (w64 x < w64 y ∧ mx_lcmp x y = -1) := by
  unfold mx_lcmp
  split
  · exact Or.inl ⟨by assumption, rfl⟩
  · split
    · exact Or.inr (Or.inl ⟨by assumption, rfl⟩)
    · exact Or.inr (Or.inr ⟨by omega, rfl⟩)
theorem lc_gt {x y : Int} : w32 0 < w32 (mx_lcmp x y) ↔ w64 y < w64 x := by
  rcases lc_3 x y with ⟨h, e⟩ | ⟨h, e⟩ | ⟨h, e⟩ <;> rw [e] <;> constructor <;> intro z <;> first | exact absurd z (by decide) | omega | decide
theorem lc_lt {x y : Int} : w32 (mx_lcmp x y) < w32 0 ↔ w64 x < w64 y := by
  rcases lc_3 x y with ⟨h, e⟩ | ⟨h, e⟩ | ⟨h, e⟩ <;> rw [e] <;> constructor <;> intro z <;> first | exact absurd z (by decide) | omega | decide
theorem lc_ge {x y : Int} : w32 0 ≤ w32 (mx_lcmp x y) ↔ w64 y ≤ w64 x := by
  rcases lc_3 x y with ⟨h, e⟩ | ⟨h, e⟩ | ⟨h, e⟩ <;> rw [e] <;> constructor <;> intro z <;> first | exact absurd z (by decide) | omega | decide
theorem lc_le {x y : Int} : w32 (mx_lcmp x y) ≤ w32 0 ↔ w64 x ≤ w64 y := by
  rcases lc_3 x y with ⟨h, e⟩ | ⟨h, e⟩ | ⟨h, e⟩ <;> rw [e] <;> constructor <;> intro z <;> first | exact absurd z (by decide) | omega | decide
theorem lc_eq {x y : Int} : w32 (mx_lcmp x y) = w32 0 ↔ w64 x = w64 y := by
  rcases lc_3 x y with ⟨h, e⟩ | ⟨h, e⟩ | ⟨h, e⟩ <;> rw [e] <;> constructor <;> intro z <;> first | exact absurd z (by decide) | omega | decide
theorem l_gt {x y : Int} {A B : Prop} (hx : R64 x) (hy : R64 y) (a : y < x → A) (b : ¬ y < x → B) : (w32 0 < w32 (mx_lcmp x y) → A) ∧ (¬ (w32 0 < w32 (mx_lcmp x y)) → B) := by rw [lc_gt, w64_of hx.1 hx.2, w64_of hy.1 hy.2]; exact ⟨a, b⟩
theorem l_lt {x y : Int} {A B : Prop} (hx : R64 x) (hy : R64 y) (a : x < y → A) (b : ¬ x < y → B) : (w32 (mx_lcmp x y) < w32 0 → A) ∧ (¬ (w32 (mx_lcmp x y) < w32 0) → B) := by rw [lc_lt, w64_of hx.1 hx.2, w64_of hy.1 hy.2]; exact ⟨a, b⟩
theorem l_ge {x y : Int} {A B : Prop} (hx : R64 x) (hy : R64 y) (a : y ≤ x → A) (b : ¬ y ≤ x → B) : (w32 0 ≤ w32 (mx_lcmp x y) → A) ∧ (¬ (w32 0 ≤ w32 (mx_lcmp x y)) → B) := by rw [lc_ge, w64_of hx.1 hx.2, w64_of hy.1 hy.2]; exact ⟨a, b⟩
theorem l_le {x y : Int} {A B : Prop} (hx : R64 x) (hy : R64 y) (a : x ≤ y → A) (b : ¬ x ≤ y → B) : (w32 (mx_lcmp x y) ≤ w32 0 → A) ∧ (¬ (w32 (mx_lcmp x y) ≤ w32 0) → B) := by rw [lc_le, w64_of hx.1 hx.2, w64_of hy.1 hy.2]; exact ⟨a, b⟩
theorem l_eq {x y : Int} {A B : Prop} (hx : R64 x) (hy : R64 y) (a : x = y → A) (b : ¬ x = y → B) : (w32 (mx_lcmp x y) = w32 0 → A) ∧ (¬ (w32 (mx_lcmp x y) = w32 0) → B) := by rw [lc_eq, w64_of hx.1 hx.2, w64_of hy.1 hy.2]; exact ⟨a, b⟩
theorem l_ne {x y : Int} {A B : Prop} (hx : R64 x) (hy : R64 y) (a : ¬ x = y → A) (b : x = y → B) : (¬ w32 (mx_lcmp x y) = w32 0 → A) ∧ (¬ (¬ w32 (mx_lcmp x y) = w32 0) → B) := by rw [lc_eq, w64_of hx.1 hx.2, w64_of hy.1 hy.2]; exact ⟨a, fun h => b (Decidable.not_not.mp h)⟩
/-- a truth that a call gave -/
theorem b_eq {p : Prop} [Decidable p] {A B : Prop} (a : ¬ p → A) (b : p → B) : (w32 (pI p) = w32 0 → A) ∧ (¬ (w32 (pI p) = w32 0) → B) := ⟨fun h => a (pI_z.mp h), fun h => b (pI_nz.mp h)⟩
theorem b_ne {p : Prop} [Decidable p] {A B : Prop} (a : p → A) (b : ¬ p → B) : (¬ w32 (pI p) = w32 0 → A) ∧ (¬ (¬ w32 (pI p) = w32 0) → B) := ⟨fun h => a (pI_nz.mp h), fun h => b (pI_z.mp (Decidable.not_not.mp h))⟩
theorem s_in {e : Int} {n : Nat} {P : Prop} (h : 0 ≤ e ∧ e < n ∧ n ≤ 2147483647) (k : mx_at e = e.toNat → P) : mx_in e n ∧ P := ⟨zin h.1 h.2.1 h.2.2, k (zat h.1 (by omega))⟩
theorem s_inN {e n : Nat} {P : Prop} (h : e < n ∧ n ≤ 2147483647) (k : mx_at (e : Int) = e → P) : mx_in (e : Int) n ∧ P := ⟨zinN h.1 h.2, k (zatN (by omega))⟩
theorem s_inE {e : Int} (j : Nat) {n : Nat} {P : Prop} (he : e = j) (h : j < n ∧ n ≤ 2147483647) (k : mx_at e = j → P) : mx_in e n ∧ P := by subst he; exact s_inN h k
/-! what the library's members do -/
theorem sJ9_min {T : Nat × (Nat → Int32)} {d : Nat} {Q : mz_K} {X : mz_X} {g : mz_S} {x y : Int} (hx : R32 x) (hy : R32 y) (k : Q (min x y) g) : zC T (d + 1) 349 [mx_I x, mx_I y] g Q X := by
  refine zJ9_min_7cf53 (c_lt hy hx (fun h => ?_) (fun h => ?_))
  · refine zJ9_min_7cf53_10 ?_
    rw [show min x y = y by omega] at k; exact k
  · refine zJ9_min_7cf53_10 ?_
    rw [show min x y = x by omega] at k; exact k
theorem sJ9_max {T : Nat × (Nat → Int32)} {d : Nat} {Q : mz_K} {X : mz_X} {g : mz_S} {x y : Int} (hx : R32 x) (hy : R32 y) (k : Q (max x y) g) : zC T (d + 1) 347 [mx_I x, mx_I y] g Q X := by
  refine zJ9_max_7cf53 (c_lt hx hy (fun h => ?_) (fun h => ?_))
  · refine zJ9_max_7cf53_10 ?_
    rw [show max x y = y by omega] at k; exact k
  · refine zJ9_max_7cf53_10 ?_
    rw [show max x y = x by omega] at k; exact k
theorem sJ9_minL {T : Nat × (Nat → Int32)} {d : Nat} {Q : mz_K} {X : mz_X} {g : mz_S} {x y : Int} (hx : R64 x) (hy : R64 y) (k : Q (min x y) g) : zC T (d + 1) 350 [mx_J x, mx_J y] g Q X := by
  refine zJ9_min_f86c9 (l_gt hx hy (fun h => ?_) (fun h => ?_))
  · refine zJ9_min_f86c9_11 ?_
    rw [show min x y = y by omega] at k; exact k
  · refine zJ9_min_f86c9_11 ?_
    rw [show min x y = x by omega] at k; exact k
theorem sJ9_maxL {T : Nat × (Nat → Int32)} {d : Nat} {Q : mz_K} {X : mz_X} {g : mz_S} {x y : Int} (hx : R64 x) (hy : R64 y) (k : Q (max x y) g) : zC T (d + 1) 348 [mx_J x, mx_J y] g Q X := by
  refine zJ9_max_f86c9 (l_lt hx hy (fun h => ?_) (fun h => ?_))
  · refine zJ9_max_f86c9_11 ?_
    rw [show max x y = y by omega] at k; exact k
  · refine zJ9_max_f86c9_11 ?_
    rw [show max x y = x by omega] at k; exact k
theorem ldiv_of {x y : Int} (hx : R64 x) (hy : R64 y) (h : ¬ (x = -9223372036854775808 ∧ y = -1)) : mx_ldiv x y = x.tdiv y := by
  unfold mx_ldiv
  rw [Int64.toInt_div]
  have ex : (Int64.ofInt x).toInt = x := w64_of hx.1 hx.2
  have ey : (Int64.ofInt y).toInt = y := w64_of hy.1 hy.2
  rw [ex, ey]
  have := w64_bm (x.tdiv y)
  rw [show ((2 : Nat) ^ 64) = 18446744073709551616 from rfl, ← w64_bm]
  have hb : (x.tdiv y).natAbs ≤ x.natAbs := Int.natAbs_tdiv_le_natAbs _ _
  rcases Int.lt_or_le x (-9223372036854775807) with h1 | h1
  · have hxx : x = -9223372036854775808 := by omega
    subst hxx
    rcases Int.lt_trichotomy y 0 with h2 | h2 | h2
    · have h3 : y ≤ -2 := by omega
      have : (-9223372036854775808 : Int).tdiv y ≤ 9223372036854775807 := by
        rw [← Int.neg_neg y, Int.tdiv_neg, ← Int.neg_tdiv]
        have : (- (-9223372036854775808 : Int)).tdiv (-y) ≤ 4611686018427387904 := by
          rw [Int.tdiv_eq_ediv_of_nonneg (by omega)]
          exact Int.ediv_le_of_le_mul (by omega) (by omega)
        omega
      exact w64_of (by omega) this
    · subst h2; decide
    · have : (-9223372036854775808 : Int).tdiv y ≤ 0 := by
        rw [show (-9223372036854775808 : Int) = -9223372036854775808 from rfl, Int.neg_tdiv]
        have := Int.tdiv_nonneg (a := 9223372036854775808) (b := y) (by omega) (by omega)
        omega
      exact w64_of (by omega) (by omega)
  · exact w64_of (by omega) (by omega)
