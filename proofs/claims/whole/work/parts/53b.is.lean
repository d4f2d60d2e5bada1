/-! is(..) of the reference, for each word -/
theorem tw_12 : wds.getD 0 [] = mx_tx.getD 2 [] := by decide
theorem sIs_12 {T : Nat × (Nat → Int32)} {d : Nat} {Q : mz_K} {X : mz_X} {g : mz_S} {x : Int × Nat × Nat × Int} (hb : 0 ≤ g 99 32 ∧ g 99 32 ≤ 5) (h : g 99 32 = 0 → TokR g x) (k : Q (pI (g 99 32 = 0 ∧ x.1 = 128)) g) : zC T (d + 5) 247 [mx_R 99, mx_S 12] g Q X := by
  have no : ¬ (g 99 32 = 0 ∧ x.1 = 128) → aX12_is_i2 T (d + 4) Q X 35 [some (mx_R 99), some (mx_S 12), none, none] [] g (0, 0) := by
    intro z
    rw [pI_f z] at k
    refine zX12_is_i2_35 (zX12_is_i2_36 (zX12_is_i2_39 ⟨fun _ => zX12_is_i2_82 ⟨zb0, k⟩, fun z => absurd rfl z⟩))
  refine zX12_is_i2 ?_
  first | with_reducible refine c_lt ?_ ?_ (fun z1 => ?_) (fun z1 => ?_) | with_reducible refine c_le ?_ ?_ (fun z1 => ?_) (fun z1 => ?_) | with_reducible refine c_eq ?_ ?_ (fun z1 => ?_) (fun z1 => ?_) | with_reducible refine c_ne ?_ ?_ (fun z1 => ?_) (fun z1 => ?_)
  · omega
  · omega
  · exact no (fun z => z1 z.1)
  · obtain ⟨t1, t2, t3, t4, t5, t6⟩ := h z1
    have tr := tcl_rng x.1
    rw [t3]
    first | with_reducible refine c_lt ?_ ?_ (fun z2 => ?_) (fun z2 => ?_) | with_reducible refine c_le ?_ ?_ (fun z2 => ?_) (fun z2 => ?_) | with_reducible refine c_eq ?_ ?_ (fun z2 => ?_) (fun z2 => ?_) | with_reducible refine c_ne ?_ ?_ (fun z2 => ?_) (fun z2 => ?_)
    · omega
    · omega
    · exact no (fun z => z2 (by rw [z.2]; decide))
    · obtain ⟨w1, w2, w3⟩ := t6 (tcl_1 z2)
      refine sLen_12 ?_
      rw [t1, t2]
      have iff := wkL_iff (b := g 119) (q := x.2.1) (e := x.2.2.1) wds 128 0 (by decide) (by decide) (by decide)
      rw [← w1, tw_12] at iff
      have iff2 : x.1 = 128 ↔ wdE (g 119) x.2.1 x.2.2.1 (mx_tx.getD 2 []) = true := iff
      rw [wdE_iff] at iff2
      have hl : (mx_tx.getD 2 []).length = 3 := by decide
      rw [hl] at iff2
      first | with_reducible refine c_lt ?_ ?_ (fun z3 => ?_) (fun z3 => ?_) | with_reducible refine c_le ?_ ?_ (fun z3 => ?_) (fun z3 => ?_) | with_reducible refine c_eq ?_ ?_ (fun z3 => ?_) (fun z3 => ?_) | with_reducible refine c_ne ?_ ?_ (fun z3 => ?_) (fun z3 => ?_)
      · omega
      · omega
      · exact no (fun z => by have := iff2.mp z.2; omega)
      · refine zX12_is_i2_36 ?_
        have main : ∀ i : Nat, i ≤ 3 → ∀ s : Int, ((s = 1 ∧ ∀ j, j < i → g 119 (x.2.1 + j) = (mx_tx.getD 2 []).getD j 0) ∨ (s = 0 ∧ ¬ x.1 = 128)) → aX12_is_i2 T (d + 4) Q X 39 [some (mx_R 99), some (mx_S 12), some (mx_I s), some (mx_I (i : Int))] [] g (0, 0) := by
          refine upto (P := fun i : Nat => ∀ s : Int, ((s = 1 ∧ ∀ j, j < i → g 119 (x.2.1 + j) = (mx_tx.getD 2 []).getD j 0) ∨ (s = 0 ∧ ¬ x.1 = 128)) → aX12_is_i2 T (d + 4) Q X 39 [some (mx_R 99), some (mx_S 12), some (mx_I s), some (mx_I (i : Int))] [] g (0, 0)) ?_ (fun i hi ih => ?_)
          · intro s hs
            refine zX12_is_i2_39 ?_
            rcases hs with ⟨a1, a2⟩ | ⟨a1, a2⟩ <;> subst a1
            · refine ⟨fun z => absurd z (by decide), fun _ => sLen_12 ?_⟩
              rw [pI_t ⟨z1, iff2.mpr ⟨by omega, a2⟩⟩] at k
              exact ⟨fun _ => zX12_is_i2_82 ⟨zb1, k⟩, fun z => absurd (by decide) z⟩
            · rw [pI_f (fun z => a2 z.2)] at k
              exact ⟨fun _ => zX12_is_i2_82 ⟨zb0, k⟩, fun z => absurd rfl z⟩
          · intro s hs
            refine zX12_is_i2_39 ?_
            rcases hs with ⟨a1, a2⟩ | ⟨a1, a2⟩ <;> subst a1
            · refine ⟨fun z => absurd z (by decide), fun _ => sLen_12 ?_⟩
              first | with_reducible refine c_lt ?_ ?_ (fun y1 => ?_) (fun y1 => ?_) | with_reducible refine c_le ?_ ?_ (fun y1 => ?_) (fun y1 => ?_) | with_reducible refine c_eq ?_ ?_ (fun y1 => ?_) (fun y1 => ?_) | with_reducible refine c_ne ?_ ?_ (fun y1 => ?_) (fun y1 => ?_)
              · omega
              · omega
              · omega
              · have tr := tx_12 i hi
                have br := t5 (x.2.1 + i) (by omega)
                rw [t1]
                refine s_inE (x.2.1 + i) ?_ ?_ (fun ea => ?_)
                · omega
                · omega
                try simp only [ea]
                clear ea
                refine sChar_12 hi ?_
                first | with_reducible refine c_lt ?_ ?_ (fun y2 => ?_) (fun y2 => ?_) | with_reducible refine c_le ?_ ?_ (fun y2 => ?_) (fun y2 => ?_) | with_reducible refine c_eq ?_ ?_ (fun y2 => ?_) (fun y2 => ?_) | with_reducible refine c_ne ?_ ?_ (fun y2 => ?_) (fun y2 => ?_)
                · omega
                · omega
                · exact zX12_is_i2_75 (ih 0 (Or.inr ⟨rfl, fun z => y2 ((iff2.mp z).2 i hi)⟩))
                · refine zX12_is_i2_75 (ih 1 (Or.inl ⟨rfl, fun j hj => ?_⟩))
                  rcases Nat.lt_or_ge j i with y | y
                  · exact a2 j y
                  · rw [show j = i by omega]; exact y2
            · rw [pI_f (fun z => a2 z.2)] at k
              exact ⟨fun _ => zX12_is_i2_82 ⟨zb0, k⟩, fun z => absurd rfl z⟩
        exact main 0 (Nat.zero_le _) 1 (Or.inl ⟨rfl, fun j hj => by omega⟩)
theorem tw_13 : wds.getD 1 [] = mx_tx.getD 3 [] := by decide
theorem sIs_13 {T : Nat × (Nat → Int32)} {d : Nat} {Q : mz_K} {X : mz_X} {g : mz_S} {x : Int × Nat × Nat × Int} (hb : 0 ≤ g 99 32 ∧ g 99 32 ≤ 5) (h : g 99 32 = 0 → TokR g x) (k : Q (pI (g 99 32 = 0 ∧ x.1 = 129)) g) : zC T (d + 5) 247 [mx_R 99, mx_S 13] g Q X := by
  have no : ¬ (g 99 32 = 0 ∧ x.1 = 129) → aX12_is_i3 T (d + 4) Q X 35 [some (mx_R 99), some (mx_S 13), none, none] [] g (0, 0) := by
    intro z
    rw [pI_f z] at k
    refine zX12_is_i3_35 (zX12_is_i3_36 (zX12_is_i3_39 ⟨fun _ => zX12_is_i3_82 ⟨zb0, k⟩, fun z => absurd rfl z⟩))
  refine zX12_is_i3 ?_
  first | with_reducible refine c_lt ?_ ?_ (fun z1 => ?_) (fun z1 => ?_) | with_reducible refine c_le ?_ ?_ (fun z1 => ?_) (fun z1 => ?_) | with_reducible refine c_eq ?_ ?_ (fun z1 => ?_) (fun z1 => ?_) | with_reducible refine c_ne ?_ ?_ (fun z1 => ?_) (fun z1 => ?_)
  · omega
  · omega
  · exact no (fun z => z1 z.1)
  · obtain ⟨t1, t2, t3, t4, t5, t6⟩ := h z1
    have tr := tcl_rng x.1
    rw [t3]
    first | with_reducible refine c_lt ?_ ?_ (fun z2 => ?_) (fun z2 => ?_) | with_reducible refine c_le ?_ ?_ (fun z2 => ?_) (fun z2 => ?_) | with_reducible refine c_eq ?_ ?_ (fun z2 => ?_) (fun z2 => ?_) | with_reducible refine c_ne ?_ ?_ (fun z2 => ?_) (fun z2 => ?_)
    · omega
    · omega
    · exact no (fun z => z2 (by rw [z.2]; decide))
    · obtain ⟨w1, w2, w3⟩ := t6 (tcl_1 z2)
      refine sLen_13 ?_
      rw [t1, t2]
      have iff := wkL_iff (b := g 119) (q := x.2.1) (e := x.2.2.1) wds 128 1 (by decide) (by decide) (by decide)
      rw [← w1, tw_13] at iff
      have iff2 : x.1 = 129 ↔ wdE (g 119) x.2.1 x.2.2.1 (mx_tx.getD 3 []) = true := iff
      rw [wdE_iff] at iff2
      have hl : (mx_tx.getD 3 []).length = 4 := by decide
      rw [hl] at iff2
      first | with_reducible refine c_lt ?_ ?_ (fun z3 => ?_) (fun z3 => ?_) | with_reducible refine c_le ?_ ?_ (fun z3 => ?_) (fun z3 => ?_) | with_reducible refine c_eq ?_ ?_ (fun z3 => ?_) (fun z3 => ?_) | with_reducible refine c_ne ?_ ?_ (fun z3 => ?_) (fun z3 => ?_)
      · omega
      · omega
      · exact no (fun z => by have := iff2.mp z.2; omega)
      · refine zX12_is_i3_36 ?_
        have main : ∀ i : Nat, i ≤ 4 → ∀ s : Int, ((s = 1 ∧ ∀ j, j < i → g 119 (x.2.1 + j) = (mx_tx.getD 3 []).getD j 0) ∨ (s = 0 ∧ ¬ x.1 = 129)) → aX12_is_i3 T (d + 4) Q X 39 [some (mx_R 99), some (mx_S 13), some (mx_I s), some (mx_I (i : Int))] [] g (0, 0) := by
          refine upto (P := fun i : Nat => ∀ s : Int, ((s = 1 ∧ ∀ j, j < i → g 119 (x.2.1 + j) = (mx_tx.getD 3 []).getD j 0) ∨ (s = 0 ∧ ¬ x.1 = 129)) → aX12_is_i3 T (d + 4) Q X 39 [some (mx_R 99), some (mx_S 13), some (mx_I s), some (mx_I (i : Int))] [] g (0, 0)) ?_ (fun i hi ih => ?_)
          · intro s hs
            refine zX12_is_i3_39 ?_
            rcases hs with ⟨a1, a2⟩ | ⟨a1, a2⟩ <;> subst a1
            · refine ⟨fun z => absurd z (by decide), fun _ => sLen_13 ?_⟩
              rw [pI_t ⟨z1, iff2.mpr ⟨by omega, a2⟩⟩] at k
              exact ⟨fun _ => zX12_is_i3_82 ⟨zb1, k⟩, fun z => absurd (by decide) z⟩
            · rw [pI_f (fun z => a2 z.2)] at k
              exact ⟨fun _ => zX12_is_i3_82 ⟨zb0, k⟩, fun z => absurd rfl z⟩
          · intro s hs
            refine zX12_is_i3_39 ?_
            rcases hs with ⟨a1, a2⟩ | ⟨a1, a2⟩ <;> subst a1
            · refine ⟨fun z => absurd z (by decide), fun _ => sLen_13 ?_⟩
              first | with_reducible refine c_lt ?_ ?_ (fun y1 => ?_) (fun y1 => ?_) | with_reducible refine c_le ?_ ?_ (fun y1 => ?_) (fun y1 => ?_) | with_reducible refine c_eq ?_ ?_ (fun y1 => ?_) (fun y1 => ?_) | with_reducible refine c_ne ?_ ?_ (fun y1 => ?_) (fun y1 => ?_)
              · omega
              · omega
              · omega
              · have tr := tx_13 i hi
                have br := t5 (x.2.1 + i) (by omega)
                rw [t1]
                refine s_inE (x.2.1 + i) ?_ ?_ (fun ea => ?_)
                · omega
                · omega
                try simp only [ea]
                clear ea
                refine sChar_13 hi ?_
                first | with_reducible refine c_lt ?_ ?_ (fun y2 => ?_) (fun y2 => ?_) | with_reducible refine c_le ?_ ?_ (fun y2 => ?_) (fun y2 => ?_) | with_reducible refine c_eq ?_ ?_ (fun y2 => ?_) (fun y2 => ?_) | with_reducible refine c_ne ?_ ?_ (fun y2 => ?_) (fun y2 => ?_)
                · omega
                · omega
                · exact zX12_is_i3_75 (ih 0 (Or.inr ⟨rfl, fun z => y2 ((iff2.mp z).2 i hi)⟩))
                · refine zX12_is_i3_75 (ih 1 (Or.inl ⟨rfl, fun j hj => ?_⟩))
                  rcases Nat.lt_or_ge j i with y | y
                  · exact a2 j y
                  · rw [show j = i by omega]; exact y2
            · rw [pI_f (fun z => a2 z.2)] at k
              exact ⟨fun _ => zX12_is_i3_82 ⟨zb0, k⟩, fun z => absurd rfl z⟩
        exact main 0 (Nat.zero_le _) 1 (Or.inl ⟨rfl, fun j hj => by omega⟩)
theorem tw_14 : wds.getD 2 [] = mx_tx.getD 4 [] := by decide
theorem sIs_14 {T : Nat × (Nat → Int32)} {d : Nat} {Q : mz_K} {X : mz_X} {g : mz_S} {x : Int × Nat × Nat × Int} (hb : 0 ≤ g 99 32 ∧ g 99 32 ≤ 5) (h : g 99 32 = 0 → TokR g x) (k : Q (pI (g 99 32 = 0 ∧ x.1 = 130)) g) : zC T (d + 5) 247 [mx_R 99, mx_S 14] g Q X := by
  have no : ¬ (g 99 32 = 0 ∧ x.1 = 130) → aX12_is_i4 T (d + 4) Q X 35 [some (mx_R 99), some (mx_S 14), none, none] [] g (0, 0) := by
    intro z
    rw [pI_f z] at k
    refine zX12_is_i4_35 (zX12_is_i4_36 (zX12_is_i4_39 ⟨fun _ => zX12_is_i4_82 ⟨zb0, k⟩, fun z => absurd rfl z⟩))
  refine zX12_is_i4 ?_
  first | with_reducible refine c_lt ?_ ?_ (fun z1 => ?_) (fun z1 => ?_) | with_reducible refine c_le ?_ ?_ (fun z1 => ?_) (fun z1 => ?_) | with_reducible refine c_eq ?_ ?_ (fun z1 => ?_) (fun z1 => ?_) | with_reducible refine c_ne ?_ ?_ (fun z1 => ?_) (fun z1 => ?_)
  · omega
  · omega
  · exact no (fun z => z1 z.1)
  · obtain ⟨t1, t2, t3, t4, t5, t6⟩ := h z1
    have tr := tcl_rng x.1
    rw [t3]
    first | with_reducible refine c_lt ?_ ?_ (fun z2 => ?_) (fun z2 => ?_) | with_reducible refine c_le ?_ ?_ (fun z2 => ?_) (fun z2 => ?_) | with_reducible refine c_eq ?_ ?_ (fun z2 => ?_) (fun z2 => ?_) | with_reducible refine c_ne ?_ ?_ (fun z2 => ?_) (fun z2 => ?_)
    · omega
    · omega
    · exact no (fun z => z2 (by rw [z.2]; decide))
    · obtain ⟨w1, w2, w3⟩ := t6 (tcl_1 z2)
      refine sLen_14 ?_
      rw [t1, t2]
      have iff := wkL_iff (b := g 119) (q := x.2.1) (e := x.2.2.1) wds 128 2 (by decide) (by decide) (by decide)
      rw [← w1, tw_14] at iff
      have iff2 : x.1 = 130 ↔ wdE (g 119) x.2.1 x.2.2.1 (mx_tx.getD 4 []) = true := iff
      rw [wdE_iff] at iff2
      have hl : (mx_tx.getD 4 []).length = 5 := by decide
      rw [hl] at iff2
      first | with_reducible refine c_lt ?_ ?_ (fun z3 => ?_) (fun z3 => ?_) | with_reducible refine c_le ?_ ?_ (fun z3 => ?_) (fun z3 => ?_) | with_reducible refine c_eq ?_ ?_ (fun z3 => ?_) (fun z3 => ?_) | with_reducible refine c_ne ?_ ?_ (fun z3 => ?_) (fun z3 => ?_)
      · omega
      · omega
      · exact no (fun z => by have := iff2.mp z.2; omega)
      · refine zX12_is_i4_36 ?_
        have main : ∀ i : Nat, i ≤ 5 → ∀ s : Int, ((s = 1 ∧ ∀ j, j < i → g 119 (x.2.1 + j) = (mx_tx.getD 4 []).getD j 0) ∨ (s = 0 ∧ ¬ x.1 = 130)) → aX12_is_i4 T (d + 4) Q X 39 [some (mx_R 99), some (mx_S 14), some (mx_I s), some (mx_I (i : Int))] [] g (0, 0) := by
          refine upto (P := fun i : Nat => ∀ s : Int, ((s = 1 ∧ ∀ j, j < i → g 119 (x.2.1 + j) = (mx_tx.getD 4 []).getD j 0) ∨ (s = 0 ∧ ¬ x.1 = 130)) → aX12_is_i4 T (d + 4) Q X 39 [some (mx_R 99), some (mx_S 14), some (mx_I s), some (mx_I (i : Int))] [] g (0, 0)) ?_ (fun i hi ih => ?_)
          · intro s hs
            refine zX12_is_i4_39 ?_
            rcases hs with ⟨a1, a2⟩ | ⟨a1, a2⟩ <;> subst a1
            · refine ⟨fun z => absurd z (by decide), fun _ => sLen_14 ?_⟩
              rw [pI_t ⟨z1, iff2.mpr ⟨by omega, a2⟩⟩] at k
              exact ⟨fun _ => zX12_is_i4_82 ⟨zb1, k⟩, fun z => absurd (by decide) z⟩
            · rw [pI_f (fun z => a2 z.2)] at k
              exact ⟨fun _ => zX12_is_i4_82 ⟨zb0, k⟩, fun z => absurd rfl z⟩
          · intro s hs
            refine zX12_is_i4_39 ?_
            rcases hs with ⟨a1, a2⟩ | ⟨a1, a2⟩ <;> subst a1
            · refine ⟨fun z => absurd z (by decide), fun _ => sLen_14 ?_⟩
              first | with_reducible refine c_lt ?_ ?_ (fun y1 => ?_) (fun y1 => ?_) | with_reducible refine c_le ?_ ?_ (fun y1 => ?_) (fun y1 => ?_) | with_reducible refine c_eq ?_ ?_ (fun y1 => ?_) (fun y1 => ?_) | with_reducible refine c_ne ?_ ?_ (fun y1 => ?_) (fun y1 => ?_)
              · omega
              · omega
              · omega
              · have tr := tx_14 i hi
                have br := t5 (x.2.1 + i) (by omega)
                rw [t1]
                refine s_inE (x.2.1 + i) ?_ ?_ (fun ea => ?_)
                · omega
                · omega
                try simp only [ea]
                clear ea
                refine sChar_14 hi ?_
                first | with_reducible refine c_lt ?_ ?_ (fun y2 => ?_) (fun y2 => ?_) | with_reducible refine c_le ?_ ?_ (fun y2 => ?_) (fun y2 => ?_) | with_reducible refine c_eq ?_ ?_ (fun y2 => ?_) (fun y2 => ?_) | with_reducible refine c_ne ?_ ?_ (fun y2 => ?_) (fun y2 => ?_)
                · omega
                · omega
                · exact zX12_is_i4_75 (ih 0 (Or.inr ⟨rfl, fun z => y2 ((iff2.mp z).2 i hi)⟩))
                · refine zX12_is_i4_75 (ih 1 (Or.inl ⟨rfl, fun j hj => ?_⟩))
                  rcases Nat.lt_or_ge j i with y | y
                  · exact a2 j y
                  · rw [show j = i by omega]; exact y2
            · rw [pI_f (fun z => a2 z.2)] at k
              exact ⟨fun _ => zX12_is_i4_82 ⟨zb0, k⟩, fun z => absurd rfl z⟩
        exact main 0 (Nat.zero_le _) 1 (Or.inl ⟨rfl, fun j hj => by omega⟩)
theorem tw_15 : wds.getD 3 [] = mx_tx.getD 5 [] := by decide
theorem sIs_15 {T : Nat × (Nat → Int32)} {d : Nat} {Q : mz_K} {X : mz_X} {g : mz_S} {x : Int × Nat × Nat × Int} (hb : 0 ≤ g 99 32 ∧ g 99 32 ≤ 5) (h : g 99 32 = 0 → TokR g x) (k : Q (pI (g 99 32 = 0 ∧ x.1 = 131)) g) : zC T (d + 5) 247 [mx_R 99, mx_S 15] g Q X := by
  have no : ¬ (g 99 32 = 0 ∧ x.1 = 131) → aX12_is_i5 T (d + 4) Q X 35 [some (mx_R 99), some (mx_S 15), none, none] [] g (0, 0) := by
    intro z
    rw [pI_f z] at k
    refine zX12_is_i5_35 (zX12_is_i5_36 (zX12_is_i5_39 ⟨fun _ => zX12_is_i5_82 ⟨zb0, k⟩, fun z => absurd rfl z⟩))
  refine zX12_is_i5 ?_
  first | with_reducible refine c_lt ?_ ?_ (fun z1 => ?_) (fun z1 => ?_) | with_reducible refine c_le ?_ ?_ (fun z1 => ?_) (fun z1 => ?_) | with_reducible refine c_eq ?_ ?_ (fun z1 => ?_) (fun z1 => ?_) | with_reducible refine c_ne ?_ ?_ (fun z1 => ?_) (fun z1 => ?_)
  · omega
  · omega
  · exact no (fun z => z1 z.1)
  · obtain ⟨t1, t2, t3, t4, t5, t6⟩ := h z1
    have tr := tcl_rng x.1
    rw [t3]
    first | with_reducible refine c_lt ?_ ?_ (fun z2 => ?_) (fun z2 => ?_) | with_reducible refine c_le ?_ ?_ (fun z2 => ?_) (fun z2 => ?_) | with_reducible refine c_eq ?_ ?_ (fun z2 => ?_) (fun z2 => ?_) | with_reducible refine c_ne ?_ ?_ (fun z2 => ?_) (fun z2 => ?_)
    · omega
    · omega
    · exact no (fun z => z2 (by rw [z.2]; decide))
    · obtain ⟨w1, w2, w3⟩ := t6 (tcl_1 z2)
      refine sLen_15 ?_
      rw [t1, t2]
      have iff := wkL_iff (b := g 119) (q := x.2.1) (e := x.2.2.1) wds 128 3 (by decide) (by decide) (by decide)
      rw [← w1, tw_15] at iff
      have iff2 : x.1 = 131 ↔ wdE (g 119) x.2.1 x.2.2.1 (mx_tx.getD 5 []) = true := iff
      rw [wdE_iff] at iff2
      have hl : (mx_tx.getD 5 []).length = 4 := by decide
      rw [hl] at iff2
      first | with_reducible refine c_lt ?_ ?_ (fun z3 => ?_) (fun z3 => ?_) | with_reducible refine c_le ?_ ?_ (fun z3 => ?_) (fun z3 => ?_) | with_reducible refine c_eq ?_ ?_ (fun z3 => ?_) (fun z3 => ?_) | with_reducible refine c_ne ?_ ?_ (fun z3 => ?_) (fun z3 => ?_)
      · omega
      · omega
      · exact no (fun z => by have := iff2.mp z.2; omega)
      · refine zX12_is_i5_36 ?_
        have main : ∀ i : Nat, i ≤ 4 → ∀ s : Int, ((s = 1 ∧ ∀ j, j < i → g 119 (x.2.1 + j) = (mx_tx.getD 5 []).getD j 0) ∨ (s = 0 ∧ ¬ x.1 = 131)) → aX12_is_i5 T (d + 4) Q X 39 [some (mx_R 99), some (mx_S 15), some (mx_I s), some (mx_I (i : Int))] [] g (0, 0) := by
          refine upto (P := fun i : Nat => ∀ s : Int, ((s = 1 ∧ ∀ j, j < i → g 119 (x.2.1 + j) = (mx_tx.getD 5 []).getD j 0) ∨ (s = 0 ∧ ¬ x.1 = 131)) → aX12_is_i5 T (d + 4) Q X 39 [some (mx_R 99), some (mx_S 15), some (mx_I s), some (mx_I (i : Int))] [] g (0, 0)) ?_ (fun i hi ih => ?_)
          · intro s hs
            refine zX12_is_i5_39 ?_
            rcases hs with ⟨a1, a2⟩ | ⟨a1, a2⟩ <;> subst a1
            · refine ⟨fun z => absurd z (by decide), fun _ => sLen_15 ?_⟩
              rw [pI_t ⟨z1, iff2.mpr ⟨by omega, a2⟩⟩] at k
              exact ⟨fun _ => zX12_is_i5_82 ⟨zb1, k⟩, fun z => absurd (by decide) z⟩
            · rw [pI_f (fun z => a2 z.2)] at k
              exact ⟨fun _ => zX12_is_i5_82 ⟨zb0, k⟩, fun z => absurd rfl z⟩
          · intro s hs
            refine zX12_is_i5_39 ?_
            rcases hs with ⟨a1, a2⟩ | ⟨a1, a2⟩ <;> subst a1
            · refine ⟨fun z => absurd z (by decide), fun _ => sLen_15 ?_⟩
              first | with_reducible refine c_lt ?_ ?_ (fun y1 => ?_) (fun y1 => ?_) | with_reducible refine c_le ?_ ?_ (fun y1 => ?_) (fun y1 => ?_) | with_reducible refine c_eq ?_ ?_ (fun y1 => ?_) (fun y1 => ?_) | with_reducible refine c_ne ?_ ?_ (fun y1 => ?_) (fun y1 => ?_)
              · omega
              · omega
              · omega
              · have tr := tx_15 i hi
                have br := t5 (x.2.1 + i) (by omega)
                rw [t1]
                refine s_inE (x.2.1 + i) ?_ ?_ (fun ea => ?_)
                · omega
                · omega
                try simp only [ea]
                clear ea
                refine sChar_15 hi ?_
                first | with_reducible refine c_lt ?_ ?_ (fun y2 => ?_) (fun y2 => ?_) | with_reducible refine c_le ?_ ?_ (fun y2 => ?_) (fun y2 => ?_) | with_reducible refine c_eq ?_ ?_ (fun y2 => ?_) (fun y2 => ?_) | with_reducible refine c_ne ?_ ?_ (fun y2 => ?_) (fun y2 => ?_)
                · omega
                · omega
                · exact zX12_is_i5_75 (ih 0 (Or.inr ⟨rfl, fun z => y2 ((iff2.mp z).2 i hi)⟩))
                · refine zX12_is_i5_75 (ih 1 (Or.inl ⟨rfl, fun j hj => ?_⟩))
                  rcases Nat.lt_or_ge j i with y | y
                  · exact a2 j y
                  · rw [show j = i by omega]; exact y2
            · rw [pI_f (fun z => a2 z.2)] at k
              exact ⟨fun _ => zX12_is_i5_82 ⟨zb0, k⟩, fun z => absurd rfl z⟩
        exact main 0 (Nat.zero_le _) 1 (Or.inl ⟨rfl, fun j hj => by omega⟩)
theorem tw_16 : wds.getD 4 [] = mx_tx.getD 6 [] := by decide
theorem sIs_16 {T : Nat × (Nat → Int32)} {d : Nat} {Q : mz_K} {X : mz_X} {g : mz_S} {x : Int × Nat × Nat × Int} (hb : 0 ≤ g 99 32 ∧ g 99 32 ≤ 5) (h : g 99 32 = 0 → TokR g x) (k : Q (pI (g 99 32 = 0 ∧ x.1 = 132)) g) : zC T (d + 5) 247 [mx_R 99, mx_S 16] g Q X := by
  have no : ¬ (g 99 32 = 0 ∧ x.1 = 132) → aX12_is_i6 T (d + 4) Q X 35 [some (mx_R 99), some (mx_S 16), none, none] [] g (0, 0) := by
    intro z
    rw [pI_f z] at k
    refine zX12_is_i6_35 (zX12_is_i6_36 (zX12_is_i6_39 ⟨fun _ => zX12_is_i6_82 ⟨zb0, k⟩, fun z => absurd rfl z⟩))
  refine zX12_is_i6 ?_
  first | with_reducible refine c_lt ?_ ?_ (fun z1 => ?_) (fun z1 => ?_) | with_reducible refine c_le ?_ ?_ (fun z1 => ?_) (fun z1 => ?_) | with_reducible refine c_eq ?_ ?_ (fun z1 => ?_) (fun z1 => ?_) | with_reducible refine c_ne ?_ ?_ (fun z1 => ?_) (fun z1 => ?_)
  · omega
  · omega
  · exact no (fun z => z1 z.1)
  · obtain ⟨t1, t2, t3, t4, t5, t6⟩ := h z1
    have tr := tcl_rng x.1
    rw [t3]
    first | with_reducible refine c_lt ?_ ?_ (fun z2 => ?_) (fun z2 => ?_) | with_reducible refine c_le ?_ ?_ (fun z2 => ?_) (fun z2 => ?_) | with_reducible refine c_eq ?_ ?_ (fun z2 => ?_) (fun z2 => ?_) | with_reducible refine c_ne ?_ ?_ (fun z2 => ?_) (fun z2 => ?_)
    · omega
    · omega
    · exact no (fun z => z2 (by rw [z.2]; decide))
    · obtain ⟨w1, w2, w3⟩ := t6 (tcl_1 z2)
      refine sLen_16 ?_
      rw [t1, t2]
      have iff := wkL_iff (b := g 119) (q := x.2.1) (e := x.2.2.1) wds 128 4 (by decide) (by decide) (by decide)
      rw [← w1, tw_16] at iff
      have iff2 : x.1 = 132 ↔ wdE (g 119) x.2.1 x.2.2.1 (mx_tx.getD 6 []) = true := iff
      rw [wdE_iff] at iff2
      have hl : (mx_tx.getD 6 []).length = 5 := by decide
      rw [hl] at iff2
      first | with_reducible refine c_lt ?_ ?_ (fun z3 => ?_) (fun z3 => ?_) | with_reducible refine c_le ?_ ?_ (fun z3 => ?_) (fun z3 => ?_) | with_reducible refine c_eq ?_ ?_ (fun z3 => ?_) (fun z3 => ?_) | with_reducible refine c_ne ?_ ?_ (fun z3 => ?_) (fun z3 => ?_)
      · omega
      · omega
      · exact no (fun z => by have := iff2.mp z.2; omega)
      · refine zX12_is_i6_36 ?_
        have main : ∀ i : Nat, i ≤ 5 → ∀ s : Int, ((s = 1 ∧ ∀ j, j < i → g 119 (x.2.1 + j) = (mx_tx.getD 6 []).getD j 0) ∨ (s = 0 ∧ ¬ x.1 = 132)) → aX12_is_i6 T (d + 4) Q X 39 [some (mx_R 99), some (mx_S 16), some (mx_I s), some (mx_I (i : Int))] [] g (0, 0) := by
          refine upto (P := fun i : Nat => ∀ s : Int, ((s = 1 ∧ ∀ j, j < i → g 119 (x.2.1 + j) = (mx_tx.getD 6 []).getD j 0) ∨ (s = 0 ∧ ¬ x.1 = 132)) → aX12_is_i6 T (d + 4) Q X 39 [some (mx_R 99), some (mx_S 16), some (mx_I s), some (mx_I (i : Int))] [] g (0, 0)) ?_ (fun i hi ih => ?_)
          · intro s hs
            refine zX12_is_i6_39 ?_
            rcases hs with ⟨a1, a2⟩ | ⟨a1, a2⟩ <;> subst a1
            · refine ⟨fun z => absurd z (by decide), fun _ => sLen_16 ?_⟩
              rw [pI_t ⟨z1, iff2.mpr ⟨by omega, a2⟩⟩] at k
              exact ⟨fun _ => zX12_is_i6_82 ⟨zb1, k⟩, fun z => absurd (by decide) z⟩
            · rw [pI_f (fun z => a2 z.2)] at k
              exact ⟨fun _ => zX12_is_i6_82 ⟨zb0, k⟩, fun z => absurd rfl z⟩
          · intro s hs
            refine zX12_is_i6_39 ?_
            rcases hs with ⟨a1, a2⟩ | ⟨a1, a2⟩ <;> subst a1
            · refine ⟨fun z => absurd z (by decide), fun _ => sLen_16 ?_⟩
              first | with_reducible refine c_lt ?_ ?_ (fun y1 => ?_) (fun y1 => ?_) | with_reducible refine c_le ?_ ?_ (fun y1 => ?_) (fun y1 => ?_) | with_reducible refine c_eq ?_ ?_ (fun y1 => ?_) (fun y1 => ?_) | with_reducible refine c_ne ?_ ?_ (fun y1 => ?_) (fun y1 => ?_)
              · omega
              · omega
              · omega
              · have tr := tx_16 i hi
                have br := t5 (x.2.1 + i) (by omega)
                rw [t1]
                refine s_inE (x.2.1 + i) ?_ ?_ (fun ea => ?_)
                · omega
                · omega
                try simp only [ea]
                clear ea
                refine sChar_16 hi ?_
                first | with_reducible refine c_lt ?_ ?_ (fun y2 => ?_) (fun y2 => ?_) | with_reducible refine c_le ?_ ?_ (fun y2 => ?_) (fun y2 => ?_) | with_reducible refine c_eq ?_ ?_ (fun y2 => ?_) (fun y2 => ?_) | with_reducible refine c_ne ?_ ?_ (fun y2 => ?_) (fun y2 => ?_)
                · omega
                · omega
                · exact zX12_is_i6_75 (ih 0 (Or.inr ⟨rfl, fun z => y2 ((iff2.mp z).2 i hi)⟩))
                · refine zX12_is_i6_75 (ih 1 (Or.inl ⟨rfl, fun j hj => ?_⟩))
                  rcases Nat.lt_or_ge j i with y | y
                  · exact a2 j y
                  · rw [show j = i by omega]; exact y2
            · rw [pI_f (fun z => a2 z.2)] at k
              exact ⟨fun _ => zX12_is_i6_82 ⟨zb0, k⟩, fun z => absurd rfl z⟩
        exact main 0 (Nat.zero_le _) 1 (Or.inl ⟨rfl, fun j hj => by omega⟩)
theorem tw_17 : wds.getD 5 [] = mx_tx.getD 7 [] := by decide
theorem sIs_17 {T : Nat × (Nat → Int32)} {d : Nat} {Q : mz_K} {X : mz_X} {g : mz_S} {x : Int × Nat × Nat × Int} (hb : 0 ≤ g 99 32 ∧ g 99 32 ≤ 5) (h : g 99 32 = 0 → TokR g x) (k : Q (pI (g 99 32 = 0 ∧ x.1 = 133)) g) : zC T (d + 5) 247 [mx_R 99, mx_S 17] g Q X := by
  have no : ¬ (g 99 32 = 0 ∧ x.1 = 133) → aX12_is_i7 T (d + 4) Q X 35 [some (mx_R 99), some (mx_S 17), none, none] [] g (0, 0) := by
    intro z
    rw [pI_f z] at k
    refine zX12_is_i7_35 (zX12_is_i7_36 (zX12_is_i7_39 ⟨fun _ => zX12_is_i7_82 ⟨zb0, k⟩, fun z => absurd rfl z⟩))
  refine zX12_is_i7 ?_
  first | with_reducible refine c_lt ?_ ?_ (fun z1 => ?_) (fun z1 => ?_) | with_reducible refine c_le ?_ ?_ (fun z1 => ?_) (fun z1 => ?_) | with_reducible refine c_eq ?_ ?_ (fun z1 => ?_) (fun z1 => ?_) | with_reducible refine c_ne ?_ ?_ (fun z1 => ?_) (fun z1 => ?_)
  · omega
  · omega
  · exact no (fun z => z1 z.1)
  · obtain ⟨t1, t2, t3, t4, t5, t6⟩ := h z1
    have tr := tcl_rng x.1
    rw [t3]
    first | with_reducible refine c_lt ?_ ?_ (fun z2 => ?_) (fun z2 => ?_) | with_reducible refine c_le ?_ ?_ (fun z2 => ?_) (fun z2 => ?_) | with_reducible refine c_eq ?_ ?_ (fun z2 => ?_) (fun z2 => ?_) | with_reducible refine c_ne ?_ ?_ (fun z2 => ?_) (fun z2 => ?_)
    · omega
    · omega
    · exact no (fun z => z2 (by rw [z.2]; decide))
    · obtain ⟨w1, w2, w3⟩ := t6 (tcl_1 z2)
      refine sLen_17 ?_
      rw [t1, t2]
      have iff := wkL_iff (b := g 119) (q := x.2.1) (e := x.2.2.1) wds 128 5 (by decide) (by decide) (by decide)
      rw [← w1, tw_17] at iff
      have iff2 : x.1 = 133 ↔ wdE (g 119) x.2.1 x.2.2.1 (mx_tx.getD 7 []) = true := iff
      rw [wdE_iff] at iff2
      have hl : (mx_tx.getD 7 []).length = 4 := by decide
      rw [hl] at iff2
      first | with_reducible refine c_lt ?_ ?_ (fun z3 => ?_) (fun z3 => ?_) | with_reducible refine c_le ?_ ?_ (fun z3 => ?_) (fun z3 => ?_) | with_reducible refine c_eq ?_ ?_ (fun z3 => ?_) (fun z3 => ?_) | with_reducible refine c_ne ?_ ?_ (fun z3 => ?_) (fun z3 => ?_)
      · omega
      · omega
      · exact no (fun z => by have := iff2.mp z.2; omega)
      · refine zX12_is_i7_36 ?_
        have main : ∀ i : Nat, i ≤ 4 → ∀ s : Int, ((s = 1 ∧ ∀ j, j < i → g 119 (x.2.1 + j) = (mx_tx.getD 7 []).getD j 0) ∨ (s = 0 ∧ ¬ x.1 = 133)) → aX12_is_i7 T (d + 4) Q X 39 [some (mx_R 99), some (mx_S 17), some (mx_I s), some (mx_I (i : Int))] [] g (0, 0) := by
          refine upto (P := fun i : Nat => ∀ s : Int, ((s = 1 ∧ ∀ j, j < i → g 119 (x.2.1 + j) = (mx_tx.getD 7 []).getD j 0) ∨ (s = 0 ∧ ¬ x.1 = 133)) → aX12_is_i7 T (d + 4) Q X 39 [some (mx_R 99), some (mx_S 17), some (mx_I s), some (mx_I (i : Int))] [] g (0, 0)) ?_ (fun i hi ih => ?_)
          · intro s hs
            refine zX12_is_i7_39 ?_
            rcases hs with ⟨a1, a2⟩ | ⟨a1, a2⟩ <;> subst a1
            · refine ⟨fun z => absurd z (by decide), fun _ => sLen_17 ?_⟩
              rw [pI_t ⟨z1, iff2.mpr ⟨by omega, a2⟩⟩] at k
              exact ⟨fun _ => zX12_is_i7_82 ⟨zb1, k⟩, fun z => absurd (by decide) z⟩
            · rw [pI_f (fun z => a2 z.2)] at k
              exact ⟨fun _ => zX12_is_i7_82 ⟨zb0, k⟩, fun z => absurd rfl z⟩
          · intro s hs
            refine zX12_is_i7_39 ?_
            rcases hs with ⟨a1, a2⟩ | ⟨a1, a2⟩ <;> subst a1
            · refine ⟨fun z => absurd z (by decide), fun _ => sLen_17 ?_⟩
              first | with_reducible refine c_lt ?_ ?_ (fun y1 => ?_) (fun y1 => ?_) | with_reducible refine c_le ?_ ?_ (fun y1 => ?_) (fun y1 => ?_) | with_reducible refine c_eq ?_ ?_ (fun y1 => ?_) (fun y1 => ?_) | with_reducible refine c_ne ?_ ?_ (fun y1 => ?_) (fun y1 => ?_)
              · omega
              · omega
              · omega
              · have tr := tx_17 i hi
                have br := t5 (x.2.1 + i) (by omega)
                rw [t1]
                refine s_inE (x.2.1 + i) ?_ ?_ (fun ea => ?_)
                · omega
                · omega
                try simp only [ea]
                clear ea
                refine sChar_17 hi ?_
                first | with_reducible refine c_lt ?_ ?_ (fun y2 => ?_) (fun y2 => ?_) | with_reducible refine c_le ?_ ?_ (fun y2 => ?_) (fun y2 => ?_) | with_reducible refine c_eq ?_ ?_ (fun y2 => ?_) (fun y2 => ?_) | with_reducible refine c_ne ?_ ?_ (fun y2 => ?_) (fun y2 => ?_)
                · omega
                · omega
                · exact zX12_is_i7_75 (ih 0 (Or.inr ⟨rfl, fun z => y2 ((iff2.mp z).2 i hi)⟩))
                · refine zX12_is_i7_75 (ih 1 (Or.inl ⟨rfl, fun j hj => ?_⟩))
                  rcases Nat.lt_or_ge j i with y | y
                  · exact a2 j y
                  · rw [show j = i by omega]; exact y2
            · rw [pI_f (fun z => a2 z.2)] at k
              exact ⟨fun _ => zX12_is_i7_82 ⟨zb0, k⟩, fun z => absurd rfl z⟩
        exact main 0 (Nat.zero_le _) 1 (Or.inl ⟨rfl, fun j hj => by omega⟩)
theorem tw_18 : wds.getD 6 [] = mx_tx.getD 8 [] := by decide
theorem sIs_18 {T : Nat × (Nat → Int32)} {d : Nat} {Q : mz_K} {X : mz_X} {g : mz_S} {x : Int × Nat × Nat × Int} (hb : 0 ≤ g 99 32 ∧ g 99 32 ≤ 5) (h : g 99 32 = 0 → TokR g x) (k : Q (pI (g 99 32 = 0 ∧ x.1 = 134)) g) : zC T (d + 5) 247 [mx_R 99, mx_S 18] g Q X := by
  have no : ¬ (g 99 32 = 0 ∧ x.1 = 134) → aX12_is_i8 T (d + 4) Q X 35 [some (mx_R 99), some (mx_S 18), none, none] [] g (0, 0) := by
    intro z
    rw [pI_f z] at k
    refine zX12_is_i8_35 (zX12_is_i8_36 (zX12_is_i8_39 ⟨fun _ => zX12_is_i8_82 ⟨zb0, k⟩, fun z => absurd rfl z⟩))
  refine zX12_is_i8 ?_
  first | with_reducible refine c_lt ?_ ?_ (fun z1 => ?_) (fun z1 => ?_) | with_reducible refine c_le ?_ ?_ (fun z1 => ?_) (fun z1 => ?_) | with_reducible refine c_eq ?_ ?_ (fun z1 => ?_) (fun z1 => ?_) | with_reducible refine c_ne ?_ ?_ (fun z1 => ?_) (fun z1 => ?_)
  · omega
  · omega
  · exact no (fun z => z1 z.1)
  · obtain ⟨t1, t2, t3, t4, t5, t6⟩ := h z1
    have tr := tcl_rng x.1
    rw [t3]
    first | with_reducible refine c_lt ?_ ?_ (fun z2 => ?_) (fun z2 => ?_) | with_reducible refine c_le ?_ ?_ (fun z2 => ?_) (fun z2 => ?_) | with_reducible refine c_eq ?_ ?_ (fun z2 => ?_) (fun z2 => ?_) | with_reducible refine c_ne ?_ ?_ (fun z2 => ?_) (fun z2 => ?_)
    · omega
    · omega
    · exact no (fun z => z2 (by rw [z.2]; decide))
    · obtain ⟨w1, w2, w3⟩ := t6 (tcl_1 z2)
      refine sLen_18 ?_
      rw [t1, t2]
      have iff := wkL_iff (b := g 119) (q := x.2.1) (e := x.2.2.1) wds 128 6 (by decide) (by decide) (by decide)
      rw [← w1, tw_18] at iff
      have iff2 : x.1 = 134 ↔ wdE (g 119) x.2.1 x.2.2.1 (mx_tx.getD 8 []) = true := iff
      rw [wdE_iff] at iff2
      have hl : (mx_tx.getD 8 []).length = 3 := by decide
      rw [hl] at iff2
      first | with_reducible refine c_lt ?_ ?_ (fun z3 => ?_) (fun z3 => ?_) | with_reducible refine c_le ?_ ?_ (fun z3 => ?_) (fun z3 => ?_) | with_reducible refine c_eq ?_ ?_ (fun z3 => ?_) (fun z3 => ?_) | with_reducible refine c_ne ?_ ?_ (fun z3 => ?_) (fun z3 => ?_)
      · omega
      · omega
      · exact no (fun z => by have := iff2.mp z.2; omega)
      · refine zX12_is_i8_36 ?_
        have main : ∀ i : Nat, i ≤ 3 → ∀ s : Int, ((s = 1 ∧ ∀ j, j < i → g 119 (x.2.1 + j) = (mx_tx.getD 8 []).getD j 0) ∨ (s = 0 ∧ ¬ x.1 = 134)) → aX12_is_i8 T (d + 4) Q X 39 [some (mx_R 99), some (mx_S 18), some (mx_I s), some (mx_I (i : Int))] [] g (0, 0) := by
          refine upto (P := fun i : Nat => ∀ s : Int, ((s = 1 ∧ ∀ j, j < i → g 119 (x.2.1 + j) = (mx_tx.getD 8 []).getD j 0) ∨ (s = 0 ∧ ¬ x.1 = 134)) → aX12_is_i8 T (d + 4) Q X 39 [some (mx_R 99), some (mx_S 18), some (mx_I s), some (mx_I (i : Int))] [] g (0, 0)) ?_ (fun i hi ih => ?_)
          · intro s hs
            refine zX12_is_i8_39 ?_
            rcases hs with ⟨a1, a2⟩ | ⟨a1, a2⟩ <;> subst a1
            · refine ⟨fun z => absurd z (by decide), fun _ => sLen_18 ?_⟩
              rw [pI_t ⟨z1, iff2.mpr ⟨by omega, a2⟩⟩] at k
              exact ⟨fun _ => zX12_is_i8_82 ⟨zb1, k⟩, fun z => absurd (by decide) z⟩
            · rw [pI_f (fun z => a2 z.2)] at k
              exact ⟨fun _ => zX12_is_i8_82 ⟨zb0, k⟩, fun z => absurd rfl z⟩
          · intro s hs
            refine zX12_is_i8_39 ?_
            rcases hs with ⟨a1, a2⟩ | ⟨a1, a2⟩ <;> subst a1
            · refine ⟨fun z => absurd z (by decide), fun _ => sLen_18 ?_⟩
              first | with_reducible refine c_lt ?_ ?_ (fun y1 => ?_) (fun y1 => ?_) | with_reducible refine c_le ?_ ?_ (fun y1 => ?_) (fun y1 => ?_) | with_reducible refine c_eq ?_ ?_ (fun y1 => ?_) (fun y1 => ?_) | with_reducible refine c_ne ?_ ?_ (fun y1 => ?_) (fun y1 => ?_)
              · omega
              · omega
              · omega
              · have tr := tx_18 i hi
                have br := t5 (x.2.1 + i) (by omega)
                rw [t1]
                refine s_inE (x.2.1 + i) ?_ ?_ (fun ea => ?_)
                · omega
                · omega
                try simp only [ea]
                clear ea
                refine sChar_18 hi ?_
                first | with_reducible refine c_lt ?_ ?_ (fun y2 => ?_) (fun y2 => ?_) | with_reducible refine c_le ?_ ?_ (fun y2 => ?_) (fun y2 => ?_) | with_reducible refine c_eq ?_ ?_ (fun y2 => ?_) (fun y2 => ?_) | with_reducible refine c_ne ?_ ?_ (fun y2 => ?_) (fun y2 => ?_)
                · omega
                · omega
                · exact zX12_is_i8_75 (ih 0 (Or.inr ⟨rfl, fun z => y2 ((iff2.mp z).2 i hi)⟩))
                · refine zX12_is_i8_75 (ih 1 (Or.inl ⟨rfl, fun j hj => ?_⟩))
                  rcases Nat.lt_or_ge j i with y | y
                  · exact a2 j y
                  · rw [show j = i by omega]; exact y2
            · rw [pI_f (fun z => a2 z.2)] at k
              exact ⟨fun _ => zX12_is_i8_82 ⟨zb0, k⟩, fun z => absurd rfl z⟩
        exact main 0 (Nat.zero_le _) 1 (Or.inl ⟨rfl, fun j hj => by omega⟩)
theorem tw_19 : wds.getD 7 [] = mx_tx.getD 9 [] := by decide
theorem sIs_19 {T : Nat × (Nat → Int32)} {d : Nat} {Q : mz_K} {X : mz_X} {g : mz_S} {x : Int × Nat × Nat × Int} (hb : 0 ≤ g 99 32 ∧ g 99 32 ≤ 5) (h : g 99 32 = 0 → TokR g x) (k : Q (pI (g 99 32 = 0 ∧ x.1 = 135)) g) : zC T (d + 5) 247 [mx_R 99, mx_S 19] g Q X := by
  have no : ¬ (g 99 32 = 0 ∧ x.1 = 135) → aX12_is_i9 T (d + 4) Q X 35 [some (mx_R 99), some (mx_S 19), none, none] [] g (0, 0) := by
    intro z
    rw [pI_f z] at k
    refine zX12_is_i9_35 (zX12_is_i9_36 (zX12_is_i9_39 ⟨fun _ => zX12_is_i9_82 ⟨zb0, k⟩, fun z => absurd rfl z⟩))
  refine zX12_is_i9 ?_
  first | with_reducible refine c_lt ?_ ?_ (fun z1 => ?_) (fun z1 => ?_) | with_reducible refine c_le ?_ ?_ (fun z1 => ?_) (fun z1 => ?_) | with_reducible refine c_eq ?_ ?_ (fun z1 => ?_) (fun z1 => ?_) | with_reducible refine c_ne ?_ ?_ (fun z1 => ?_) (fun z1 => ?_)
  · omega
  · omega
  · exact no (fun z => z1 z.1)
  · obtain ⟨t1, t2, t3, t4, t5, t6⟩ := h z1
    have tr := tcl_rng x.1
    rw [t3]
    first | with_reducible refine c_lt ?_ ?_ (fun z2 => ?_) (fun z2 => ?_) | with_reducible refine c_le ?_ ?_ (fun z2 => ?_) (fun z2 => ?_) | with_reducible refine c_eq ?_ ?_ (fun z2 => ?_) (fun z2 => ?_) | with_reducible refine c_ne ?_ ?_ (fun z2 => ?_) (fun z2 => ?_)
    · omega
    · omega
    · exact no (fun z => z2 (by rw [z.2]; decide))
    · obtain ⟨w1, w2, w3⟩ := t6 (tcl_1 z2)
      refine sLen_19 ?_
      rw [t1, t2]
      have iff := wkL_iff (b := g 119) (q := x.2.1) (e := x.2.2.1) wds 128 7 (by decide) (by decide) (by decide)
      rw [← w1, tw_19] at iff
      have iff2 : x.1 = 135 ↔ wdE (g 119) x.2.1 x.2.2.1 (mx_tx.getD 9 []) = true := iff
      rw [wdE_iff] at iff2
      have hl : (mx_tx.getD 9 []).length = 4 := by decide
      rw [hl] at iff2
      first | with_reducible refine c_lt ?_ ?_ (fun z3 => ?_) (fun z3 => ?_) | with_reducible refine c_le ?_ ?_ (fun z3 => ?_) (fun z3 => ?_) | with_reducible refine c_eq ?_ ?_ (fun z3 => ?_) (fun z3 => ?_) | with_reducible refine c_ne ?_ ?_ (fun z3 => ?_) (fun z3 => ?_)
      · omega
      · omega
      · exact no (fun z => by have := iff2.mp z.2; omega)
      · refine zX12_is_i9_36 ?_
        have main : ∀ i : Nat, i ≤ 4 → ∀ s : Int, ((s = 1 ∧ ∀ j, j < i → g 119 (x.2.1 + j) = (mx_tx.getD 9 []).getD j 0) ∨ (s = 0 ∧ ¬ x.1 = 135)) → aX12_is_i9 T (d + 4) Q X 39 [some (mx_R 99), some (mx_S 19), some (mx_I s), some (mx_I (i : Int))] [] g (0, 0) := by
          refine upto (P := fun i : Nat => ∀ s : Int, ((s = 1 ∧ ∀ j, j < i → g 119 (x.2.1 + j) = (mx_tx.getD 9 []).getD j 0) ∨ (s = 0 ∧ ¬ x.1 = 135)) → aX12_is_i9 T (d + 4) Q X 39 [some (mx_R 99), some (mx_S 19), some (mx_I s), some (mx_I (i : Int))] [] g (0, 0)) ?_ (fun i hi ih => ?_)
          · intro s hs
            refine zX12_is_i9_39 ?_
            rcases hs with ⟨a1, a2⟩ | ⟨a1, a2⟩ <;> subst a1
            · refine ⟨fun z => absurd z (by decide), fun _ => sLen_19 ?_⟩
              rw [pI_t ⟨z1, iff2.mpr ⟨by omega, a2⟩⟩] at k
              exact ⟨fun _ => zX12_is_i9_82 ⟨zb1, k⟩, fun z => absurd (by decide) z⟩
            · rw [pI_f (fun z => a2 z.2)] at k
              exact ⟨fun _ => zX12_is_i9_82 ⟨zb0, k⟩, fun z => absurd rfl z⟩
          · intro s hs
            refine zX12_is_i9_39 ?_
            rcases hs with ⟨a1, a2⟩ | ⟨a1, a2⟩ <;> subst a1
            · refine ⟨fun z => absurd z (by decide), fun _ => sLen_19 ?_⟩
              first | with_reducible refine c_lt ?_ ?_ (fun y1 => ?_) (fun y1 => ?_) | with_reducible refine c_le ?_ ?_ (fun y1 => ?_) (fun y1 => ?_) | with_reducible refine c_eq ?_ ?_ (fun y1 => ?_) (fun y1 => ?_) | with_reducible refine c_ne ?_ ?_ (fun y1 => ?_) (fun y1 => ?_)
              · omega
              · omega
              · omega
              · have tr := tx_19 i hi
                have br := t5 (x.2.1 + i) (by omega)
                rw [t1]
                refine s_inE (x.2.1 + i) ?_ ?_ (fun ea => ?_)
                · omega
                · omega
                try simp only [ea]
                clear ea
                refine sChar_19 hi ?_
                first | with_reducible refine c_lt ?_ ?_ (fun y2 => ?_) (fun y2 => ?_) | with_reducible refine c_le ?_ ?_ (fun y2 => ?_) (fun y2 => ?_) | with_reducible refine c_eq ?_ ?_ (fun y2 => ?_) (fun y2 => ?_) | with_reducible refine c_ne ?_ ?_ (fun y2 => ?_) (fun y2 => ?_)
                · omega
                · omega
                · exact zX12_is_i9_75 (ih 0 (Or.inr ⟨rfl, fun z => y2 ((iff2.mp z).2 i hi)⟩))
                · refine zX12_is_i9_75 (ih 1 (Or.inl ⟨rfl, fun j hj => ?_⟩))
                  rcases Nat.lt_or_ge j i with y | y
                  · exact a2 j y
                  · rw [show j = i by omega]; exact y2
            · rw [pI_f (fun z => a2 z.2)] at k
              exact ⟨fun _ => zX12_is_i9_82 ⟨zb0, k⟩, fun z => absurd rfl z⟩
        exact main 0 (Nat.zero_le _) 1 (Or.inl ⟨rfl, fun j hj => by omega⟩)
theorem tw_20 : wds.getD 12 [] = mx_tx.getD 10 [] := by decide
theorem sIs_20 {T : Nat × (Nat → Int32)} {d : Nat} {Q : mz_K} {X : mz_X} {g : mz_S} {x : Int × Nat × Nat × Int} (hb : 0 ≤ g 99 32 ∧ g 99 32 ≤ 5) (h : g 99 32 = 0 → TokR g x) (k : Q (pI (g 99 32 = 0 ∧ x.1 = 140)) g) : zC T (d + 5) 247 [mx_R 99, mx_S 20] g Q X := by
  have no : ¬ (g 99 32 = 0 ∧ x.1 = 140) → aX12_is_i13 T (d + 4) Q X 35 [some (mx_R 99), some (mx_S 20), none, none] [] g (0, 0) := by
    intro z
    rw [pI_f z] at k
    refine zX12_is_i13_35 (zX12_is_i13_36 (zX12_is_i13_39 ⟨fun _ => zX12_is_i13_82 ⟨zb0, k⟩, fun z => absurd rfl z⟩))
  refine zX12_is_i13 ?_
  first | with_reducible refine c_lt ?_ ?_ (fun z1 => ?_) (fun z1 => ?_) | with_reducible refine c_le ?_ ?_ (fun z1 => ?_) (fun z1 => ?_) | with_reducible refine c_eq ?_ ?_ (fun z1 => ?_) (fun z1 => ?_) | with_reducible refine c_ne ?_ ?_ (fun z1 => ?_) (fun z1 => ?_)
  · omega
  · omega
  · exact no (fun z => z1 z.1)
  · obtain ⟨t1, t2, t3, t4, t5, t6⟩ := h z1
    have tr := tcl_rng x.1
    rw [t3]
    first | with_reducible refine c_lt ?_ ?_ (fun z2 => ?_) (fun z2 => ?_) | with_reducible refine c_le ?_ ?_ (fun z2 => ?_) (fun z2 => ?_) | with_reducible refine c_eq ?_ ?_ (fun z2 => ?_) (fun z2 => ?_) | with_reducible refine c_ne ?_ ?_ (fun z2 => ?_) (fun z2 => ?_)
    · omega
    · omega
    · exact no (fun z => z2 (by rw [z.2]; decide))
    · obtain ⟨w1, w2, w3⟩ := t6 (tcl_1 z2)
      refine sLen_20 ?_
      rw [t1, t2]
      have iff := wkL_iff (b := g 119) (q := x.2.1) (e := x.2.2.1) wds 128 12 (by decide) (by decide) (by decide)
      rw [← w1, tw_20] at iff
      have iff2 : x.1 = 140 ↔ wdE (g 119) x.2.1 x.2.2.1 (mx_tx.getD 10 []) = true := iff
      rw [wdE_iff] at iff2
      have hl : (mx_tx.getD 10 []).length = 3 := by decide
      rw [hl] at iff2
      first | with_reducible refine c_lt ?_ ?_ (fun z3 => ?_) (fun z3 => ?_) | with_reducible refine c_le ?_ ?_ (fun z3 => ?_) (fun z3 => ?_) | with_reducible refine c_eq ?_ ?_ (fun z3 => ?_) (fun z3 => ?_) | with_reducible refine c_ne ?_ ?_ (fun z3 => ?_) (fun z3 => ?_)
      · omega
      · omega
      · exact no (fun z => by have := iff2.mp z.2; omega)
      · refine zX12_is_i13_36 ?_
        have main : ∀ i : Nat, i ≤ 3 → ∀ s : Int, ((s = 1 ∧ ∀ j, j < i → g 119 (x.2.1 + j) = (mx_tx.getD 10 []).getD j 0) ∨ (s = 0 ∧ ¬ x.1 = 140)) → aX12_is_i13 T (d + 4) Q X 39 [some (mx_R 99), some (mx_S 20), some (mx_I s), some (mx_I (i : Int))] [] g (0, 0) := by
          refine upto (P := fun i : Nat => ∀ s : Int, ((s = 1 ∧ ∀ j, j < i → g 119 (x.2.1 + j) = (mx_tx.getD 10 []).getD j 0) ∨ (s = 0 ∧ ¬ x.1 = 140)) → aX12_is_i13 T (d + 4) Q X 39 [some (mx_R 99), some (mx_S 20), some (mx_I s), some (mx_I (i : Int))] [] g (0, 0)) ?_ (fun i hi ih => ?_)
          · intro s hs
            refine zX12_is_i13_39 ?_
            rcases hs with ⟨a1, a2⟩ | ⟨a1, a2⟩ <;> subst a1
            · refine ⟨fun z => absurd z (by decide), fun _ => sLen_20 ?_⟩
              rw [pI_t ⟨z1, iff2.mpr ⟨by omega, a2⟩⟩] at k
              exact ⟨fun _ => zX12_is_i13_82 ⟨zb1, k⟩, fun z => absurd (by decide) z⟩
            · rw [pI_f (fun z => a2 z.2)] at k
              exact ⟨fun _ => zX12_is_i13_82 ⟨zb0, k⟩, fun z => absurd rfl z⟩
          · intro s hs
            refine zX12_is_i13_39 ?_
            rcases hs with ⟨a1, a2⟩ | ⟨a1, a2⟩ <;> subst a1
            · refine ⟨fun z => absurd z (by decide), fun _ => sLen_20 ?_⟩
              first | with_reducible refine c_lt ?_ ?_ (fun y1 => ?_) (fun y1 => ?_) | with_reducible refine c_le ?_ ?_ (fun y1 => ?_) (fun y1 => ?_) | with_reducible refine c_eq ?_ ?_ (fun y1 => ?_) (fun y1 => ?_) | with_reducible refine c_ne ?_ ?_ (fun y1 => ?_) (fun y1 => ?_)
              · omega
              · omega
              · omega
              · have tr := tx_20 i hi
                have br := t5 (x.2.1 + i) (by omega)
                rw [t1]
                refine s_inE (x.2.1 + i) ?_ ?_ (fun ea => ?_)
                · omega
                · omega
                try simp only [ea]
                clear ea
                refine sChar_20 hi ?_
                first | with_reducible refine c_lt ?_ ?_ (fun y2 => ?_) (fun y2 => ?_) | with_reducible refine c_le ?_ ?_ (fun y2 => ?_) (fun y2 => ?_) | with_reducible refine c_eq ?_ ?_ (fun y2 => ?_) (fun y2 => ?_) | with_reducible refine c_ne ?_ ?_ (fun y2 => ?_) (fun y2 => ?_)
                · omega
                · omega
                · exact zX12_is_i13_75 (ih 0 (Or.inr ⟨rfl, fun z => y2 ((iff2.mp z).2 i hi)⟩))
                · refine zX12_is_i13_75 (ih 1 (Or.inl ⟨rfl, fun j hj => ?_⟩))
                  rcases Nat.lt_or_ge j i with y | y
                  · exact a2 j y
                  · rw [show j = i by omega]; exact y2
            · rw [pI_f (fun z => a2 z.2)] at k
              exact ⟨fun _ => zX12_is_i13_82 ⟨zb0, k⟩, fun z => absurd rfl z⟩
        exact main 0 (Nat.zero_le _) 1 (Or.inl ⟨rfl, fun j hj => by omega⟩)
theorem tw_21 : wds.getD 17 [] = mx_tx.getD 11 [] := by decide
theorem sIs_21 {T : Nat × (Nat → Int32)} {d : Nat} {Q : mz_K} {X : mz_X} {g : mz_S} {x : Int × Nat × Nat × Int} (hb : 0 ≤ g 99 32 ∧ g 99 32 ≤ 5) (h : g 99 32 = 0 → TokR g x) (k : Q (pI (g 99 32 = 0 ∧ x.1 = 145)) g) : zC T (d + 5) 247 [mx_R 99, mx_S 21] g Q X := by
  have no : ¬ (g 99 32 = 0 ∧ x.1 = 145) → aX12_is_i14 T (d + 4) Q X 35 [some (mx_R 99), some (mx_S 21), none, none] [] g (0, 0) := by
    intro z
    rw [pI_f z] at k
    refine zX12_is_i14_35 (zX12_is_i14_36 (zX12_is_i14_39 ⟨fun _ => zX12_is_i14_82 ⟨zb0, k⟩, fun z => absurd rfl z⟩))
  refine zX12_is_i14 ?_
  first | with_reducible refine c_lt ?_ ?_ (fun z1 => ?_) (fun z1 => ?_) | with_reducible refine c_le ?_ ?_ (fun z1 => ?_) (fun z1 => ?_) | with_reducible refine c_eq ?_ ?_ (fun z1 => ?_) (fun z1 => ?_) | with_reducible refine c_ne ?_ ?_ (fun z1 => ?_) (fun z1 => ?_)
  · omega
  · omega
  · exact no (fun z => z1 z.1)
  · obtain ⟨t1, t2, t3, t4, t5, t6⟩ := h z1
    have tr := tcl_rng x.1
    rw [t3]
    first | with_reducible refine c_lt ?_ ?_ (fun z2 => ?_) (fun z2 => ?_) | with_reducible refine c_le ?_ ?_ (fun z2 => ?_) (fun z2 => ?_) | with_reducible refine c_eq ?_ ?_ (fun z2 => ?_) (fun z2 => ?_) | with_reducible refine c_ne ?_ ?_ (fun z2 => ?_) (fun z2 => ?_)
    · omega
    · omega
    · exact no (fun z => z2 (by rw [z.2]; decide))
    · obtain ⟨w1, w2, w3⟩ := t6 (tcl_1 z2)
      refine sLen_21 ?_
      rw [t1, t2]
      have iff := wkL_iff (b := g 119) (q := x.2.1) (e := x.2.2.1) wds 128 17 (by decide) (by decide) (by decide)
      rw [← w1, tw_21] at iff
      have iff2 : x.1 = 145 ↔ wdE (g 119) x.2.1 x.2.2.1 (mx_tx.getD 11 []) = true := iff
      rw [wdE_iff] at iff2
      have hl : (mx_tx.getD 11 []).length = 4 := by decide
      rw [hl] at iff2
      first | with_reducible refine c_lt ?_ ?_ (fun z3 => ?_) (fun z3 => ?_) | with_reducible refine c_le ?_ ?_ (fun z3 => ?_) (fun z3 => ?_) | with_reducible refine c_eq ?_ ?_ (fun z3 => ?_) (fun z3 => ?_) | with_reducible refine c_ne ?_ ?_ (fun z3 => ?_) (fun z3 => ?_)
      · omega
      · omega
      · exact no (fun z => by have := iff2.mp z.2; omega)
      · refine zX12_is_i14_36 ?_
        have main : ∀ i : Nat, i ≤ 4 → ∀ s : Int, ((s = 1 ∧ ∀ j, j < i → g 119 (x.2.1 + j) = (mx_tx.getD 11 []).getD j 0) ∨ (s = 0 ∧ ¬ x.1 = 145)) → aX12_is_i14 T (d + 4) Q X 39 [some (mx_R 99), some (mx_S 21), some (mx_I s), some (mx_I (i : Int))] [] g (0, 0) := by
          refine upto (P := fun i : Nat => ∀ s : Int, ((s = 1 ∧ ∀ j, j < i → g 119 (x.2.1 + j) = (mx_tx.getD 11 []).getD j 0) ∨ (s = 0 ∧ ¬ x.1 = 145)) → aX12_is_i14 T (d + 4) Q X 39 [some (mx_R 99), some (mx_S 21), some (mx_I s), some (mx_I (i : Int))] [] g (0, 0)) ?_ (fun i hi ih => ?_)
          · intro s hs
            refine zX12_is_i14_39 ?_
            rcases hs with ⟨a1, a2⟩ | ⟨a1, a2⟩ <;> subst a1
            · refine ⟨fun z => absurd z (by decide), fun _ => sLen_21 ?_⟩
              rw [pI_t ⟨z1, iff2.mpr ⟨by omega, a2⟩⟩] at k
              exact ⟨fun _ => zX12_is_i14_82 ⟨zb1, k⟩, fun z => absurd (by decide) z⟩
            · rw [pI_f (fun z => a2 z.2)] at k
              exact ⟨fun _ => zX12_is_i14_82 ⟨zb0, k⟩, fun z => absurd rfl z⟩
          · intro s hs
            refine zX12_is_i14_39 ?_
            rcases hs with ⟨a1, a2⟩ | ⟨a1, a2⟩ <;> subst a1
            · refine ⟨fun z => absurd z (by decide), fun _ => sLen_21 ?_⟩
              first | with_reducible refine c_lt ?_ ?_ (fun y1 => ?_) (fun y1 => ?_) | with_reducible refine c_le ?_ ?_ (fun y1 => ?_) (fun y1 => ?_) | with_reducible refine c_eq ?_ ?_ (fun y1 => ?_) (fun y1 => ?_) | with_reducible refine c_ne ?_ ?_ (fun y1 => ?_) (fun y1 => ?_)
              · omega
              · omega
              · omega
              · have tr := tx_21 i hi
                have br := t5 (x.2.1 + i) (by omega)
                rw [t1]
                refine s_inE (x.2.1 + i) ?_ ?_ (fun ea => ?_)
                · omega
                · omega
                try simp only [ea]
                clear ea
                refine sChar_21 hi ?_
                first | with_reducible refine c_lt ?_ ?_ (fun y2 => ?_) (fun y2 => ?_) | with_reducible refine c_le ?_ ?_ (fun y2 => ?_) (fun y2 => ?_) | with_reducible refine c_eq ?_ ?_ (fun y2 => ?_) (fun y2 => ?_) | with_reducible refine c_ne ?_ ?_ (fun y2 => ?_) (fun y2 => ?_)
                · omega
                · omega
                · exact zX12_is_i14_75 (ih 0 (Or.inr ⟨rfl, fun z => y2 ((iff2.mp z).2 i hi)⟩))
                · refine zX12_is_i14_75 (ih 1 (Or.inl ⟨rfl, fun j hj => ?_⟩))
                  rcases Nat.lt_or_ge j i with y | y
                  · exact a2 j y
                  · rw [show j = i by omega]; exact y2
            · rw [pI_f (fun z => a2 z.2)] at k
              exact ⟨fun _ => zX12_is_i14_82 ⟨zb0, k⟩, fun z => absurd rfl z⟩
        exact main 0 (Nat.zero_le _) 1 (Or.inl ⟨rfl, fun j hj => by omega⟩)
theorem tw_22 : wds.getD 18 [] = mx_tx.getD 12 [] := by decide
theorem sIs_22 {T : Nat × (Nat → Int32)} {d : Nat} {Q : mz_K} {X : mz_X} {g : mz_S} {x : Int × Nat × Nat × Int} (hb : 0 ≤ g 99 32 ∧ g 99 32 ≤ 5) (h : g 99 32 = 0 → TokR g x) (k : Q (pI (g 99 32 = 0 ∧ x.1 = 146)) g) : zC T (d + 5) 247 [mx_R 99, mx_S 22] g Q X := by
  have no : ¬ (g 99 32 = 0 ∧ x.1 = 146) → aX12_is_i15 T (d + 4) Q X 35 [some (mx_R 99), some (mx_S 22), none, none] [] g (0, 0) := by
    intro z
    rw [pI_f z] at k
    refine zX12_is_i15_35 (zX12_is_i15_36 (zX12_is_i15_39 ⟨fun _ => zX12_is_i15_82 ⟨zb0, k⟩, fun z => absurd rfl z⟩))
  refine zX12_is_i15 ?_
  first | with_reducible refine c_lt ?_ ?_ (fun z1 => ?_) (fun z1 => ?_) | with_reducible refine c_le ?_ ?_ (fun z1 => ?_) (fun z1 => ?_) | with_reducible refine c_eq ?_ ?_ (fun z1 => ?_) (fun z1 => ?_) | with_reducible refine c_ne ?_ ?_ (fun z1 => ?_) (fun z1 => ?_)
  · omega
  · omega
  · exact no (fun z => z1 z.1)
  · obtain ⟨t1, t2, t3, t4, t5, t6⟩ := h z1
    have tr := tcl_rng x.1
    rw [t3]
    first | with_reducible refine c_lt ?_ ?_ (fun z2 => ?_) (fun z2 => ?_) | with_reducible refine c_le ?_ ?_ (fun z2 => ?_) (fun z2 => ?_) | with_reducible refine c_eq ?_ ?_ (fun z2 => ?_) (fun z2 => ?_) | with_reducible refine c_ne ?_ ?_ (fun z2 => ?_) (fun z2 => ?_)
    · omega
    · omega
    · exact no (fun z => z2 (by rw [z.2]; decide))
    · obtain ⟨w1, w2, w3⟩ := t6 (tcl_1 z2)
      refine sLen_22 ?_
      rw [t1, t2]
      have iff := wkL_iff (b := g 119) (q := x.2.1) (e := x.2.2.1) wds 128 18 (by decide) (by decide) (by decide)
      rw [← w1, tw_22] at iff
      have iff2 : x.1 = 146 ↔ wdE (g 119) x.2.1 x.2.2.1 (mx_tx.getD 12 []) = true := iff
      rw [wdE_iff] at iff2
      have hl : (mx_tx.getD 12 []).length = 3 := by decide
      rw [hl] at iff2
      first | with_reducible refine c_lt ?_ ?_ (fun z3 => ?_) (fun z3 => ?_) | with_reducible refine c_le ?_ ?_ (fun z3 => ?_) (fun z3 => ?_) | with_reducible refine c_eq ?_ ?_ (fun z3 => ?_) (fun z3 => ?_) | with_reducible refine c_ne ?_ ?_ (fun z3 => ?_) (fun z3 => ?_)
      · omega
      · omega
      · exact no (fun z => by have := iff2.mp z.2; omega)
      · refine zX12_is_i15_36 ?_
        have main : ∀ i : Nat, i ≤ 3 → ∀ s : Int, ((s = 1 ∧ ∀ j, j < i → g 119 (x.2.1 + j) = (mx_tx.getD 12 []).getD j 0) ∨ (s = 0 ∧ ¬ x.1 = 146)) → aX12_is_i15 T (d + 4) Q X 39 [some (mx_R 99), some (mx_S 22), some (mx_I s), some (mx_I (i : Int))] [] g (0, 0) := by
          refine upto (P := fun i : Nat => ∀ s : Int, ((s = 1 ∧ ∀ j, j < i → g 119 (x.2.1 + j) = (mx_tx.getD 12 []).getD j 0) ∨ (s = 0 ∧ ¬ x.1 = 146)) → aX12_is_i15 T (d + 4) Q X 39 [some (mx_R 99), some (mx_S 22), some (mx_I s), some (mx_I (i : Int))] [] g (0, 0)) ?_ (fun i hi ih => ?_)
          · intro s hs
            refine zX12_is_i15_39 ?_
            rcases hs with ⟨a1, a2⟩ | ⟨a1, a2⟩ <;> subst a1
            · refine ⟨fun z => absurd z (by decide), fun _ => sLen_22 ?_⟩
              rw [pI_t ⟨z1, iff2.mpr ⟨by omega, a2⟩⟩] at k
              exact ⟨fun _ => zX12_is_i15_82 ⟨zb1, k⟩, fun z => absurd (by decide) z⟩
            · rw [pI_f (fun z => a2 z.2)] at k
              exact ⟨fun _ => zX12_is_i15_82 ⟨zb0, k⟩, fun z => absurd rfl z⟩
          · intro s hs
            refine zX12_is_i15_39 ?_
            rcases hs with ⟨a1, a2⟩ | ⟨a1, a2⟩ <;> subst a1
            · refine ⟨fun z => absurd z (by decide), fun _ => sLen_22 ?_⟩
              first | with_reducible refine c_lt ?_ ?_ (fun y1 => ?_) (fun y1 => ?_) | with_reducible refine c_le ?_ ?_ (fun y1 => ?_) (fun y1 => ?_) | with_reducible refine c_eq ?_ ?_ (fun y1 => ?_) (fun y1 => ?_) | with_reducible refine c_ne ?_ ?_ (fun y1 => ?_) (fun y1 => ?_)
              · omega
              · omega
              · omega
              · have tr := tx_22 i hi
                have br := t5 (x.2.1 + i) (by omega)
                rw [t1]
                refine s_inE (x.2.1 + i) ?_ ?_ (fun ea => ?_)
                · omega
                · omega
                try simp only [ea]
                clear ea
                refine sChar_22 hi ?_
                first | with_reducible refine c_lt ?_ ?_ (fun y2 => ?_) (fun y2 => ?_) | with_reducible refine c_le ?_ ?_ (fun y2 => ?_) (fun y2 => ?_) | with_reducible refine c_eq ?_ ?_ (fun y2 => ?_) (fun y2 => ?_) | with_reducible refine c_ne ?_ ?_ (fun y2 => ?_) (fun y2 => ?_)
                · omega
                · omega
                · exact zX12_is_i15_75 (ih 0 (Or.inr ⟨rfl, fun z => y2 ((iff2.mp z).2 i hi)⟩))
                · refine zX12_is_i15_75 (ih 1 (Or.inl ⟨rfl, fun j hj => ?_⟩))
                  rcases Nat.lt_or_ge j i with y | y
                  · exact a2 j y
                  · rw [show j = i by omega]; exact y2
            · rw [pI_f (fun z => a2 z.2)] at k
              exact ⟨fun _ => zX12_is_i15_82 ⟨zb0, k⟩, fun z => absurd rfl z⟩
        exact main 0 (Nat.zero_le _) 1 (Or.inl ⟨rfl, fun j hj => by omega⟩)
theorem tw_23 : wds.getD 19 [] = mx_tx.getD 13 [] := by decide
theorem sIs_23 {T : Nat × (Nat → Int32)} {d : Nat} {Q : mz_K} {X : mz_X} {g : mz_S} {x : Int × Nat × Nat × Int} (hb : 0 ≤ g 99 32 ∧ g 99 32 ≤ 5) (h : g 99 32 = 0 → TokR g x) (k : Q (pI (g 99 32 = 0 ∧ x.1 = 147)) g) : zC T (d + 5) 247 [mx_R 99, mx_S 23] g Q X := by
  have no : ¬ (g 99 32 = 0 ∧ x.1 = 147) → aX12_is_i10 T (d + 4) Q X 35 [some (mx_R 99), some (mx_S 23), none, none] [] g (0, 0) := by
    intro z
    rw [pI_f z] at k
    refine zX12_is_i10_35 (zX12_is_i10_36 (zX12_is_i10_39 ⟨fun _ => zX12_is_i10_82 ⟨zb0, k⟩, fun z => absurd rfl z⟩))
  refine zX12_is_i10 ?_
  first | with_reducible refine c_lt ?_ ?_ (fun z1 => ?_) (fun z1 => ?_) | with_reducible refine c_le ?_ ?_ (fun z1 => ?_) (fun z1 => ?_) | with_reducible refine c_eq ?_ ?_ (fun z1 => ?_) (fun z1 => ?_) | with_reducible refine c_ne ?_ ?_ (fun z1 => ?_) (fun z1 => ?_)
  · omega
  · omega
  · exact no (fun z => z1 z.1)
  · obtain ⟨t1, t2, t3, t4, t5, t6⟩ := h z1
    have tr := tcl_rng x.1
    rw [t3]
    first | with_reducible refine c_lt ?_ ?_ (fun z2 => ?_) (fun z2 => ?_) | with_reducible refine c_le ?_ ?_ (fun z2 => ?_) (fun z2 => ?_) | with_reducible refine c_eq ?_ ?_ (fun z2 => ?_) (fun z2 => ?_) | with_reducible refine c_ne ?_ ?_ (fun z2 => ?_) (fun z2 => ?_)
    · omega
    · omega
    · exact no (fun z => z2 (by rw [z.2]; decide))
    · obtain ⟨w1, w2, w3⟩ := t6 (tcl_1 z2)
      refine sLen_23 ?_
      rw [t1, t2]
      have iff := wkL_iff (b := g 119) (q := x.2.1) (e := x.2.2.1) wds 128 19 (by decide) (by decide) (by decide)
      rw [← w1, tw_23] at iff
      have iff2 : x.1 = 147 ↔ wdE (g 119) x.2.1 x.2.2.1 (mx_tx.getD 13 []) = true := iff
      rw [wdE_iff] at iff2
      have hl : (mx_tx.getD 13 []).length = 6 := by decide
      rw [hl] at iff2
      first | with_reducible refine c_lt ?_ ?_ (fun z3 => ?_) (fun z3 => ?_) | with_reducible refine c_le ?_ ?_ (fun z3 => ?_) (fun z3 => ?_) | with_reducible refine c_eq ?_ ?_ (fun z3 => ?_) (fun z3 => ?_) | with_reducible refine c_ne ?_ ?_ (fun z3 => ?_) (fun z3 => ?_)
      · omega
      · omega
      · exact no (fun z => by have := iff2.mp z.2; omega)
      · refine zX12_is_i10_36 ?_
        have main : ∀ i : Nat, i ≤ 6 → ∀ s : Int, ((s = 1 ∧ ∀ j, j < i → g 119 (x.2.1 + j) = (mx_tx.getD 13 []).getD j 0) ∨ (s = 0 ∧ ¬ x.1 = 147)) → aX12_is_i10 T (d + 4) Q X 39 [some (mx_R 99), some (mx_S 23), some (mx_I s), some (mx_I (i : Int))] [] g (0, 0) := by
          refine upto (P := fun i : Nat => ∀ s : Int, ((s = 1 ∧ ∀ j, j < i → g 119 (x.2.1 + j) = (mx_tx.getD 13 []).getD j 0) ∨ (s = 0 ∧ ¬ x.1 = 147)) → aX12_is_i10 T (d + 4) Q X 39 [some (mx_R 99), some (mx_S 23), some (mx_I s), some (mx_I (i : Int))] [] g (0, 0)) ?_ (fun i hi ih => ?_)
          · intro s hs
            refine zX12_is_i10_39 ?_
            rcases hs with ⟨a1, a2⟩ | ⟨a1, a2⟩ <;> subst a1
            · refine ⟨fun z => absurd z (by decide), fun _ => sLen_23 ?_⟩
              rw [pI_t ⟨z1, iff2.mpr ⟨by omega, a2⟩⟩] at k
              exact ⟨fun _ => zX12_is_i10_82 ⟨zb1, k⟩, fun z => absurd (by decide) z⟩
            · rw [pI_f (fun z => a2 z.2)] at k
              exact ⟨fun _ => zX12_is_i10_82 ⟨zb0, k⟩, fun z => absurd rfl z⟩
          · intro s hs
            refine zX12_is_i10_39 ?_
            rcases hs with ⟨a1, a2⟩ | ⟨a1, a2⟩ <;> subst a1
            · refine ⟨fun z => absurd z (by decide), fun _ => sLen_23 ?_⟩
              first | with_reducible refine c_lt ?_ ?_ (fun y1 => ?_) (fun y1 => ?_) | with_reducible refine c_le ?_ ?_ (fun y1 => ?_) (fun y1 => ?_) | with_reducible refine c_eq ?_ ?_ (fun y1 => ?_) (fun y1 => ?_) | with_reducible refine c_ne ?_ ?_ (fun y1 => ?_) (fun y1 => ?_)
              · omega
              · omega
              · omega
              · have tr := tx_23 i hi
                have br := t5 (x.2.1 + i) (by omega)
                rw [t1]
                refine s_inE (x.2.1 + i) ?_ ?_ (fun ea => ?_)
                · omega
                · omega
                try simp only [ea]
                clear ea
                refine sChar_23 hi ?_
                first | with_reducible refine c_lt ?_ ?_ (fun y2 => ?_) (fun y2 => ?_) | with_reducible refine c_le ?_ ?_ (fun y2 => ?_) (fun y2 => ?_) | with_reducible refine c_eq ?_ ?_ (fun y2 => ?_) (fun y2 => ?_) | with_reducible refine c_ne ?_ ?_ (fun y2 => ?_) (fun y2 => ?_)
                · omega
                · omega
                · exact zX12_is_i10_75 (ih 0 (Or.inr ⟨rfl, fun z => y2 ((iff2.mp z).2 i hi)⟩))
                · refine zX12_is_i10_75 (ih 1 (Or.inl ⟨rfl, fun j hj => ?_⟩))
                  rcases Nat.lt_or_ge j i with y | y
                  · exact a2 j y
                  · rw [show j = i by omega]; exact y2
            · rw [pI_f (fun z => a2 z.2)] at k
              exact ⟨fun _ => zX12_is_i10_82 ⟨zb0, k⟩, fun z => absurd rfl z⟩
        exact main 0 (Nat.zero_le _) 1 (Or.inl ⟨rfl, fun j hj => by omega⟩)
theorem tw_24 : wds.getD 20 [] = mx_tx.getD 14 [] := by decide
theorem sIs_24 {T : Nat × (Nat → Int32)} {d : Nat} {Q : mz_K} {X : mz_X} {g : mz_S} {x : Int × Nat × Nat × Int} (hb : 0 ≤ g 99 32 ∧ g 99 32 ≤ 5) (h : g 99 32 = 0 → TokR g x) (k : Q (pI (g 99 32 = 0 ∧ x.1 = 148)) g) : zC T (d + 5) 247 [mx_R 99, mx_S 24] g Q X := by
  have no : ¬ (g 99 32 = 0 ∧ x.1 = 148) → aX12_is_i11 T (d + 4) Q X 35 [some (mx_R 99), some (mx_S 24), none, none] [] g (0, 0) := by
    intro z
    rw [pI_f z] at k
    refine zX12_is_i11_35 (zX12_is_i11_36 (zX12_is_i11_39 ⟨fun _ => zX12_is_i11_82 ⟨zb0, k⟩, fun z => absurd rfl z⟩))
  refine zX12_is_i11 ?_
  first | with_reducible refine c_lt ?_ ?_ (fun z1 => ?_) (fun z1 => ?_) | with_reducible refine c_le ?_ ?_ (fun z1 => ?_) (fun z1 => ?_) | with_reducible refine c_eq ?_ ?_ (fun z1 => ?_) (fun z1 => ?_) | with_reducible refine c_ne ?_ ?_ (fun z1 => ?_) (fun z1 => ?_)
  · omega
  · omega
  · exact no (fun z => z1 z.1)
  · obtain ⟨t1, t2, t3, t4, t5, t6⟩ := h z1
    have tr := tcl_rng x.1
    rw [t3]
    first | with_reducible refine c_lt ?_ ?_ (fun z2 => ?_) (fun z2 => ?_) | with_reducible refine c_le ?_ ?_ (fun z2 => ?_) (fun z2 => ?_) | with_reducible refine c_eq ?_ ?_ (fun z2 => ?_) (fun z2 => ?_) | with_reducible refine c_ne ?_ ?_ (fun z2 => ?_) (fun z2 => ?_)
    · omega
    · omega
    · exact no (fun z => z2 (by rw [z.2]; decide))
    · obtain ⟨w1, w2, w3⟩ := t6 (tcl_1 z2)
      refine sLen_24 ?_
      rw [t1, t2]
      have iff := wkL_iff (b := g 119) (q := x.2.1) (e := x.2.2.1) wds 128 20 (by decide) (by decide) (by decide)
      rw [← w1, tw_24] at iff
      have iff2 : x.1 = 148 ↔ wdE (g 119) x.2.1 x.2.2.1 (mx_tx.getD 14 []) = true := iff
      rw [wdE_iff] at iff2
      have hl : (mx_tx.getD 14 []).length = 5 := by decide
      rw [hl] at iff2
      first | with_reducible refine c_lt ?_ ?_ (fun z3 => ?_) (fun z3 => ?_) | with_reducible refine c_le ?_ ?_ (fun z3 => ?_) (fun z3 => ?_) | with_reducible refine c_eq ?_ ?_ (fun z3 => ?_) (fun z3 => ?_) | with_reducible refine c_ne ?_ ?_ (fun z3 => ?_) (fun z3 => ?_)
      · omega
      · omega
      · exact no (fun z => by have := iff2.mp z.2; omega)
      · refine zX12_is_i11_36 ?_
        have main : ∀ i : Nat, i ≤ 5 → ∀ s : Int, ((s = 1 ∧ ∀ j, j < i → g 119 (x.2.1 + j) = (mx_tx.getD 14 []).getD j 0) ∨ (s = 0 ∧ ¬ x.1 = 148)) → aX12_is_i11 T (d + 4) Q X 39 [some (mx_R 99), some (mx_S 24), some (mx_I s), some (mx_I (i : Int))] [] g (0, 0) := by
          refine upto (P := fun i : Nat => ∀ s : Int, ((s = 1 ∧ ∀ j, j < i → g 119 (x.2.1 + j) = (mx_tx.getD 14 []).getD j 0) ∨ (s = 0 ∧ ¬ x.1 = 148)) → aX12_is_i11 T (d + 4) Q X 39 [some (mx_R 99), some (mx_S 24), some (mx_I s), some (mx_I (i : Int))] [] g (0, 0)) ?_ (fun i hi ih => ?_)
          · intro s hs
            refine zX12_is_i11_39 ?_
            rcases hs with ⟨a1, a2⟩ | ⟨a1, a2⟩ <;> subst a1
            · refine ⟨fun z => absurd z (by decide), fun _ => sLen_24 ?_⟩
              rw [pI_t ⟨z1, iff2.mpr ⟨by omega, a2⟩⟩] at k
              exact ⟨fun _ => zX12_is_i11_82 ⟨zb1, k⟩, fun z => absurd (by decide) z⟩
            · rw [pI_f (fun z => a2 z.2)] at k
              exact ⟨fun _ => zX12_is_i11_82 ⟨zb0, k⟩, fun z => absurd rfl z⟩
          · intro s hs
            refine zX12_is_i11_39 ?_
            rcases hs with ⟨a1, a2⟩ | ⟨a1, a2⟩ <;> subst a1
            · refine ⟨fun z => absurd z (by decide), fun _ => sLen_24 ?_⟩
              first | with_reducible refine c_lt ?_ ?_ (fun y1 => ?_) (fun y1 => ?_) | with_reducible refine c_le ?_ ?_ (fun y1 => ?_) (fun y1 => ?_) | with_reducible refine c_eq ?_ ?_ (fun y1 => ?_) (fun y1 => ?_) | with_reducible refine c_ne ?_ ?_ (fun y1 => ?_) (fun y1 => ?_)
              · omega
              · omega
              · omega
              · have tr := tx_24 i hi
                have br := t5 (x.2.1 + i) (by omega)
                rw [t1]
                refine s_inE (x.2.1 + i) ?_ ?_ (fun ea => ?_)
                · omega
                · omega
                try simp only [ea]
                clear ea
                refine sChar_24 hi ?_
                first | with_reducible refine c_lt ?_ ?_ (fun y2 => ?_) (fun y2 => ?_) | with_reducible refine c_le ?_ ?_ (fun y2 => ?_) (fun y2 => ?_) | with_reducible refine c_eq ?_ ?_ (fun y2 => ?_) (fun y2 => ?_) | with_reducible refine c_ne ?_ ?_ (fun y2 => ?_) (fun y2 => ?_)
                · omega
                · omega
                · exact zX12_is_i11_75 (ih 0 (Or.inr ⟨rfl, fun z => y2 ((iff2.mp z).2 i hi)⟩))
                · refine zX12_is_i11_75 (ih 1 (Or.inl ⟨rfl, fun j hj => ?_⟩))
                  rcases Nat.lt_or_ge j i with y | y
                  · exact a2 j y
                  · rw [show j = i by omega]; exact y2
            · rw [pI_f (fun z => a2 z.2)] at k
              exact ⟨fun _ => zX12_is_i11_82 ⟨zb0, k⟩, fun z => absurd rfl z⟩
        exact main 0 (Nat.zero_le _) 1 (Or.inl ⟨rfl, fun j hj => by omega⟩)
theorem tw_25 : wds.getD 8 [] = mx_tx.getD 15 [] := by decide
theorem sIs_25 {T : Nat × (Nat → Int32)} {d : Nat} {Q : mz_K} {X : mz_X} {g : mz_S} {x : Int × Nat × Nat × Int} (hb : 0 ≤ g 99 32 ∧ g 99 32 ≤ 5) (h : g 99 32 = 0 → TokR g x) (k : Q (pI (g 99 32 = 0 ∧ x.1 = 136)) g) : zC T (d + 5) 247 [mx_R 99, mx_S 25] g Q X := by
  have no : ¬ (g 99 32 = 0 ∧ x.1 = 136) → aX12_is_i18 T (d + 4) Q X 35 [some (mx_R 99), some (mx_S 25), none, none] [] g (0, 0) := by
    intro z
    rw [pI_f z] at k
    refine zX12_is_i18_35 (zX12_is_i18_36 (zX12_is_i18_39 ⟨fun _ => zX12_is_i18_82 ⟨zb0, k⟩, fun z => absurd rfl z⟩))
  refine zX12_is_i18 ?_
  first | with_reducible refine c_lt ?_ ?_ (fun z1 => ?_) (fun z1 => ?_) | with_reducible refine c_le ?_ ?_ (fun z1 => ?_) (fun z1 => ?_) | with_reducible refine c_eq ?_ ?_ (fun z1 => ?_) (fun z1 => ?_) | with_reducible refine c_ne ?_ ?_ (fun z1 => ?_) (fun z1 => ?_)
  · omega
  · omega
  · exact no (fun z => z1 z.1)
  · obtain ⟨t1, t2, t3, t4, t5, t6⟩ := h z1
    have tr := tcl_rng x.1
    rw [t3]
    first | with_reducible refine c_lt ?_ ?_ (fun z2 => ?_) (fun z2 => ?_) | with_reducible refine c_le ?_ ?_ (fun z2 => ?_) (fun z2 => ?_) | with_reducible refine c_eq ?_ ?_ (fun z2 => ?_) (fun z2 => ?_) | with_reducible refine c_ne ?_ ?_ (fun z2 => ?_) (fun z2 => ?_)
    · omega
    · omega
    · exact no (fun z => z2 (by rw [z.2]; decide))
    · obtain ⟨w1, w2, w3⟩ := t6 (tcl_1 z2)
      refine sLen_25 ?_
      rw [t1, t2]
      have iff := wkL_iff (b := g 119) (q := x.2.1) (e := x.2.2.1) wds 128 8 (by decide) (by decide) (by decide)
      rw [← w1, tw_25] at iff
      have iff2 : x.1 = 136 ↔ wdE (g 119) x.2.1 x.2.2.1 (mx_tx.getD 15 []) = true := iff
      rw [wdE_iff] at iff2
      have hl : (mx_tx.getD 15 []).length = 1 := by decide
      rw [hl] at iff2
      first | with_reducible refine c_lt ?_ ?_ (fun z3 => ?_) (fun z3 => ?_) | with_reducible refine c_le ?_ ?_ (fun z3 => ?_) (fun z3 => ?_) | with_reducible refine c_eq ?_ ?_ (fun z3 => ?_) (fun z3 => ?_) | with_reducible refine c_ne ?_ ?_ (fun z3 => ?_) (fun z3 => ?_)
      · omega
      · omega
      · exact no (fun z => by have := iff2.mp z.2; omega)
      · refine zX12_is_i18_36 ?_
        have main : ∀ i : Nat, i ≤ 1 → ∀ s : Int, ((s = 1 ∧ ∀ j, j < i → g 119 (x.2.1 + j) = (mx_tx.getD 15 []).getD j 0) ∨ (s = 0 ∧ ¬ x.1 = 136)) → aX12_is_i18 T (d + 4) Q X 39 [some (mx_R 99), some (mx_S 25), some (mx_I s), some (mx_I (i : Int))] [] g (0, 0) := by
          refine upto (P := fun i : Nat => ∀ s : Int, ((s = 1 ∧ ∀ j, j < i → g 119 (x.2.1 + j) = (mx_tx.getD 15 []).getD j 0) ∨ (s = 0 ∧ ¬ x.1 = 136)) → aX12_is_i18 T (d + 4) Q X 39 [some (mx_R 99), some (mx_S 25), some (mx_I s), some (mx_I (i : Int))] [] g (0, 0)) ?_ (fun i hi ih => ?_)
          · intro s hs
            refine zX12_is_i18_39 ?_
            rcases hs with ⟨a1, a2⟩ | ⟨a1, a2⟩ <;> subst a1
            · refine ⟨fun z => absurd z (by decide), fun _ => sLen_25 ?_⟩
              rw [pI_t ⟨z1, iff2.mpr ⟨by omega, a2⟩⟩] at k
              exact ⟨fun _ => zX12_is_i18_82 ⟨zb1, k⟩, fun z => absurd (by decide) z⟩
            · rw [pI_f (fun z => a2 z.2)] at k
              exact ⟨fun _ => zX12_is_i18_82 ⟨zb0, k⟩, fun z => absurd rfl z⟩
          · intro s hs
            refine zX12_is_i18_39 ?_
            rcases hs with ⟨a1, a2⟩ | ⟨a1, a2⟩ <;> subst a1
            · refine ⟨fun z => absurd z (by decide), fun _ => sLen_25 ?_⟩
              first | with_reducible refine c_lt ?_ ?_ (fun y1 => ?_) (fun y1 => ?_) | with_reducible refine c_le ?_ ?_ (fun y1 => ?_) (fun y1 => ?_) | with_reducible refine c_eq ?_ ?_ (fun y1 => ?_) (fun y1 => ?_) | with_reducible refine c_ne ?_ ?_ (fun y1 => ?_) (fun y1 => ?_)
              · omega
              · omega
              · omega
              · have tr := tx_25 i hi
                have br := t5 (x.2.1 + i) (by omega)
                rw [t1]
                refine s_inE (x.2.1 + i) ?_ ?_ (fun ea => ?_)
                · omega
                · omega
                try simp only [ea]
                clear ea
                refine sChar_25 hi ?_
                first | with_reducible refine c_lt ?_ ?_ (fun y2 => ?_) (fun y2 => ?_) | with_reducible refine c_le ?_ ?_ (fun y2 => ?_) (fun y2 => ?_) | with_reducible refine c_eq ?_ ?_ (fun y2 => ?_) (fun y2 => ?_) | with_reducible refine c_ne ?_ ?_ (fun y2 => ?_) (fun y2 => ?_)
                · omega
                · omega
                · exact zX12_is_i18_75 (ih 0 (Or.inr ⟨rfl, fun z => y2 ((iff2.mp z).2 i hi)⟩))
                · refine zX12_is_i18_75 (ih 1 (Or.inl ⟨rfl, fun j hj => ?_⟩))
                  rcases Nat.lt_or_ge j i with y | y
                  · exact a2 j y
                  · rw [show j = i by omega]; exact y2
            · rw [pI_f (fun z => a2 z.2)] at k
              exact ⟨fun _ => zX12_is_i18_82 ⟨zb0, k⟩, fun z => absurd rfl z⟩
        exact main 0 (Nat.zero_le _) 1 (Or.inl ⟨rfl, fun j hj => by omega⟩)
theorem tw_26 : wds.getD 9 [] = mx_tx.getD 16 [] := by decide
theorem sIs_26 {T : Nat × (Nat → Int32)} {d : Nat} {Q : mz_K} {X : mz_X} {g : mz_S} {x : Int × Nat × Nat × Int} (hb : 0 ≤ g 99 32 ∧ g 99 32 ≤ 5) (h : g 99 32 = 0 → TokR g x) (k : Q (pI (g 99 32 = 0 ∧ x.1 = 137)) g) : zC T (d + 5) 247 [mx_R 99, mx_S 26] g Q X := by
  have no : ¬ (g 99 32 = 0 ∧ x.1 = 137) → aX12_is_i19 T (d + 4) Q X 35 [some (mx_R 99), some (mx_S 26), none, none] [] g (0, 0) := by
    intro z
    rw [pI_f z] at k
    refine zX12_is_i19_35 (zX12_is_i19_36 (zX12_is_i19_39 ⟨fun _ => zX12_is_i19_82 ⟨zb0, k⟩, fun z => absurd rfl z⟩))
  refine zX12_is_i19 ?_
  first | with_reducible refine c_lt ?_ ?_ (fun z1 => ?_) (fun z1 => ?_) | with_reducible refine c_le ?_ ?_ (fun z1 => ?_) (fun z1 => ?_) | with_reducible refine c_eq ?_ ?_ (fun z1 => ?_) (fun z1 => ?_) | with_reducible refine c_ne ?_ ?_ (fun z1 => ?_) (fun z1 => ?_)
  · omega
  · omega
  · exact no (fun z => z1 z.1)
  · obtain ⟨t1, t2, t3, t4, t5, t6⟩ := h z1
    have tr := tcl_rng x.1
    rw [t3]
    first | with_reducible refine c_lt ?_ ?_ (fun z2 => ?_) (fun z2 => ?_) | with_reducible refine c_le ?_ ?_ (fun z2 => ?_) (fun z2 => ?_) | with_reducible refine c_eq ?_ ?_ (fun z2 => ?_) (fun z2 => ?_) | with_reducible refine c_ne ?_ ?_ (fun z2 => ?_) (fun z2 => ?_)
    · omega
    · omega
    · exact no (fun z => z2 (by rw [z.2]; decide))
    · obtain ⟨w1, w2, w3⟩ := t6 (tcl_1 z2)
      refine sLen_26 ?_
      rw [t1, t2]
      have iff := wkL_iff (b := g 119) (q := x.2.1) (e := x.2.2.1) wds 128 9 (by decide) (by decide) (by decide)
      rw [← w1, tw_26] at iff
      have iff2 : x.1 = 137 ↔ wdE (g 119) x.2.1 x.2.2.1 (mx_tx.getD 16 []) = true := iff
      rw [wdE_iff] at iff2
      have hl : (mx_tx.getD 16 []).length = 4 := by decide
      rw [hl] at iff2
      first | with_reducible refine c_lt ?_ ?_ (fun z3 => ?_) (fun z3 => ?_) | with_reducible refine c_le ?_ ?_ (fun z3 => ?_) (fun z3 => ?_) | with_reducible refine c_eq ?_ ?_ (fun z3 => ?_) (fun z3 => ?_) | with_reducible refine c_ne ?_ ?_ (fun z3 => ?_) (fun z3 => ?_)
      · omega
      · omega
      · exact no (fun z => by have := iff2.mp z.2; omega)
      · refine zX12_is_i19_36 ?_
        have main : ∀ i : Nat, i ≤ 4 → ∀ s : Int, ((s = 1 ∧ ∀ j, j < i → g 119 (x.2.1 + j) = (mx_tx.getD 16 []).getD j 0) ∨ (s = 0 ∧ ¬ x.1 = 137)) → aX12_is_i19 T (d + 4) Q X 39 [some (mx_R 99), some (mx_S 26), some (mx_I s), some (mx_I (i : Int))] [] g (0, 0) := by
          refine upto (P := fun i : Nat => ∀ s : Int, ((s = 1 ∧ ∀ j, j < i → g 119 (x.2.1 + j) = (mx_tx.getD 16 []).getD j 0) ∨ (s = 0 ∧ ¬ x.1 = 137)) → aX12_is_i19 T (d + 4) Q X 39 [some (mx_R 99), some (mx_S 26), some (mx_I s), some (mx_I (i : Int))] [] g (0, 0)) ?_ (fun i hi ih => ?_)
          · intro s hs
            refine zX12_is_i19_39 ?_
            rcases hs with ⟨a1, a2⟩ | ⟨a1, a2⟩ <;> subst a1
            · refine ⟨fun z => absurd z (by decide), fun _ => sLen_26 ?_⟩
              rw [pI_t ⟨z1, iff2.mpr ⟨by omega, a2⟩⟩] at k
              exact ⟨fun _ => zX12_is_i19_82 ⟨zb1, k⟩, fun z => absurd (by decide) z⟩
            · rw [pI_f (fun z => a2 z.2)] at k
              exact ⟨fun _ => zX12_is_i19_82 ⟨zb0, k⟩, fun z => absurd rfl z⟩
          · intro s hs
            refine zX12_is_i19_39 ?_
            rcases hs with ⟨a1, a2⟩ | ⟨a1, a2⟩ <;> subst a1
            · refine ⟨fun z => absurd z (by decide), fun _ => sLen_26 ?_⟩
              first | with_reducible refine c_lt ?_ ?_ (fun y1 => ?_) (fun y1 => ?_) | with_reducible refine c_le ?_ ?_ (fun y1 => ?_) (fun y1 => ?_) | with_reducible refine c_eq ?_ ?_ (fun y1 => ?_) (fun y1 => ?_) | with_reducible refine c_ne ?_ ?_ (fun y1 => ?_) (fun y1 => ?_)
              · omega
              · omega
              · omega
              · have tr := tx_26 i hi
                have br := t5 (x.2.1 + i) (by omega)
                rw [t1]
                refine s_inE (x.2.1 + i) ?_ ?_ (fun ea => ?_)
                · omega
                · omega
                try simp only [ea]
                clear ea
                refine sChar_26 hi ?_
                first | with_reducible refine c_lt ?_ ?_ (fun y2 => ?_) (fun y2 => ?_) | with_reducible refine c_le ?_ ?_ (fun y2 => ?_) (fun y2 => ?_) | with_reducible refine c_eq ?_ ?_ (fun y2 => ?_) (fun y2 => ?_) | with_reducible refine c_ne ?_ ?_ (fun y2 => ?_) (fun y2 => ?_)
                · omega
                · omega
                · exact zX12_is_i19_75 (ih 0 (Or.inr ⟨rfl, fun z => y2 ((iff2.mp z).2 i hi)⟩))
                · refine zX12_is_i19_75 (ih 1 (Or.inl ⟨rfl, fun j hj => ?_⟩))
                  rcases Nat.lt_or_ge j i with y | y
                  · exact a2 j y
                  · rw [show j = i by omega]; exact y2
            · rw [pI_f (fun z => a2 z.2)] at k
              exact ⟨fun _ => zX12_is_i19_82 ⟨zb0, k⟩, fun z => absurd rfl z⟩
        exact main 0 (Nat.zero_le _) 1 (Or.inl ⟨rfl, fun j hj => by omega⟩)
theorem tw_27 : wds.getD 10 [] = mx_tx.getD 17 [] := by decide
theorem sIs_27 {T : Nat × (Nat → Int32)} {d : Nat} {Q : mz_K} {X : mz_X} {g : mz_S} {x : Int × Nat × Nat × Int} (hb : 0 ≤ g 99 32 ∧ g 99 32 ≤ 5) (h : g 99 32 = 0 → TokR g x) (k : Q (pI (g 99 32 = 0 ∧ x.1 = 138)) g) : zC T (d + 5) 247 [mx_R 99, mx_S 27] g Q X := by
  have no : ¬ (g 99 32 = 0 ∧ x.1 = 138) → aX12_is_i20 T (d + 4) Q X 35 [some (mx_R 99), some (mx_S 27), none, none] [] g (0, 0) := by
    intro z
    rw [pI_f z] at k
    refine zX12_is_i20_35 (zX12_is_i20_36 (zX12_is_i20_39 ⟨fun _ => zX12_is_i20_82 ⟨zb0, k⟩, fun z => absurd rfl z⟩))
  refine zX12_is_i20 ?_
  first | with_reducible refine c_lt ?_ ?_ (fun z1 => ?_) (fun z1 => ?_) | with_reducible refine c_le ?_ ?_ (fun z1 => ?_) (fun z1 => ?_) | with_reducible refine c_eq ?_ ?_ (fun z1 => ?_) (fun z1 => ?_) | with_reducible refine c_ne ?_ ?_ (fun z1 => ?_) (fun z1 => ?_)
  · omega
  · omega
  · exact no (fun z => z1 z.1)
  · obtain ⟨t1, t2, t3, t4, t5, t6⟩ := h z1
    have tr := tcl_rng x.1
    rw [t3]
    first | with_reducible refine c_lt ?_ ?_ (fun z2 => ?_) (fun z2 => ?_) | with_reducible refine c_le ?_ ?_ (fun z2 => ?_) (fun z2 => ?_) | with_reducible refine c_eq ?_ ?_ (fun z2 => ?_) (fun z2 => ?_) | with_reducible refine c_ne ?_ ?_ (fun z2 => ?_) (fun z2 => ?_)
    · omega
    · omega
    · exact no (fun z => z2 (by rw [z.2]; decide))
    · obtain ⟨w1, w2, w3⟩ := t6 (tcl_1 z2)
      refine sLen_27 ?_
      rw [t1, t2]
      have iff := wkL_iff (b := g 119) (q := x.2.1) (e := x.2.2.1) wds 128 10 (by decide) (by decide) (by decide)
      rw [← w1, tw_27] at iff
      have iff2 : x.1 = 138 ↔ wdE (g 119) x.2.1 x.2.2.1 (mx_tx.getD 17 []) = true := iff
      rw [wdE_iff] at iff2
      have hl : (mx_tx.getD 17 []).length = 3 := by decide
      rw [hl] at iff2
      first | with_reducible refine c_lt ?_ ?_ (fun z3 => ?_) (fun z3 => ?_) | with_reducible refine c_le ?_ ?_ (fun z3 => ?_) (fun z3 => ?_) | with_reducible refine c_eq ?_ ?_ (fun z3 => ?_) (fun z3 => ?_) | with_reducible refine c_ne ?_ ?_ (fun z3 => ?_) (fun z3 => ?_)
      · omega
      · omega
      · exact no (fun z => by have := iff2.mp z.2; omega)
      · refine zX12_is_i20_36 ?_
        have main : ∀ i : Nat, i ≤ 3 → ∀ s : Int, ((s = 1 ∧ ∀ j, j < i → g 119 (x.2.1 + j) = (mx_tx.getD 17 []).getD j 0) ∨ (s = 0 ∧ ¬ x.1 = 138)) → aX12_is_i20 T (d + 4) Q X 39 [some (mx_R 99), some (mx_S 27), some (mx_I s), some (mx_I (i : Int))] [] g (0, 0) := by
          refine upto (P := fun i : Nat => ∀ s : Int, ((s = 1 ∧ ∀ j, j < i → g 119 (x.2.1 + j) = (mx_tx.getD 17 []).getD j 0) ∨ (s = 0 ∧ ¬ x.1 = 138)) → aX12_is_i20 T (d + 4) Q X 39 [some (mx_R 99), some (mx_S 27), some (mx_I s), some (mx_I (i : Int))] [] g (0, 0)) ?_ (fun i hi ih => ?_)
          · intro s hs
            refine zX12_is_i20_39 ?_
            rcases hs with ⟨a1, a2⟩ | ⟨a1, a2⟩ <;> subst a1
            · refine ⟨fun z => absurd z (by decide), fun _ => sLen_27 ?_⟩
              rw [pI_t ⟨z1, iff2.mpr ⟨by omega, a2⟩⟩] at k
              exact ⟨fun _ => zX12_is_i20_82 ⟨zb1, k⟩, fun z => absurd (by decide) z⟩
            · rw [pI_f (fun z => a2 z.2)] at k
              exact ⟨fun _ => zX12_is_i20_82 ⟨zb0, k⟩, fun z => absurd rfl z⟩
          · intro s hs
            refine zX12_is_i20_39 ?_
            rcases hs with ⟨a1, a2⟩ | ⟨a1, a2⟩ <;> subst a1
            · refine ⟨fun z => absurd z (by decide), fun _ => sLen_27 ?_⟩
              first | with_reducible refine c_lt ?_ ?_ (fun y1 => ?_) (fun y1 => ?_) | with_reducible refine c_le ?_ ?_ (fun y1 => ?_) (fun y1 => ?_) | with_reducible refine c_eq ?_ ?_ (fun y1 => ?_) (fun y1 => ?_) | with_reducible refine c_ne ?_ ?_ (fun y1 => ?_) (fun y1 => ?_)
              · omega
              · omega
              · omega
              · have tr := tx_27 i hi
                have br := t5 (x.2.1 + i) (by omega)
                rw [t1]
                refine s_inE (x.2.1 + i) ?_ ?_ (fun ea => ?_)
                · omega
                · omega
                try simp only [ea]
                clear ea
                refine sChar_27 hi ?_
                first | with_reducible refine c_lt ?_ ?_ (fun y2 => ?_) (fun y2 => ?_) | with_reducible refine c_le ?_ ?_ (fun y2 => ?_) (fun y2 => ?_) | with_reducible refine c_eq ?_ ?_ (fun y2 => ?_) (fun y2 => ?_) | with_reducible refine c_ne ?_ ?_ (fun y2 => ?_) (fun y2 => ?_)
                · omega
                · omega
                · exact zX12_is_i20_75 (ih 0 (Or.inr ⟨rfl, fun z => y2 ((iff2.mp z).2 i hi)⟩))
                · refine zX12_is_i20_75 (ih 1 (Or.inl ⟨rfl, fun j hj => ?_⟩))
                  rcases Nat.lt_or_ge j i with y | y
                  · exact a2 j y
                  · rw [show j = i by omega]; exact y2
            · rw [pI_f (fun z => a2 z.2)] at k
              exact ⟨fun _ => zX12_is_i20_82 ⟨zb0, k⟩, fun z => absurd rfl z⟩
        exact main 0 (Nat.zero_le _) 1 (Or.inl ⟨rfl, fun j hj => by omega⟩)
theorem tw_28 : wds.getD 11 [] = mx_tx.getD 18 [] := by decide
theorem sIs_28 {T : Nat × (Nat → Int32)} {d : Nat} {Q : mz_K} {X : mz_X} {g : mz_S} {x : Int × Nat × Nat × Int} (hb : 0 ≤ g 99 32 ∧ g 99 32 ≤ 5) (h : g 99 32 = 0 → TokR g x) (k : Q (pI (g 99 32 = 0 ∧ x.1 = 139)) g) : zC T (d + 5) 247 [mx_R 99, mx_S 28] g Q X := by
  have no : ¬ (g 99 32 = 0 ∧ x.1 = 139) → aX12_is_i21 T (d + 4) Q X 35 [some (mx_R 99), some (mx_S 28), none, none] [] g (0, 0) := by
    intro z
    rw [pI_f z] at k
    refine zX12_is_i21_35 (zX12_is_i21_36 (zX12_is_i21_39 ⟨fun _ => zX12_is_i21_82 ⟨zb0, k⟩, fun z => absurd rfl z⟩))
  refine zX12_is_i21 ?_
  first | with_reducible refine c_lt ?_ ?_ (fun z1 => ?_) (fun z1 => ?_) | with_reducible refine c_le ?_ ?_ (fun z1 => ?_) (fun z1 => ?_) | with_reducible refine c_eq ?_ ?_ (fun z1 => ?_) (fun z1 => ?_) | with_reducible refine c_ne ?_ ?_ (fun z1 => ?_) (fun z1 => ?_)
  · omega
  · omega
  · exact no (fun z => z1 z.1)
  · obtain ⟨t1, t2, t3, t4, t5, t6⟩ := h z1
    have tr := tcl_rng x.1
    rw [t3]
    first | with_reducible refine c_lt ?_ ?_ (fun z2 => ?_) (fun z2 => ?_) | with_reducible refine c_le ?_ ?_ (fun z2 => ?_) (fun z2 => ?_) | with_reducible refine c_eq ?_ ?_ (fun z2 => ?_) (fun z2 => ?_) | with_reducible refine c_ne ?_ ?_ (fun z2 => ?_) (fun z2 => ?_)
    · omega
    · omega
    · exact no (fun z => z2 (by rw [z.2]; decide))
    · obtain ⟨w1, w2, w3⟩ := t6 (tcl_1 z2)
      refine sLen_28 ?_
      rw [t1, t2]
      have iff := wkL_iff (b := g 119) (q := x.2.1) (e := x.2.2.1) wds 128 11 (by decide) (by decide) (by decide)
      rw [← w1, tw_28] at iff
      have iff2 : x.1 = 139 ↔ wdE (g 119) x.2.1 x.2.2.1 (mx_tx.getD 18 []) = true := iff
      rw [wdE_iff] at iff2
      have hl : (mx_tx.getD 18 []).length = 7 := by decide
      rw [hl] at iff2
      first | with_reducible refine c_lt ?_ ?_ (fun z3 => ?_) (fun z3 => ?_) | with_reducible refine c_le ?_ ?_ (fun z3 => ?_) (fun z3 => ?_) | with_reducible refine c_eq ?_ ?_ (fun z3 => ?_) (fun z3 => ?_) | with_reducible refine c_ne ?_ ?_ (fun z3 => ?_) (fun z3 => ?_)
      · omega
      · omega
      · exact no (fun z => by have := iff2.mp z.2; omega)
      · refine zX12_is_i21_36 ?_
        have main : ∀ i : Nat, i ≤ 7 → ∀ s : Int, ((s = 1 ∧ ∀ j, j < i → g 119 (x.2.1 + j) = (mx_tx.getD 18 []).getD j 0) ∨ (s = 0 ∧ ¬ x.1 = 139)) → aX12_is_i21 T (d + 4) Q X 39 [some (mx_R 99), some (mx_S 28), some (mx_I s), some (mx_I (i : Int))] [] g (0, 0) := by
          refine upto (P := fun i : Nat => ∀ s : Int, ((s = 1 ∧ ∀ j, j < i → g 119 (x.2.1 + j) = (mx_tx.getD 18 []).getD j 0) ∨ (s = 0 ∧ ¬ x.1 = 139)) → aX12_is_i21 T (d + 4) Q X 39 [some (mx_R 99), some (mx_S 28), some (mx_I s), some (mx_I (i : Int))] [] g (0, 0)) ?_ (fun i hi ih => ?_)
          · intro s hs
            refine zX12_is_i21_39 ?_
            rcases hs with ⟨a1, a2⟩ | ⟨a1, a2⟩ <;> subst a1
            · refine ⟨fun z => absurd z (by decide), fun _ => sLen_28 ?_⟩
              rw [pI_t ⟨z1, iff2.mpr ⟨by omega, a2⟩⟩] at k
              exact ⟨fun _ => zX12_is_i21_82 ⟨zb1, k⟩, fun z => absurd (by decide) z⟩
            · rw [pI_f (fun z => a2 z.2)] at k
              exact ⟨fun _ => zX12_is_i21_82 ⟨zb0, k⟩, fun z => absurd rfl z⟩
          · intro s hs
            refine zX12_is_i21_39 ?_
            rcases hs with ⟨a1, a2⟩ | ⟨a1, a2⟩ <;> subst a1
            · refine ⟨fun z => absurd z (by decide), fun _ => sLen_28 ?_⟩
              first | with_reducible refine c_lt ?_ ?_ (fun y1 => ?_) (fun y1 => ?_) | with_reducible refine c_le ?_ ?_ (fun y1 => ?_) (fun y1 => ?_) | with_reducible refine c_eq ?_ ?_ (fun y1 => ?_) (fun y1 => ?_) | with_reducible refine c_ne ?_ ?_ (fun y1 => ?_) (fun y1 => ?_)
              · omega
              · omega
              · omega
              · have tr := tx_28 i hi
                have br := t5 (x.2.1 + i) (by omega)
                rw [t1]
                refine s_inE (x.2.1 + i) ?_ ?_ (fun ea => ?_)
                · omega
                · omega
                try simp only [ea]
                clear ea
                refine sChar_28 hi ?_
                first | with_reducible refine c_lt ?_ ?_ (fun y2 => ?_) (fun y2 => ?_) | with_reducible refine c_le ?_ ?_ (fun y2 => ?_) (fun y2 => ?_) | with_reducible refine c_eq ?_ ?_ (fun y2 => ?_) (fun y2 => ?_) | with_reducible refine c_ne ?_ ?_ (fun y2 => ?_) (fun y2 => ?_)
                · omega
                · omega
                · exact zX12_is_i21_75 (ih 0 (Or.inr ⟨rfl, fun z => y2 ((iff2.mp z).2 i hi)⟩))
                · refine zX12_is_i21_75 (ih 1 (Or.inl ⟨rfl, fun j hj => ?_⟩))
                  rcases Nat.lt_or_ge j i with y | y
                  · exact a2 j y
                  · rw [show j = i by omega]; exact y2
            · rw [pI_f (fun z => a2 z.2)] at k
              exact ⟨fun _ => zX12_is_i21_82 ⟨zb0, k⟩, fun z => absurd rfl z⟩
        exact main 0 (Nat.zero_le _) 1 (Or.inl ⟨rfl, fun j hj => by omega⟩)
theorem tw_29 : wds.getD 13 [] = mx_tx.getD 19 [] := by decide
theorem sIs_29 {T : Nat × (Nat → Int32)} {d : Nat} {Q : mz_K} {X : mz_X} {g : mz_S} {x : Int × Nat × Nat × Int} (hb : 0 ≤ g 99 32 ∧ g 99 32 ≤ 5) (h : g 99 32 = 0 → TokR g x) (k : Q (pI (g 99 32 = 0 ∧ x.1 = 141)) g) : zC T (d + 5) 247 [mx_R 99, mx_S 29] g Q X := by
  have no : ¬ (g 99 32 = 0 ∧ x.1 = 141) → aX12_is_i22 T (d + 4) Q X 35 [some (mx_R 99), some (mx_S 29), none, none] [] g (0, 0) := by
    intro z
    rw [pI_f z] at k
    refine zX12_is_i22_35 (zX12_is_i22_36 (zX12_is_i22_39 ⟨fun _ => zX12_is_i22_82 ⟨zb0, k⟩, fun z => absurd rfl z⟩))
  refine zX12_is_i22 ?_
  first | with_reducible refine c_lt ?_ ?_ (fun z1 => ?_) (fun z1 => ?_) | with_reducible refine c_le ?_ ?_ (fun z1 => ?_) (fun z1 => ?_) | with_reducible refine c_eq ?_ ?_ (fun z1 => ?_) (fun z1 => ?_) | with_reducible refine c_ne ?_ ?_ (fun z1 => ?_) (fun z1 => ?_)
  · omega
  · omega
  · exact no (fun z => z1 z.1)
  · obtain ⟨t1, t2, t3, t4, t5, t6⟩ := h z1
    have tr := tcl_rng x.1
    rw [t3]
    first | with_reducible refine c_lt ?_ ?_ (fun z2 => ?_) (fun z2 => ?_) | with_reducible refine c_le ?_ ?_ (fun z2 => ?_) (fun z2 => ?_) | with_reducible refine c_eq ?_ ?_ (fun z2 => ?_) (fun z2 => ?_) | with_reducible refine c_ne ?_ ?_ (fun z2 => ?_) (fun z2 => ?_)
    · omega
    · omega
    · exact no (fun z => z2 (by rw [z.2]; decide))
    · obtain ⟨w1, w2, w3⟩ := t6 (tcl_1 z2)
      refine sLen_29 ?_
      rw [t1, t2]
      have iff := wkL_iff (b := g 119) (q := x.2.1) (e := x.2.2.1) wds 128 13 (by decide) (by decide) (by decide)
      rw [← w1, tw_29] at iff
      have iff2 : x.1 = 141 ↔ wdE (g 119) x.2.1 x.2.2.1 (mx_tx.getD 19 []) = true := iff
      rw [wdE_iff] at iff2
      have hl : (mx_tx.getD 19 []).length = 3 := by decide
      rw [hl] at iff2
      first | with_reducible refine c_lt ?_ ?_ (fun z3 => ?_) (fun z3 => ?_) | with_reducible refine c_le ?_ ?_ (fun z3 => ?_) (fun z3 => ?_) | with_reducible refine c_eq ?_ ?_ (fun z3 => ?_) (fun z3 => ?_) | with_reducible refine c_ne ?_ ?_ (fun z3 => ?_) (fun z3 => ?_)
      · omega
      · omega
      · exact no (fun z => by have := iff2.mp z.2; omega)
      · refine zX12_is_i22_36 ?_
        have main : ∀ i : Nat, i ≤ 3 → ∀ s : Int, ((s = 1 ∧ ∀ j, j < i → g 119 (x.2.1 + j) = (mx_tx.getD 19 []).getD j 0) ∨ (s = 0 ∧ ¬ x.1 = 141)) → aX12_is_i22 T (d + 4) Q X 39 [some (mx_R 99), some (mx_S 29), some (mx_I s), some (mx_I (i : Int))] [] g (0, 0) := by
          refine upto (P := fun i : Nat => ∀ s : Int, ((s = 1 ∧ ∀ j, j < i → g 119 (x.2.1 + j) = (mx_tx.getD 19 []).getD j 0) ∨ (s = 0 ∧ ¬ x.1 = 141)) → aX12_is_i22 T (d + 4) Q X 39 [some (mx_R 99), some (mx_S 29), some (mx_I s), some (mx_I (i : Int))] [] g (0, 0)) ?_ (fun i hi ih => ?_)
          · intro s hs
            refine zX12_is_i22_39 ?_
            rcases hs with ⟨a1, a2⟩ | ⟨a1, a2⟩ <;> subst a1
            · refine ⟨fun z => absurd z (by decide), fun _ => sLen_29 ?_⟩
              rw [pI_t ⟨z1, iff2.mpr ⟨by omega, a2⟩⟩] at k
              exact ⟨fun _ => zX12_is_i22_82 ⟨zb1, k⟩, fun z => absurd (by decide) z⟩
            · rw [pI_f (fun z => a2 z.2)] at k
              exact ⟨fun _ => zX12_is_i22_82 ⟨zb0, k⟩, fun z => absurd rfl z⟩
          · intro s hs
            refine zX12_is_i22_39 ?_
            rcases hs with ⟨a1, a2⟩ | ⟨a1, a2⟩ <;> subst a1
            · refine ⟨fun z => absurd z (by decide), fun _ => sLen_29 ?_⟩
              first | with_reducible refine c_lt ?_ ?_ (fun y1 => ?_) (fun y1 => ?_) | with_reducible refine c_le ?_ ?_ (fun y1 => ?_) (fun y1 => ?_) | with_reducible refine c_eq ?_ ?_ (fun y1 => ?_) (fun y1 => ?_) | with_reducible refine c_ne ?_ ?_ (fun y1 => ?_) (fun y1 => ?_)
              · omega
              · omega
              · omega
              · have tr := tx_29 i hi
                have br := t5 (x.2.1 + i) (by omega)
                rw [t1]
                refine s_inE (x.2.1 + i) ?_ ?_ (fun ea => ?_)
                · omega
                · omega
                try simp only [ea]
                clear ea
                refine sChar_29 hi ?_
                first | with_reducible refine c_lt ?_ ?_ (fun y2 => ?_) (fun y2 => ?_) | with_reducible refine c_le ?_ ?_ (fun y2 => ?_) (fun y2 => ?_) | with_reducible refine c_eq ?_ ?_ (fun y2 => ?_) (fun y2 => ?_) | with_reducible refine c_ne ?_ ?_ (fun y2 => ?_) (fun y2 => ?_)
                · omega
                · omega
                · exact zX12_is_i22_75 (ih 0 (Or.inr ⟨rfl, fun z => y2 ((iff2.mp z).2 i hi)⟩))
                · refine zX12_is_i22_75 (ih 1 (Or.inl ⟨rfl, fun j hj => ?_⟩))
                  rcases Nat.lt_or_ge j i with y | y
                  · exact a2 j y
                  · rw [show j = i by omega]; exact y2
            · rw [pI_f (fun z => a2 z.2)] at k
              exact ⟨fun _ => zX12_is_i22_82 ⟨zb0, k⟩, fun z => absurd rfl z⟩
        exact main 0 (Nat.zero_le _) 1 (Or.inl ⟨rfl, fun j hj => by omega⟩)
theorem tw_30 : wds.getD 14 [] = mx_tx.getD 20 [] := by decide
theorem sIs_30 {T : Nat × (Nat → Int32)} {d : Nat} {Q : mz_K} {X : mz_X} {g : mz_S} {x : Int × Nat × Nat × Int} (hb : 0 ≤ g 99 32 ∧ g 99 32 ≤ 5) (h : g 99 32 = 0 → TokR g x) (k : Q (pI (g 99 32 = 0 ∧ x.1 = 142)) g) : zC T (d + 5) 247 [mx_R 99, mx_S 30] g Q X := by
  have no : ¬ (g 99 32 = 0 ∧ x.1 = 142) → aX12_is_i23 T (d + 4) Q X 35 [some (mx_R 99), some (mx_S 30), none, none] [] g (0, 0) := by
    intro z
    rw [pI_f z] at k
    refine zX12_is_i23_35 (zX12_is_i23_36 (zX12_is_i23_39 ⟨fun _ => zX12_is_i23_82 ⟨zb0, k⟩, fun z => absurd rfl z⟩))
  refine zX12_is_i23 ?_
  first | with_reducible refine c_lt ?_ ?_ (fun z1 => ?_) (fun z1 => ?_) | with_reducible refine c_le ?_ ?_ (fun z1 => ?_) (fun z1 => ?_) | with_reducible refine c_eq ?_ ?_ (fun z1 => ?_) (fun z1 => ?_) | with_reducible refine c_ne ?_ ?_ (fun z1 => ?_) (fun z1 => ?_)
  · omega
  · omega
  · exact no (fun z => z1 z.1)
  · obtain ⟨t1, t2, t3, t4, t5, t6⟩ := h z1
    have tr := tcl_rng x.1
    rw [t3]
    first | with_reducible refine c_lt ?_ ?_ (fun z2 => ?_) (fun z2 => ?_) | with_reducible refine c_le ?_ ?_ (fun z2 => ?_) (fun z2 => ?_) | with_reducible refine c_eq ?_ ?_ (fun z2 => ?_) (fun z2 => ?_) | with_reducible refine c_ne ?_ ?_ (fun z2 => ?_) (fun z2 => ?_)
    · omega
    · omega
    · exact no (fun z => z2 (by rw [z.2]; decide))
    · obtain ⟨w1, w2, w3⟩ := t6 (tcl_1 z2)
      refine sLen_30 ?_
      rw [t1, t2]
      have iff := wkL_iff (b := g 119) (q := x.2.1) (e := x.2.2.1) wds 128 14 (by decide) (by decide) (by decide)
      rw [← w1, tw_30] at iff
      have iff2 : x.1 = 142 ↔ wdE (g 119) x.2.1 x.2.2.1 (mx_tx.getD 20 []) = true := iff
      rw [wdE_iff] at iff2
      have hl : (mx_tx.getD 20 []).length = 4 := by decide
      rw [hl] at iff2
      first | with_reducible refine c_lt ?_ ?_ (fun z3 => ?_) (fun z3 => ?_) | with_reducible refine c_le ?_ ?_ (fun z3 => ?_) (fun z3 => ?_) | with_reducible refine c_eq ?_ ?_ (fun z3 => ?_) (fun z3 => ?_) | with_reducible refine c_ne ?_ ?_ (fun z3 => ?_) (fun z3 => ?_)
      · omega
      · omega
      · exact no (fun z => by have := iff2.mp z.2; omega)
      · refine zX12_is_i23_36 ?_
        have main : ∀ i : Nat, i ≤ 4 → ∀ s : Int, ((s = 1 ∧ ∀ j, j < i → g 119 (x.2.1 + j) = (mx_tx.getD 20 []).getD j 0) ∨ (s = 0 ∧ ¬ x.1 = 142)) → aX12_is_i23 T (d + 4) Q X 39 [some (mx_R 99), some (mx_S 30), some (mx_I s), some (mx_I (i : Int))] [] g (0, 0) := by
          refine upto (P := fun i : Nat => ∀ s : Int, ((s = 1 ∧ ∀ j, j < i → g 119 (x.2.1 + j) = (mx_tx.getD 20 []).getD j 0) ∨ (s = 0 ∧ ¬ x.1 = 142)) → aX12_is_i23 T (d + 4) Q X 39 [some (mx_R 99), some (mx_S 30), some (mx_I s), some (mx_I (i : Int))] [] g (0, 0)) ?_ (fun i hi ih => ?_)
          · intro s hs
            refine zX12_is_i23_39 ?_
            rcases hs with ⟨a1, a2⟩ | ⟨a1, a2⟩ <;> subst a1
            · refine ⟨fun z => absurd z (by decide), fun _ => sLen_30 ?_⟩
              rw [pI_t ⟨z1, iff2.mpr ⟨by omega, a2⟩⟩] at k
              exact ⟨fun _ => zX12_is_i23_82 ⟨zb1, k⟩, fun z => absurd (by decide) z⟩
            · rw [pI_f (fun z => a2 z.2)] at k
              exact ⟨fun _ => zX12_is_i23_82 ⟨zb0, k⟩, fun z => absurd rfl z⟩
          · intro s hs
            refine zX12_is_i23_39 ?_
            rcases hs with ⟨a1, a2⟩ | ⟨a1, a2⟩ <;> subst a1
            · refine ⟨fun z => absurd z (by decide), fun _ => sLen_30 ?_⟩
              first | with_reducible refine c_lt ?_ ?_ (fun y1 => ?_) (fun y1 => ?_) | with_reducible refine c_le ?_ ?_ (fun y1 => ?_) (fun y1 => ?_) | with_reducible refine c_eq ?_ ?_ (fun y1 => ?_) (fun y1 => ?_) | with_reducible refine c_ne ?_ ?_ (fun y1 => ?_) (fun y1 => ?_)
              · omega
              · omega
              · omega
              · have tr := tx_30 i hi
                have br := t5 (x.2.1 + i) (by omega)
                rw [t1]
                refine s_inE (x.2.1 + i) ?_ ?_ (fun ea => ?_)
                · omega
                · omega
                try simp only [ea]
                clear ea
                refine sChar_30 hi ?_
                first | with_reducible refine c_lt ?_ ?_ (fun y2 => ?_) (fun y2 => ?_) | with_reducible refine c_le ?_ ?_ (fun y2 => ?_) (fun y2 => ?_) | with_reducible refine c_eq ?_ ?_ (fun y2 => ?_) (fun y2 => ?_) | with_reducible refine c_ne ?_ ?_ (fun y2 => ?_) (fun y2 => ?_)
                · omega
                · omega
                · exact zX12_is_i23_75 (ih 0 (Or.inr ⟨rfl, fun z => y2 ((iff2.mp z).2 i hi)⟩))
                · refine zX12_is_i23_75 (ih 1 (Or.inl ⟨rfl, fun j hj => ?_⟩))
                  rcases Nat.lt_or_ge j i with y | y
                  · exact a2 j y
                  · rw [show j = i by omega]; exact y2
            · rw [pI_f (fun z => a2 z.2)] at k
              exact ⟨fun _ => zX12_is_i23_82 ⟨zb0, k⟩, fun z => absurd rfl z⟩
        exact main 0 (Nat.zero_le _) 1 (Or.inl ⟨rfl, fun j hj => by omega⟩)
theorem tw_31 : wds.getD 15 [] = mx_tx.getD 21 [] := by decide
theorem sIs_31 {T : Nat × (Nat → Int32)} {d : Nat} {Q : mz_K} {X : mz_X} {g : mz_S} {x : Int × Nat × Nat × Int} (hb : 0 ≤ g 99 32 ∧ g 99 32 ≤ 5) (h : g 99 32 = 0 → TokR g x) (k : Q (pI (g 99 32 = 0 ∧ x.1 = 143)) g) : zC T (d + 5) 247 [mx_R 99, mx_S 31] g Q X := by
  have no : ¬ (g 99 32 = 0 ∧ x.1 = 143) → aX12_is_i24 T (d + 4) Q X 35 [some (mx_R 99), some (mx_S 31), none, none] [] g (0, 0) := by
    intro z
    rw [pI_f z] at k
    refine zX12_is_i24_35 (zX12_is_i24_36 (zX12_is_i24_39 ⟨fun _ => zX12_is_i24_82 ⟨zb0, k⟩, fun z => absurd rfl z⟩))
  refine zX12_is_i24 ?_
  first | with_reducible refine c_lt ?_ ?_ (fun z1 => ?_) (fun z1 => ?_) | with_reducible refine c_le ?_ ?_ (fun z1 => ?_) (fun z1 => ?_) | with_reducible refine c_eq ?_ ?_ (fun z1 => ?_) (fun z1 => ?_) | with_reducible refine c_ne ?_ ?_ (fun z1 => ?_) (fun z1 => ?_)
  · omega
  · omega
  · exact no (fun z => z1 z.1)
  · obtain ⟨t1, t2, t3, t4, t5, t6⟩ := h z1
    have tr := tcl_rng x.1
    rw [t3]
    first | with_reducible refine c_lt ?_ ?_ (fun z2 => ?_) (fun z2 => ?_) | with_reducible refine c_le ?_ ?_ (fun z2 => ?_) (fun z2 => ?_) | with_reducible refine c_eq ?_ ?_ (fun z2 => ?_) (fun z2 => ?_) | with_reducible refine c_ne ?_ ?_ (fun z2 => ?_) (fun z2 => ?_)
    · omega
    · omega
    · exact no (fun z => z2 (by rw [z.2]; decide))
    · obtain ⟨w1, w2, w3⟩ := t6 (tcl_1 z2)
      refine sLen_31 ?_
      rw [t1, t2]
      have iff := wkL_iff (b := g 119) (q := x.2.1) (e := x.2.2.1) wds 128 15 (by decide) (by decide) (by decide)
      rw [← w1, tw_31] at iff
      have iff2 : x.1 = 143 ↔ wdE (g 119) x.2.1 x.2.2.1 (mx_tx.getD 21 []) = true := iff
      rw [wdE_iff] at iff2
      have hl : (mx_tx.getD 21 []).length = 4 := by decide
      rw [hl] at iff2
      first | with_reducible refine c_lt ?_ ?_ (fun z3 => ?_) (fun z3 => ?_) | with_reducible refine c_le ?_ ?_ (fun z3 => ?_) (fun z3 => ?_) | with_reducible refine c_eq ?_ ?_ (fun z3 => ?_) (fun z3 => ?_) | with_reducible refine c_ne ?_ ?_ (fun z3 => ?_) (fun z3 => ?_)
      · omega
      · omega
      · exact no (fun z => by have := iff2.mp z.2; omega)
      · refine zX12_is_i24_36 ?_
        have main : ∀ i : Nat, i ≤ 4 → ∀ s : Int, ((s = 1 ∧ ∀ j, j < i → g 119 (x.2.1 + j) = (mx_tx.getD 21 []).getD j 0) ∨ (s = 0 ∧ ¬ x.1 = 143)) → aX12_is_i24 T (d + 4) Q X 39 [some (mx_R 99), some (mx_S 31), some (mx_I s), some (mx_I (i : Int))] [] g (0, 0) := by
          refine upto (P := fun i : Nat => ∀ s : Int, ((s = 1 ∧ ∀ j, j < i → g 119 (x.2.1 + j) = (mx_tx.getD 21 []).getD j 0) ∨ (s = 0 ∧ ¬ x.1 = 143)) → aX12_is_i24 T (d + 4) Q X 39 [some (mx_R 99), some (mx_S 31), some (mx_I s), some (mx_I (i : Int))] [] g (0, 0)) ?_ (fun i hi ih => ?_)
          · intro s hs
            refine zX12_is_i24_39 ?_
            rcases hs with ⟨a1, a2⟩ | ⟨a1, a2⟩ <;> subst a1
            · refine ⟨fun z => absurd z (by decide), fun _ => sLen_31 ?_⟩
              rw [pI_t ⟨z1, iff2.mpr ⟨by omega, a2⟩⟩] at k
              exact ⟨fun _ => zX12_is_i24_82 ⟨zb1, k⟩, fun z => absurd (by decide) z⟩
            · rw [pI_f (fun z => a2 z.2)] at k
              exact ⟨fun _ => zX12_is_i24_82 ⟨zb0, k⟩, fun z => absurd rfl z⟩
          · intro s hs
            refine zX12_is_i24_39 ?_
            rcases hs with ⟨a1, a2⟩ | ⟨a1, a2⟩ <;> subst a1
            · refine ⟨fun z => absurd z (by decide), fun _ => sLen_31 ?_⟩
              first | with_reducible refine c_lt ?_ ?_ (fun y1 => ?_) (fun y1 => ?_) | with_reducible refine c_le ?_ ?_ (fun y1 => ?_) (fun y1 => ?_) | with_reducible refine c_eq ?_ ?_ (fun y1 => ?_) (fun y1 => ?_) | with_reducible refine c_ne ?_ ?_ (fun y1 => ?_) (fun y1 => ?_)
              · omega
              · omega
              · omega
              · have tr := tx_31 i hi
                have br := t5 (x.2.1 + i) (by omega)
                rw [t1]
                refine s_inE (x.2.1 + i) ?_ ?_ (fun ea => ?_)
                · omega
                · omega
                try simp only [ea]
                clear ea
                refine sChar_31 hi ?_
                first | with_reducible refine c_lt ?_ ?_ (fun y2 => ?_) (fun y2 => ?_) | with_reducible refine c_le ?_ ?_ (fun y2 => ?_) (fun y2 => ?_) | with_reducible refine c_eq ?_ ?_ (fun y2 => ?_) (fun y2 => ?_) | with_reducible refine c_ne ?_ ?_ (fun y2 => ?_) (fun y2 => ?_)
                · omega
                · omega
                · exact zX12_is_i24_75 (ih 0 (Or.inr ⟨rfl, fun z => y2 ((iff2.mp z).2 i hi)⟩))
                · refine zX12_is_i24_75 (ih 1 (Or.inl ⟨rfl, fun j hj => ?_⟩))
                  rcases Nat.lt_or_ge j i with y | y
                  · exact a2 j y
                  · rw [show j = i by omega]; exact y2
            · rw [pI_f (fun z => a2 z.2)] at k
              exact ⟨fun _ => zX12_is_i24_82 ⟨zb0, k⟩, fun z => absurd rfl z⟩
        exact main 0 (Nat.zero_le _) 1 (Or.inl ⟨rfl, fun j hj => by omega⟩)
theorem tw_32 : wds.getD 16 [] = mx_tx.getD 22 [] := by decide
theorem sIs_32 {T : Nat × (Nat → Int32)} {d : Nat} {Q : mz_K} {X : mz_X} {g : mz_S} {x : Int × Nat × Nat × Int} (hb : 0 ≤ g 99 32 ∧ g 99 32 ≤ 5) (h : g 99 32 = 0 → TokR g x) (k : Q (pI (g 99 32 = 0 ∧ x.1 = 144)) g) : zC T (d + 5) 247 [mx_R 99, mx_S 32] g Q X := by
  have no : ¬ (g 99 32 = 0 ∧ x.1 = 144) → aX12_is_i25 T (d + 4) Q X 35 [some (mx_R 99), some (mx_S 32), none, none] [] g (0, 0) := by
    intro z
    rw [pI_f z] at k
    refine zX12_is_i25_35 (zX12_is_i25_36 (zX12_is_i25_39 ⟨fun _ => zX12_is_i25_82 ⟨zb0, k⟩, fun z => absurd rfl z⟩))
  refine zX12_is_i25 ?_
  first | with_reducible refine c_lt ?_ ?_ (fun z1 => ?_) (fun z1 => ?_) | with_reducible refine c_le ?_ ?_ (fun z1 => ?_) (fun z1 => ?_) | with_reducible refine c_eq ?_ ?_ (fun z1 => ?_) (fun z1 => ?_) | with_reducible refine c_ne ?_ ?_ (fun z1 => ?_) (fun z1 => ?_)
  · omega
  · omega
  · exact no (fun z => z1 z.1)
  · obtain ⟨t1, t2, t3, t4, t5, t6⟩ := h z1
    have tr := tcl_rng x.1
    rw [t3]
    first | with_reducible refine c_lt ?_ ?_ (fun z2 => ?_) (fun z2 => ?_) | with_reducible refine c_le ?_ ?_ (fun z2 => ?_) (fun z2 => ?_) | with_reducible refine c_eq ?_ ?_ (fun z2 => ?_) (fun z2 => ?_) | with_reducible refine c_ne ?_ ?_ (fun z2 => ?_) (fun z2 => ?_)
    · omega
    · omega
    · exact no (fun z => z2 (by rw [z.2]; decide))
    · obtain ⟨w1, w2, w3⟩ := t6 (tcl_1 z2)
      refine sLen_32 ?_
      rw [t1, t2]
      have iff := wkL_iff (b := g 119) (q := x.2.1) (e := x.2.2.1) wds 128 16 (by decide) (by decide) (by decide)
      rw [← w1, tw_32] at iff
      have iff2 : x.1 = 144 ↔ wdE (g 119) x.2.1 x.2.2.1 (mx_tx.getD 22 []) = true := iff
      rw [wdE_iff] at iff2
      have hl : (mx_tx.getD 22 []).length = 2 := by decide
      rw [hl] at iff2
      first | with_reducible refine c_lt ?_ ?_ (fun z3 => ?_) (fun z3 => ?_) | with_reducible refine c_le ?_ ?_ (fun z3 => ?_) (fun z3 => ?_) | with_reducible refine c_eq ?_ ?_ (fun z3 => ?_) (fun z3 => ?_) | with_reducible refine c_ne ?_ ?_ (fun z3 => ?_) (fun z3 => ?_)
      · omega
      · omega
      · exact no (fun z => by have := iff2.mp z.2; omega)
      · refine zX12_is_i25_36 ?_
        have main : ∀ i : Nat, i ≤ 2 → ∀ s : Int, ((s = 1 ∧ ∀ j, j < i → g 119 (x.2.1 + j) = (mx_tx.getD 22 []).getD j 0) ∨ (s = 0 ∧ ¬ x.1 = 144)) → aX12_is_i25 T (d + 4) Q X 39 [some (mx_R 99), some (mx_S 32), some (mx_I s), some (mx_I (i : Int))] [] g (0, 0) := by
          refine upto (P := fun i : Nat => ∀ s : Int, ((s = 1 ∧ ∀ j, j < i → g 119 (x.2.1 + j) = (mx_tx.getD 22 []).getD j 0) ∨ (s = 0 ∧ ¬ x.1 = 144)) → aX12_is_i25 T (d + 4) Q X 39 [some (mx_R 99), some (mx_S 32), some (mx_I s), some (mx_I (i : Int))] [] g (0, 0)) ?_ (fun i hi ih => ?_)
          · intro s hs
            refine zX12_is_i25_39 ?_
            rcases hs with ⟨a1, a2⟩ | ⟨a1, a2⟩ <;> subst a1
            · refine ⟨fun z => absurd z (by decide), fun _ => sLen_32 ?_⟩
              rw [pI_t ⟨z1, iff2.mpr ⟨by omega, a2⟩⟩] at k
              exact ⟨fun _ => zX12_is_i25_82 ⟨zb1, k⟩, fun z => absurd (by decide) z⟩
            · rw [pI_f (fun z => a2 z.2)] at k
              exact ⟨fun _ => zX12_is_i25_82 ⟨zb0, k⟩, fun z => absurd rfl z⟩
          · intro s hs
            refine zX12_is_i25_39 ?_
            rcases hs with ⟨a1, a2⟩ | ⟨a1, a2⟩ <;> subst a1
            · refine ⟨fun z => absurd z (by decide), fun _ => sLen_32 ?_⟩
              first | with_reducible refine c_lt ?_ ?_ (fun y1 => ?_) (fun y1 => ?_) | with_reducible refine c_le ?_ ?_ (fun y1 => ?_) (fun y1 => ?_) | with_reducible refine c_eq ?_ ?_ (fun y1 => ?_) (fun y1 => ?_) | with_reducible refine c_ne ?_ ?_ (fun y1 => ?_) (fun y1 => ?_)
              · omega
              · omega
              · omega
              · have tr := tx_32 i hi
                have br := t5 (x.2.1 + i) (by omega)
                rw [t1]
                refine s_inE (x.2.1 + i) ?_ ?_ (fun ea => ?_)
                · omega
                · omega
                try simp only [ea]
                clear ea
                refine sChar_32 hi ?_
                first | with_reducible refine c_lt ?_ ?_ (fun y2 => ?_) (fun y2 => ?_) | with_reducible refine c_le ?_ ?_ (fun y2 => ?_) (fun y2 => ?_) | with_reducible refine c_eq ?_ ?_ (fun y2 => ?_) (fun y2 => ?_) | with_reducible refine c_ne ?_ ?_ (fun y2 => ?_) (fun y2 => ?_)
                · omega
                · omega
                · exact zX12_is_i25_75 (ih 0 (Or.inr ⟨rfl, fun z => y2 ((iff2.mp z).2 i hi)⟩))
                · refine zX12_is_i25_75 (ih 1 (Or.inl ⟨rfl, fun j hj => ?_⟩))
                  rcases Nat.lt_or_ge j i with y | y
                  · exact a2 j y
                  · rw [show j = i by omega]; exact y2
            · rw [pI_f (fun z => a2 z.2)] at k
              exact ⟨fun _ => zX12_is_i25_82 ⟨zb0, k⟩, fun z => absurd rfl z⟩
        exact main 0 (Nat.zero_le _) 1 (Or.inl ⟨rfl, fun j hj => by omega⟩)
theorem tw_33 : wds.getD 21 [] = mx_tx.getD 23 [] := by decide
theorem sIs_33 {T : Nat × (Nat → Int32)} {d : Nat} {Q : mz_K} {X : mz_X} {g : mz_S} {x : Int × Nat × Nat × Int} (hb : 0 ≤ g 99 32 ∧ g 99 32 ≤ 5) (h : g 99 32 = 0 → TokR g x) (k : Q (pI (g 99 32 = 0 ∧ x.1 = 149)) g) : zC T (d + 5) 247 [mx_R 99, mx_S 33] g Q X := by
  have no : ¬ (g 99 32 = 0 ∧ x.1 = 149) → aX12_is T (d + 4) Q X 35 [some (mx_R 99), some (mx_S 33), none, none] [] g (0, 0) := by
    intro z
    rw [pI_f z] at k
    refine zX12_is_35 (zX12_is_36 (zX12_is_39 ⟨fun _ => zX12_is_82 ⟨zb0, k⟩, fun z => absurd rfl z⟩))
  refine zX12_is ?_
  first | with_reducible refine c_lt ?_ ?_ (fun z1 => ?_) (fun z1 => ?_) | with_reducible refine c_le ?_ ?_ (fun z1 => ?_) (fun z1 => ?_) | with_reducible refine c_eq ?_ ?_ (fun z1 => ?_) (fun z1 => ?_) | with_reducible refine c_ne ?_ ?_ (fun z1 => ?_) (fun z1 => ?_)
  · omega
  · omega
  · exact no (fun z => z1 z.1)
  · obtain ⟨t1, t2, t3, t4, t5, t6⟩ := h z1
    have tr := tcl_rng x.1
    rw [t3]
    first | with_reducible refine c_lt ?_ ?_ (fun z2 => ?_) (fun z2 => ?_) | with_reducible refine c_le ?_ ?_ (fun z2 => ?_) (fun z2 => ?_) | with_reducible refine c_eq ?_ ?_ (fun z2 => ?_) (fun z2 => ?_) | with_reducible refine c_ne ?_ ?_ (fun z2 => ?_) (fun z2 => ?_)
    · omega
    · omega
    · exact no (fun z => z2 (by rw [z.2]; decide))
    · obtain ⟨w1, w2, w3⟩ := t6 (tcl_1 z2)
      refine sLen_33 ?_
      rw [t1, t2]
      have iff := wkL_iff (b := g 119) (q := x.2.1) (e := x.2.2.1) wds 128 21 (by decide) (by decide) (by decide)
      rw [← w1, tw_33] at iff
      have iff2 : x.1 = 149 ↔ wdE (g 119) x.2.1 x.2.2.1 (mx_tx.getD 23 []) = true := iff
      rw [wdE_iff] at iff2
      have hl : (mx_tx.getD 23 []).length = 6 := by decide
      rw [hl] at iff2
      first | with_reducible refine c_lt ?_ ?_ (fun z3 => ?_) (fun z3 => ?_) | with_reducible refine c_le ?_ ?_ (fun z3 => ?_) (fun z3 => ?_) | with_reducible refine c_eq ?_ ?_ (fun z3 => ?_) (fun z3 => ?_) | with_reducible refine c_ne ?_ ?_ (fun z3 => ?_) (fun z3 => ?_)
      · omega
      · omega
      · exact no (fun z => by have := iff2.mp z.2; omega)
      · refine zX12_is_36 ?_
        have main : ∀ i : Nat, i ≤ 6 → ∀ s : Int, ((s = 1 ∧ ∀ j, j < i → g 119 (x.2.1 + j) = (mx_tx.getD 23 []).getD j 0) ∨ (s = 0 ∧ ¬ x.1 = 149)) → aX12_is T (d + 4) Q X 39 [some (mx_R 99), some (mx_S 33), some (mx_I s), some (mx_I (i : Int))] [] g (0, 0) := by
          refine upto (P := fun i : Nat => ∀ s : Int, ((s = 1 ∧ ∀ j, j < i → g 119 (x.2.1 + j) = (mx_tx.getD 23 []).getD j 0) ∨ (s = 0 ∧ ¬ x.1 = 149)) → aX12_is T (d + 4) Q X 39 [some (mx_R 99), some (mx_S 33), some (mx_I s), some (mx_I (i : Int))] [] g (0, 0)) ?_ (fun i hi ih => ?_)
          · intro s hs
            refine zX12_is_39 ?_
            rcases hs with ⟨a1, a2⟩ | ⟨a1, a2⟩ <;> subst a1
            · refine ⟨fun z => absurd z (by decide), fun _ => sLen_33 ?_⟩
              rw [pI_t ⟨z1, iff2.mpr ⟨by omega, a2⟩⟩] at k
              exact ⟨fun _ => zX12_is_82 ⟨zb1, k⟩, fun z => absurd (by decide) z⟩
            · rw [pI_f (fun z => a2 z.2)] at k
              exact ⟨fun _ => zX12_is_82 ⟨zb0, k⟩, fun z => absurd rfl z⟩
          · intro s hs
            refine zX12_is_39 ?_
            rcases hs with ⟨a1, a2⟩ | ⟨a1, a2⟩ <;> subst a1
            · refine ⟨fun z => absurd z (by decide), fun _ => sLen_33 ?_⟩
              first | with_reducible refine c_lt ?_ ?_ (fun y1 => ?_) (fun y1 => ?_) | with_reducible refine c_le ?_ ?_ (fun y1 => ?_) (fun y1 => ?_) | with_reducible refine c_eq ?_ ?_ (fun y1 => ?_) (fun y1 => ?_) | with_reducible refine c_ne ?_ ?_ (fun y1 => ?_) (fun y1 => ?_)
              · omega
              · omega
              · omega
              · have tr := tx_33 i hi
                have br := t5 (x.2.1 + i) (by omega)
                rw [t1]
                refine s_inE (x.2.1 + i) ?_ ?_ (fun ea => ?_)
                · omega
                · omega
                try simp only [ea]
                clear ea
                refine sChar_33 hi ?_
                first | with_reducible refine c_lt ?_ ?_ (fun y2 => ?_) (fun y2 => ?_) | with_reducible refine c_le ?_ ?_ (fun y2 => ?_) (fun y2 => ?_) | with_reducible refine c_eq ?_ ?_ (fun y2 => ?_) (fun y2 => ?_) | with_reducible refine c_ne ?_ ?_ (fun y2 => ?_) (fun y2 => ?_)
                · omega
                · omega
                · exact zX12_is_75 (ih 0 (Or.inr ⟨rfl, fun z => y2 ((iff2.mp z).2 i hi)⟩))
                · refine zX12_is_75 (ih 1 (Or.inl ⟨rfl, fun j hj => ?_⟩))
                  rcases Nat.lt_or_ge j i with y | y
                  · exact a2 j y
                  · rw [show j = i by omega]; exact y2
            · rw [pI_f (fun z => a2 z.2)] at k
              exact ⟨fun _ => zX12_is_82 ⟨zb0, k⟩, fun z => absurd rfl z⟩
        exact main 0 (Nat.zero_le _) 1 (Or.inl ⟨rfl, fun j hj => by omega⟩)
theorem tw_34 : wds.getD 24 [] = mx_tx.getD 24 [] := by decide
theorem sIs_34 {T : Nat × (Nat → Int32)} {d : Nat} {Q : mz_K} {X : mz_X} {g : mz_S} {x : Int × Nat × Nat × Int} (hb : 0 ≤ g 99 32 ∧ g 99 32 ≤ 5) (h : g 99 32 = 0 → TokR g x) (k : Q (pI (g 99 32 = 0 ∧ x.1 = 152)) g) : zC T (d + 5) 247 [mx_R 99, mx_S 34] g Q X := by
  have no : ¬ (g 99 32 = 0 ∧ x.1 = 152) → aX12_is_i17 T (d + 4) Q X 35 [some (mx_R 99), some (mx_S 34), none, none] [] g (0, 0) := by
    intro z
    rw [pI_f z] at k
    refine zX12_is_i17_35 (zX12_is_i17_36 (zX12_is_i17_39 ⟨fun _ => zX12_is_i17_82 ⟨zb0, k⟩, fun z => absurd rfl z⟩))
  refine zX12_is_i17 ?_
  first | with_reducible refine c_lt ?_ ?_ (fun z1 => ?_) (fun z1 => ?_) | with_reducible refine c_le ?_ ?_ (fun z1 => ?_) (fun z1 => ?_) | with_reducible refine c_eq ?_ ?_ (fun z1 => ?_) (fun z1 => ?_) | with_reducible refine c_ne ?_ ?_ (fun z1 => ?_) (fun z1 => ?_)
  · omega
  · omega
  · exact no (fun z => z1 z.1)
  · obtain ⟨t1, t2, t3, t4, t5, t6⟩ := h z1
    have tr := tcl_rng x.1
    rw [t3]
    first | with_reducible refine c_lt ?_ ?_ (fun z2 => ?_) (fun z2 => ?_) | with_reducible refine c_le ?_ ?_ (fun z2 => ?_) (fun z2 => ?_) | with_reducible refine c_eq ?_ ?_ (fun z2 => ?_) (fun z2 => ?_) | with_reducible refine c_ne ?_ ?_ (fun z2 => ?_) (fun z2 => ?_)
    · omega
    · omega
    · exact no (fun z => z2 (by rw [z.2]; decide))
    · obtain ⟨w1, w2, w3⟩ := t6 (tcl_1 z2)
      refine sLen_34 ?_
      rw [t1, t2]
      have iff := wkL_iff (b := g 119) (q := x.2.1) (e := x.2.2.1) wds 128 24 (by decide) (by decide) (by decide)
      rw [← w1, tw_34] at iff
      have iff2 : x.1 = 152 ↔ wdE (g 119) x.2.1 x.2.2.1 (mx_tx.getD 24 []) = true := iff
      rw [wdE_iff] at iff2
      have hl : (mx_tx.getD 24 []).length = 3 := by decide
      rw [hl] at iff2
      first | with_reducible refine c_lt ?_ ?_ (fun z3 => ?_) (fun z3 => ?_) | with_reducible refine c_le ?_ ?_ (fun z3 => ?_) (fun z3 => ?_) | with_reducible refine c_eq ?_ ?_ (fun z3 => ?_) (fun z3 => ?_) | with_reducible refine c_ne ?_ ?_ (fun z3 => ?_) (fun z3 => ?_)
      · omega
      · omega
      · exact no (fun z => by have := iff2.mp z.2; omega)
      · refine zX12_is_i17_36 ?_
        have main : ∀ i : Nat, i ≤ 3 → ∀ s : Int, ((s = 1 ∧ ∀ j, j < i → g 119 (x.2.1 + j) = (mx_tx.getD 24 []).getD j 0) ∨ (s = 0 ∧ ¬ x.1 = 152)) → aX12_is_i17 T (d + 4) Q X 39 [some (mx_R 99), some (mx_S 34), some (mx_I s), some (mx_I (i : Int))] [] g (0, 0) := by
          refine upto (P := fun i : Nat => ∀ s : Int, ((s = 1 ∧ ∀ j, j < i → g 119 (x.2.1 + j) = (mx_tx.getD 24 []).getD j 0) ∨ (s = 0 ∧ ¬ x.1 = 152)) → aX12_is_i17 T (d + 4) Q X 39 [some (mx_R 99), some (mx_S 34), some (mx_I s), some (mx_I (i : Int))] [] g (0, 0)) ?_ (fun i hi ih => ?_)
          · intro s hs
            refine zX12_is_i17_39 ?_
            rcases hs with ⟨a1, a2⟩ | ⟨a1, a2⟩ <;> subst a1
            · refine ⟨fun z => absurd z (by decide), fun _ => sLen_34 ?_⟩
              rw [pI_t ⟨z1, iff2.mpr ⟨by omega, a2⟩⟩] at k
              exact ⟨fun _ => zX12_is_i17_82 ⟨zb1, k⟩, fun z => absurd (by decide) z⟩
            · rw [pI_f (fun z => a2 z.2)] at k
              exact ⟨fun _ => zX12_is_i17_82 ⟨zb0, k⟩, fun z => absurd rfl z⟩
          · intro s hs
            refine zX12_is_i17_39 ?_
            rcases hs with ⟨a1, a2⟩ | ⟨a1, a2⟩ <;> subst a1
            · refine ⟨fun z => absurd z (by decide), fun _ => sLen_34 ?_⟩
              first | with_reducible refine c_lt ?_ ?_ (fun y1 => ?_) (fun y1 => ?_) | with_reducible refine c_le ?_ ?_ (fun y1 => ?_) (fun y1 => ?_) | with_reducible refine c_eq ?_ ?_ (fun y1 => ?_) (fun y1 => ?_) | with_reducible refine c_ne ?_ ?_ (fun y1 => ?_) (fun y1 => ?_)
              · omega
              · omega
              · omega
              · have tr := tx_34 i hi
                have br := t5 (x.2.1 + i) (by omega)
                rw [t1]
                refine s_inE (x.2.1 + i) ?_ ?_ (fun ea => ?_)
                · omega
                · omega
                try simp only [ea]
                clear ea
                refine sChar_34 hi ?_
                first | with_reducible refine c_lt ?_ ?_ (fun y2 => ?_) (fun y2 => ?_) | with_reducible refine c_le ?_ ?_ (fun y2 => ?_) (fun y2 => ?_) | with_reducible refine c_eq ?_ ?_ (fun y2 => ?_) (fun y2 => ?_) | with_reducible refine c_ne ?_ ?_ (fun y2 => ?_) (fun y2 => ?_)
                · omega
                · omega
                · exact zX12_is_i17_75 (ih 0 (Or.inr ⟨rfl, fun z => y2 ((iff2.mp z).2 i hi)⟩))
                · refine zX12_is_i17_75 (ih 1 (Or.inl ⟨rfl, fun j hj => ?_⟩))
                  rcases Nat.lt_or_ge j i with y | y
                  · exact a2 j y
                  · rw [show j = i by omega]; exact y2
            · rw [pI_f (fun z => a2 z.2)] at k
              exact ⟨fun _ => zX12_is_i17_82 ⟨zb0, k⟩, fun z => absurd rfl z⟩
        exact main 0 (Nat.zero_le _) 1 (Or.inl ⟨rfl, fun j hj => by omega⟩)
theorem tw_35 : wds.getD 23 [] = mx_tx.getD 25 [] := by decide
theorem sIs_35 {T : Nat × (Nat → Int32)} {d : Nat} {Q : mz_K} {X : mz_X} {g : mz_S} {x : Int × Nat × Nat × Int} (hb : 0 ≤ g 99 32 ∧ g 99 32 ≤ 5) (h : g 99 32 = 0 → TokR g x) (k : Q (pI (g 99 32 = 0 ∧ x.1 = 151)) g) : zC T (d + 5) 247 [mx_R 99, mx_S 35] g Q X := by
  have no : ¬ (g 99 32 = 0 ∧ x.1 = 151) → aX12_is_i16 T (d + 4) Q X 35 [some (mx_R 99), some (mx_S 35), none, none] [] g (0, 0) := by
    intro z
    rw [pI_f z] at k
    refine zX12_is_i16_35 (zX12_is_i16_36 (zX12_is_i16_39 ⟨fun _ => zX12_is_i16_82 ⟨zb0, k⟩, fun z => absurd rfl z⟩))
  refine zX12_is_i16 ?_
  first | with_reducible refine c_lt ?_ ?_ (fun z1 => ?_) (fun z1 => ?_) | with_reducible refine c_le ?_ ?_ (fun z1 => ?_) (fun z1 => ?_) | with_reducible refine c_eq ?_ ?_ (fun z1 => ?_) (fun z1 => ?_) | with_reducible refine c_ne ?_ ?_ (fun z1 => ?_) (fun z1 => ?_)
  · omega
  · omega
  · exact no (fun z => z1 z.1)
  · obtain ⟨t1, t2, t3, t4, t5, t6⟩ := h z1
    have tr := tcl_rng x.1
    rw [t3]
    first | with_reducible refine c_lt ?_ ?_ (fun z2 => ?_) (fun z2 => ?_) | with_reducible refine c_le ?_ ?_ (fun z2 => ?_) (fun z2 => ?_) | with_reducible refine c_eq ?_ ?_ (fun z2 => ?_) (fun z2 => ?_) | with_reducible refine c_ne ?_ ?_ (fun z2 => ?_) (fun z2 => ?_)
    · omega
    · omega
    · exact no (fun z => z2 (by rw [z.2]; decide))
    · obtain ⟨w1, w2, w3⟩ := t6 (tcl_1 z2)
      refine sLen_35 ?_
      rw [t1, t2]
      have iff := wkL_iff (b := g 119) (q := x.2.1) (e := x.2.2.1) wds 128 23 (by decide) (by decide) (by decide)
      rw [← w1, tw_35] at iff
      have iff2 : x.1 = 151 ↔ wdE (g 119) x.2.1 x.2.2.1 (mx_tx.getD 25 []) = true := iff
      rw [wdE_iff] at iff2
      have hl : (mx_tx.getD 25 []).length = 3 := by decide
      rw [hl] at iff2
      first | with_reducible refine c_lt ?_ ?_ (fun z3 => ?_) (fun z3 => ?_) | with_reducible refine c_le ?_ ?_ (fun z3 => ?_) (fun z3 => ?_) | with_reducible refine c_eq ?_ ?_ (fun z3 => ?_) (fun z3 => ?_) | with_reducible refine c_ne ?_ ?_ (fun z3 => ?_) (fun z3 => ?_)
      · omega
      · omega
      · exact no (fun z => by have := iff2.mp z.2; omega)
      · refine zX12_is_i16_36 ?_
        have main : ∀ i : Nat, i ≤ 3 → ∀ s : Int, ((s = 1 ∧ ∀ j, j < i → g 119 (x.2.1 + j) = (mx_tx.getD 25 []).getD j 0) ∨ (s = 0 ∧ ¬ x.1 = 151)) → aX12_is_i16 T (d + 4) Q X 39 [some (mx_R 99), some (mx_S 35), some (mx_I s), some (mx_I (i : Int))] [] g (0, 0) := by
          refine upto (P := fun i : Nat => ∀ s : Int, ((s = 1 ∧ ∀ j, j < i → g 119 (x.2.1 + j) = (mx_tx.getD 25 []).getD j 0) ∨ (s = 0 ∧ ¬ x.1 = 151)) → aX12_is_i16 T (d + 4) Q X 39 [some (mx_R 99), some (mx_S 35), some (mx_I s), some (mx_I (i : Int))] [] g (0, 0)) ?_ (fun i hi ih => ?_)
          · intro s hs
            refine zX12_is_i16_39 ?_
            rcases hs with ⟨a1, a2⟩ | ⟨a1, a2⟩ <;> subst a1
            · refine ⟨fun z => absurd z (by decide), fun _ => sLen_35 ?_⟩
              rw [pI_t ⟨z1, iff2.mpr ⟨by omega, a2⟩⟩] at k
              exact ⟨fun _ => zX12_is_i16_82 ⟨zb1, k⟩, fun z => absurd (by decide) z⟩
            · rw [pI_f (fun z => a2 z.2)] at k
              exact ⟨fun _ => zX12_is_i16_82 ⟨zb0, k⟩, fun z => absurd rfl z⟩
          · intro s hs
            refine zX12_is_i16_39 ?_
            rcases hs with ⟨a1, a2⟩ | ⟨a1, a2⟩ <;> subst a1
            · refine ⟨fun z => absurd z (by decide), fun _ => sLen_35 ?_⟩
              first | with_reducible refine c_lt ?_ ?_ (fun y1 => ?_) (fun y1 => ?_) | with_reducible refine c_le ?_ ?_ (fun y1 => ?_) (fun y1 => ?_) | with_reducible refine c_eq ?_ ?_ (fun y1 => ?_) (fun y1 => ?_) | with_reducible refine c_ne ?_ ?_ (fun y1 => ?_) (fun y1 => ?_)
              · omega
              · omega
              · omega
              · have tr := tx_35 i hi
                have br := t5 (x.2.1 + i) (by omega)
                rw [t1]
                refine s_inE (x.2.1 + i) ?_ ?_ (fun ea => ?_)
                · omega
                · omega
                try simp only [ea]
                clear ea
                refine sChar_35 hi ?_
                first | with_reducible refine c_lt ?_ ?_ (fun y2 => ?_) (fun y2 => ?_) | with_reducible refine c_le ?_ ?_ (fun y2 => ?_) (fun y2 => ?_) | with_reducible refine c_eq ?_ ?_ (fun y2 => ?_) (fun y2 => ?_) | with_reducible refine c_ne ?_ ?_ (fun y2 => ?_) (fun y2 => ?_)
                · omega
                · omega
                · exact zX12_is_i16_75 (ih 0 (Or.inr ⟨rfl, fun z => y2 ((iff2.mp z).2 i hi)⟩))
                · refine zX12_is_i16_75 (ih 1 (Or.inl ⟨rfl, fun j hj => ?_⟩))
                  rcases Nat.lt_or_ge j i with y | y
                  · exact a2 j y
                  · rw [show j = i by omega]; exact y2
            · rw [pI_f (fun z => a2 z.2)] at k
              exact ⟨fun _ => zX12_is_i16_82 ⟨zb0, k⟩, fun z => absurd rfl z⟩
        exact main 0 (Nat.zero_le _) 1 (Or.inl ⟨rfl, fun j hj => by omega⟩)
theorem tw_36 : wds.getD 22 [] = mx_tx.getD 26 [] := by decide
theorem sIs_36 {T : Nat × (Nat → Int32)} {d : Nat} {Q : mz_K} {X : mz_X} {g : mz_S} {x : Int × Nat × Nat × Int} (hb : 0 ≤ g 99 32 ∧ g 99 32 ≤ 5) (h : g 99 32 = 0 → TokR g x) (k : Q (pI (g 99 32 = 0 ∧ x.1 = 150)) g) : zC T (d + 5) 247 [mx_R 99, mx_S 36] g Q X := by
  have no : ¬ (g 99 32 = 0 ∧ x.1 = 150) → aX12_is_i12 T (d + 4) Q X 35 [some (mx_R 99), some (mx_S 36), none, none] [] g (0, 0) := by
    intro z
    rw [pI_f z] at k
    refine zX12_is_i12_35 (zX12_is_i12_36 (zX12_is_i12_39 ⟨fun _ => zX12_is_i12_82 ⟨zb0, k⟩, fun z => absurd rfl z⟩))
  refine zX12_is_i12 ?_
  first | with_reducible refine c_lt ?_ ?_ (fun z1 => ?_) (fun z1 => ?_) | with_reducible refine c_le ?_ ?_ (fun z1 => ?_) (fun z1 => ?_) | with_reducible refine c_eq ?_ ?_ (fun z1 => ?_) (fun z1 => ?_) | with_reducible refine c_ne ?_ ?_ (fun z1 => ?_) (fun z1 => ?_)
  · omega
  · omega
  · exact no (fun z => z1 z.1)
  · obtain ⟨t1, t2, t3, t4, t5, t6⟩ := h z1
    have tr := tcl_rng x.1
    rw [t3]
    first | with_reducible refine c_lt ?_ ?_ (fun z2 => ?_) (fun z2 => ?_) | with_reducible refine c_le ?_ ?_ (fun z2 => ?_) (fun z2 => ?_) | with_reducible refine c_eq ?_ ?_ (fun z2 => ?_) (fun z2 => ?_) | with_reducible refine c_ne ?_ ?_ (fun z2 => ?_) (fun z2 => ?_)
    · omega
    · omega
    · exact no (fun z => z2 (by rw [z.2]; decide))
    · obtain ⟨w1, w2, w3⟩ := t6 (tcl_1 z2)
      refine sLen_36 ?_
      rw [t1, t2]
      have iff := wkL_iff (b := g 119) (q := x.2.1) (e := x.2.2.1) wds 128 22 (by decide) (by decide) (by decide)
      rw [← w1, tw_36] at iff
      have iff2 : x.1 = 150 ↔ wdE (g 119) x.2.1 x.2.2.1 (mx_tx.getD 26 []) = true := iff
      rw [wdE_iff] at iff2
      have hl : (mx_tx.getD 26 []).length = 2 := by decide
      rw [hl] at iff2
      first | with_reducible refine c_lt ?_ ?_ (fun z3 => ?_) (fun z3 => ?_) | with_reducible refine c_le ?_ ?_ (fun z3 => ?_) (fun z3 => ?_) | with_reducible refine c_eq ?_ ?_ (fun z3 => ?_) (fun z3 => ?_) | with_reducible refine c_ne ?_ ?_ (fun z3 => ?_) (fun z3 => ?_)
      · omega
      · omega
      · exact no (fun z => by have := iff2.mp z.2; omega)
      · refine zX12_is_i12_36 ?_
        have main : ∀ i : Nat, i ≤ 2 → ∀ s : Int, ((s = 1 ∧ ∀ j, j < i → g 119 (x.2.1 + j) = (mx_tx.getD 26 []).getD j 0) ∨ (s = 0 ∧ ¬ x.1 = 150)) → aX12_is_i12 T (d + 4) Q X 39 [some (mx_R 99), some (mx_S 36), some (mx_I s), some (mx_I (i : Int))] [] g (0, 0) := by
          refine upto (P := fun i : Nat => ∀ s : Int, ((s = 1 ∧ ∀ j, j < i → g 119 (x.2.1 + j) = (mx_tx.getD 26 []).getD j 0) ∨ (s = 0 ∧ ¬ x.1 = 150)) → aX12_is_i12 T (d + 4) Q X 39 [some (mx_R 99), some (mx_S 36), some (mx_I s), some (mx_I (i : Int))] [] g (0, 0)) ?_ (fun i hi ih => ?_)
          · intro s hs
            refine zX12_is_i12_39 ?_
            rcases hs with ⟨a1, a2⟩ | ⟨a1, a2⟩ <;> subst a1
            · refine ⟨fun z => absurd z (by decide), fun _ => sLen_36 ?_⟩
              rw [pI_t ⟨z1, iff2.mpr ⟨by omega, a2⟩⟩] at k
              exact ⟨fun _ => zX12_is_i12_82 ⟨zb1, k⟩, fun z => absurd (by decide) z⟩
            · rw [pI_f (fun z => a2 z.2)] at k
              exact ⟨fun _ => zX12_is_i12_82 ⟨zb0, k⟩, fun z => absurd rfl z⟩
          · intro s hs
            refine zX12_is_i12_39 ?_
            rcases hs with ⟨a1, a2⟩ | ⟨a1, a2⟩ <;> subst a1
            · refine ⟨fun z => absurd z (by decide), fun _ => sLen_36 ?_⟩
              first | with_reducible refine c_lt ?_ ?_ (fun y1 => ?_) (fun y1 => ?_) | with_reducible refine c_le ?_ ?_ (fun y1 => ?_) (fun y1 => ?_) | with_reducible refine c_eq ?_ ?_ (fun y1 => ?_) (fun y1 => ?_) | with_reducible refine c_ne ?_ ?_ (fun y1 => ?_) (fun y1 => ?_)
              · omega
              · omega
              · omega
              · have tr := tx_36 i hi
                have br := t5 (x.2.1 + i) (by omega)
                rw [t1]
                refine s_inE (x.2.1 + i) ?_ ?_ (fun ea => ?_)
                · omega
                · omega
                try simp only [ea]
                clear ea
                refine sChar_36 hi ?_
                first | with_reducible refine c_lt ?_ ?_ (fun y2 => ?_) (fun y2 => ?_) | with_reducible refine c_le ?_ ?_ (fun y2 => ?_) (fun y2 => ?_) | with_reducible refine c_eq ?_ ?_ (fun y2 => ?_) (fun y2 => ?_) | with_reducible refine c_ne ?_ ?_ (fun y2 => ?_) (fun y2 => ?_)
                · omega
                · omega
                · exact zX12_is_i12_75 (ih 0 (Or.inr ⟨rfl, fun z => y2 ((iff2.mp z).2 i hi)⟩))
                · refine zX12_is_i12_75 (ih 1 (Or.inl ⟨rfl, fun j hj => ?_⟩))
                  rcases Nat.lt_or_ge j i with y | y
                  · exact a2 j y
                  · rw [show j = i by omega]; exact y2
            · rw [pI_f (fun z => a2 z.2)] at k
              exact ⟨fun _ => zX12_is_i12_82 ⟨zb0, k⟩, fun z => absurd rfl z⟩
        exact main 0 (Nat.zero_le _) 1 (Or.inl ⟨rfl, fun j hj => by omega⟩)
