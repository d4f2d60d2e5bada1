/-! shares: the class -/
theorem sX4_creditorsOf {T : Nat × (Nat → Int32)} {d : Nat} {Q : mz_K} {X : mz_X} {g : mz_S} {y m : Nat} {am : Int} (em : g 9 1 = (m : Int)) (hm : m ≤ 12) (hy : y < 12) (hb : ∀ x, x < m → R64 (g 87 (y * 12 + x))) (k : ∀ v, StP v (fun x => x < m ∧ zb am x = true ∧ 0 < g 87 (y * 12 + x)) → Q v g) : zC T (d + 2) 54 [mx_R 86, mx_I (y : Int), mx_I am] g Q X := by
  refine zX4_creditorsOf ?_
  have main : ∀ n t : Nat, t + n = m → ∀ v, StP v (fun x => x < t ∧ zb am x = true ∧ 0 < g 87 (y * 12 + x)) → aX4_creditorsOf T (d + 1) Q X 5 [some (mx_R 86), some (mx_I (y : Int)), some (mx_I am), some (mx_I v), some (mx_I (t : Int))] [] g (0, 0) := by
    intro n
    induction n with
    | zero =>
      intro t ht v hv
      refine zX4_creditorsOf_5 ?_
      rw [em]
      have : t = m := by omega
      subst this
      first | with_reducible refine c_lt ?_ ?_ (fun z => ?_) (fun z => ?_) | with_reducible refine c_le ?_ ?_ (fun z => ?_) (fun z => ?_) | with_reducible refine c_eq ?_ ?_ (fun z => ?_) (fun z => ?_) | with_reducible refine c_ne ?_ ?_ (fun z => ?_) (fun z => ?_)
      · omega
      · omega
      · exact k v hv
      · omega
    | succ n ih =>
      intro t ht v hv
      refine zX4_creditorsOf_5 ?_
      rw [em]
      have bt := hb t (by omega)
      have no : ¬ (zb am t = true ∧ 0 < g 87 (y * 12 + t)) → aX4_creditorsOf T (d + 1) Q X 50 [some (mx_R 86), some (mx_I (y : Int)), some (mx_I am), some (mx_I v), some (mx_I (t : Int))] [] g (0, 0) := by
        intro z
        refine zX4_creditorsOf_50 ?_
        rw [show (t : Int) + 1 = ((t + 1 : Nat) : Int) by omega]
        refine ih (t + 1) (by omega) v (hv.cg (fun i hi => ?_))
        constructor
        · rintro ⟨x1, x2⟩; exact ⟨by omega, x2⟩
        · rintro ⟨x1, x2⟩
          refine ⟨?_, x2⟩
          by_cases e : i = t
          · subst e; exact absurd x2 z
          · omega
      first | with_reducible refine c_lt ?_ ?_ (fun z => ?_) (fun z => ?_) | with_reducible refine c_le ?_ ?_ (fun z => ?_) (fun z => ?_) | with_reducible refine c_eq ?_ ?_ (fun z => ?_) (fun z => ?_) | with_reducible refine c_ne ?_ ?_ (fun z => ?_) (fun z => ?_)
      · omega
      · omega
      · omega
      · refine sX11_holds (by omega) ?_
        first | with_reducible refine b_eq (fun h1 => ?_) (fun h1 => ?_) | with_reducible refine b_ne (fun h1 => ?_) (fun h1 => ?_)
        · exact no (fun w => h1 w.1)
        · refine s_inE (y * 12 + t) (by omega) (by omega) (fun ea => ?_)
          simp only [ea]
          first | with_reducible refine l_gt ?_ ?_ (fun h2 => ?_) (fun h2 => ?_) | with_reducible refine l_lt ?_ ?_ (fun h2 => ?_) (fun h2 => ?_) | with_reducible refine l_ge ?_ ?_ (fun h2 => ?_) (fun h2 => ?_) | with_reducible refine l_le ?_ ?_ (fun h2 => ?_) (fun h2 => ?_) | with_reducible refine l_eq ?_ ?_ (fun h2 => ?_) (fun h2 => ?_) | with_reducible refine l_ne ?_ ?_ (fun h2 => ?_) (fun h2 => ?_)
          · omega
          · omega
          · exact no (fun w => by omega)
          · refine zX4_creditorsOf_50 ?_
            rw [show (t : Int) + 1 = ((t + 1 : Nat) : Int) by omega]
            refine ih (t + 1) (by omega) _ ((hv.or (k := t) (by omega)).cg (fun i hi => ?_))
            constructor
            · rintro (⟨x1, x2⟩ | rfl)
              · exact ⟨by omega, x2⟩
              · exact ⟨by omega, h1, by omega⟩
            · rintro ⟨x1, x2⟩
              by_cases e : i = t
              · exact Or.inr e
              · exact Or.inl ⟨by omega, x2⟩
  exact main m 0 (by omega) 0 (StP.zero.cg (fun i _ => ⟨fun z => z.elim, fun z => by omega⟩))
theorem sX4_firstRanked {T : Nat × (Nat → Int32)} {d : Nat} {Q : mz_K} {X : mz_X} {g : mz_S} {y m : Nat} {wt : Int} (em : g 9 1 = (m : Int)) (hm : m ≤ 12) (hy : y < 12) (k : ∀ v, (∀ i, zb v i = grB (fun x => w32 (g 88 (y * 12 + x))) (zb wt) m i) → Q v g) : zC T (d + 2) 56 [mx_R 86, mx_I (y : Int), mx_I wt] g Q X := by
  refine zX4_firstRanked ?_
  have main : ∀ n t : Nat, t + n = m → ∀ v tp o6, StP v (fun x => x < t ∧ zb wt x = true ∧ ∀ z, z < t → zb wt z = true → w32 (g 88 (y * 12 + z)) ≤ w32 (g 88 (y * 12 + x))) → (∀ z, z < t → zb wt z = true → w32 (g 88 (y * 12 + z)) ≤ w32 tp) → (w32 tp = -2147483648 ∨ ∃ z, z < t ∧ zb wt z = true ∧ w32 (g 88 (y * 12 + z)) = w32 tp) → aX4_firstRanked T (d + 1) Q X 9 [some (mx_R 86), some (mx_I (y : Int)), some (mx_I wt), some (mx_I v), some (mx_I tp), some (mx_I (t : Int)), o6] [] g (0, 0) := by
    intro n
    induction n with
    | zero =>
      intro t ht v tp o6 hv _ _
      refine zX4_firstRanked_9 ?_
      rw [em]
      have : t = m := by omega
      subst this
      first | with_reducible refine c_lt ?_ ?_ (fun z => ?_) (fun z => ?_) | with_reducible refine c_le ?_ ?_ (fun z => ?_) (fun z => ?_) | with_reducible refine c_eq ?_ ?_ (fun z => ?_) (fun z => ?_) | with_reducible refine c_ne ?_ ?_ (fun z => ?_) (fun z => ?_)
      · omega
      · omega
      · refine k v (fun i => ?_)
        have : zb v i = true ↔ grB (fun x => w32 (g 88 (y * 12 + x))) (zb wt) t i = true := by
          rw [grB_iff]
          by_cases hi : i < 32
          · exact hv i hi
          · rw [zb_big (by omega)]
            exact ⟨fun q => absurd q (by decide), fun q => absurd q.1 (by omega)⟩
        exact Bool.eq_iff_iff.mpr this
      · omega
    | succ n ih =>
      intro t ht v tp o6 hv hA hB
      refine zX4_firstRanked_9 ?_
      rw [em]
      have lo := w32_lo (g 88 (y * 12 + t))
      first | with_reducible refine c_lt ?_ ?_ (fun z => ?_) (fun z => ?_) | with_reducible refine c_le ?_ ?_ (fun z => ?_) (fun z => ?_) | with_reducible refine c_eq ?_ ?_ (fun z => ?_) (fun z => ?_) | with_reducible refine c_ne ?_ ?_ (fun z => ?_) (fun z => ?_)
      · omega
      · omega
      · omega
      · refine s_inE (y * 12 + t) (by omega) (by omega) (fun ea => ?_)
        simp only [ea]
        clear ea
        refine sX11_holds (by omega) ?_
        first | with_reducible refine b_eq (fun h1 => ?_) (fun h1 => ?_) | with_reducible refine b_ne (fun h1 => ?_) (fun h1 => ?_)
        · refine zX4_firstRanked_76 ?_
          rw [show (t : Int) + 1 = ((t + 1 : Nat) : Int) by omega]
          refine ih (t + 1) (by omega) v tp _ (hv.cg (fun i hi => ?_)) (fun z hz hw => ?_) ?_
          · constructor
            · rintro ⟨x1, x2, x3⟩
              refine ⟨by omega, x2, fun z hz hw => ?_⟩
              by_cases e : z = t
              · subst e; exact absurd hw h1
              · exact x3 z (by omega) hw
            · rintro ⟨x1, x2, x3⟩
              by_cases e : i = t
              · subst e; exact absurd x2 h1
              · exact ⟨by omega, x2, fun z hz hw => x3 z (by omega) hw⟩
          · by_cases e : z = t
            · subst e; exact absurd hw h1
            · exact hA z (by omega) hw
          · rcases hB with hB | ⟨z, z1, z2⟩
            · exact Or.inl hB
            · exact Or.inr ⟨z, by omega, z2⟩
        · refine ⟨fun h2 => ?_, fun h2 => ⟨fun h3 => ?_, fun h3 => ?_⟩⟩
          · refine zX4_firstRanked_76 ?_
            rw [show (t : Int) + 1 = ((t + 1 : Nat) : Int) by omega]
            have wit : ∃ z, z < t ∧ zb wt z = true ∧ w32 (g 88 (y * 12 + z)) = w32 tp := by
              rcases hB with hB | hB
              · omega
              · exact hB
            obtain ⟨a, a1, a2, a3⟩ := wit
            refine ih (t + 1) (by omega) v tp _ (hv.cg (fun i hi => ?_)) (fun z hz hw => ?_) (Or.inr ⟨a, by omega, a2, a3⟩)
            · constructor
              · rintro ⟨x1, x2, x3⟩
                refine ⟨by omega, x2, fun z hz hw => ?_⟩
                by_cases e : z = t
                · subst e; have := x3 a a1 a2; omega
                · exact x3 z (by omega) hw
              · rintro ⟨x1, x2, x3⟩
                by_cases e : i = t
                · subst e; have := x3 a (by omega) a2; omega
                · exact ⟨by omega, x2, fun z hz hw => x3 z (by omega) hw⟩
            · by_cases e : z = t
              · subst e; omega
              · exact hA z (by omega) hw
          · refine zX4_firstRanked_71 (zX4_firstRanked_76 ?_)
            rw [show (t : Int) + 1 = ((t + 1 : Nat) : Int) by omega]
            refine ih (t + 1) (by omega) _ (g 88 (y * 12 + t)) _ ((hv.or (k := t) (by omega)).cg (fun i hi => ?_)) (fun z hz hw => ?_) (Or.inr ⟨t, by omega, h1, rfl⟩)
            · constructor
              · rintro (⟨x1, x2, x3⟩ | rfl)
                · refine ⟨by omega, x2, fun z hz hw => ?_⟩
                  by_cases e : z = t
                  · subst e
                    rcases hB with hB | ⟨a, a1, a2, a3⟩
                    · have := w32_lo (g 88 (y * 12 + i)); omega
                    · have := x3 a a1 a2; omega
                  · exact x3 z (by omega) hw
                · refine ⟨by omega, h1, fun z hz hw => ?_⟩
                  by_cases e : z = i
                  · subst e; exact Int.le_refl _
                  · have := hA z (by omega) hw; omega
              · rintro ⟨x1, x2, x3⟩
                by_cases e : i = t
                · exact Or.inr e
                · exact Or.inl ⟨by omega, x2, fun z hz hw => x3 z (by omega) hw⟩
            · by_cases e : z = t
              · subst e; exact Int.le_refl _
              · have := hA z (by omega) hw; omega
          · refine zX4_firstRanked_71 (zX4_firstRanked_76 ?_)
            rw [show (t : Int) + 1 = ((t + 1 : Nat) : Int) by omega]
            refine ih (t + 1) (by omega) _ (g 88 (y * 12 + t)) _ (fun i hi => ?_) (fun z hz hw => ?_) (Or.inr ⟨t, by omega, h1, rfl⟩)
            · rw [zb_bit (by omega) hi, decide_eq_true_iff]
              constructor
              · rintro rfl
                refine ⟨by omega, h1, fun z hz hw => ?_⟩
                by_cases e : z = i
                · subst e; exact Int.le_refl _
                · have := hA z (by omega) hw; omega
              · rintro ⟨x1, x2, x3⟩
                refine Classical.byContradiction (fun e => ?_)
                have q1 := x3 t (by omega) h1
                have q2 := hA i (by omega) x2
                omega
            · by_cases e : z = t
              · subst e; exact Int.le_refl _
              · have := hA z (by omega) hw; omega
  exact main m 0 (by omega) 0 _ none (StP.zero.cg (fun i _ => ⟨fun z => z.elim, fun z => by omega⟩)) (fun z hz => by omega) (Or.inl (by decide))
