/-! the reference goes on to the next token -/
theorem lexT_q {b : Nat → Int} {n p : Nat} (hp : p ≤ n) : lexT b n p = lexT b n (rnE cBl b n p) := by
  have h := rnE_p (p := cBl) (b := b) (n := n) p hp
  unfold lexT
  rw [rnE_e (p := cBl) (i := rnE cBl b n p) h.2.2.2]
theorem cLt_d {c : Int} : cLt c = true ↔ 97 ≤ c ∧ c ≤ 122 := by unfold cLt; exact decide_eq_true_iff
theorem cDg_d {c : Int} : cDg c = true ↔ 48 ≤ c ∧ c ≤ 57 := by unfold cDg; exact decide_eq_true_iff
theorem cBl_d {c : Int} : cBl c = true ↔ c = 10 ∨ c = 32 := by unfold cBl; exact decide_eq_true_iff
theorem sX12_goesOn {T : Nat × (Nat → Int32)} {d : Nat} {Q : mz_K} {X : mz_X} {g : mz_S} {n p : Nat} (en : g 99 27 = n) (hn : n ≤ 400) (ep : g 99 28 = p) (hp : p ≤ n) (hb : ∀ i, i < 400 → 0 ≤ g 119 i ∧ g 119 i ≤ 255) (k : ∀ g', Ch [] [28, 29, 30, 31] g g' → TokR g' (lexT (g 119) n p) → Q 0 g') : zC T (d + 2) 245 [mx_R 99] g Q X := by
  have Q0 := rnE_p (p := cBl) (b := g 119) (n := n) p hp
  rw [lexT_q hp] at k
  generalize hq : rnE cBl (g 119) n p = q at Q0 k
  have same : ∀ {g' : mz_S}, Ch [] [28, 29, 30, 31] g g' → g' 119 = g 119 ∧ g' 99 27 = n := fun h => ⟨h.1 119 (by decide) (by decide), by rw [h.2 27 (by decide)]; exact en⟩
  -- letters
  have lt : ∀ (x1 : Int) (i : Nat), i ≤ n → ∀ g' : mz_S, q < n → ¬ cBl (g 119 q) = true → cLt (g 119 q) = true → Ch [] [28, 29, 30, 31] g g' → g' 99 28 = i → g' 99 29 = q → q ≤ i → rnE cLt (g 119) n i = rnE cLt (g 119) n (q + 1) → aX12_goesOn T (d + 1) Q X 94 [some (mx_R 99), some (mx_I x1)] [] g' (0, 0) := by
    intro x1
    refine upto (P := fun i : Nat => ∀ g' : mz_S, q < n → ¬ cBl (g 119 q) = true → cLt (g 119 q) = true → Ch [] [28, 29, 30, 31] g g' → g' 99 28 = i → g' 99 29 = q → q ≤ i → rnE cLt (g 119) n i = rnE cLt (g 119) n (q + 1) → aX12_goesOn T (d + 1) Q X 94 [some (mx_R 99), some (mx_I x1)] [] g' (0, 0)) ?_ (fun i hi ih => ?_)
    all_goals
      intro g' hqn hbl hl hc e28 e29 hqi hr
      obtain ⟨s1, s2⟩ := same hc
      have fin : rnE cLt (g 119) n (q + 1) = (g' 99 28).toNat → 0 ≤ g' 99 28 → ∀ g3 : mz_S, g3 = mx_up g' 99 30 1 → aX12_goesOn T (d + 1) Q X 270 [some (mx_R 99), some (mx_I x1)] [] g3 (0, 0) := by
        intro hh h0 g3 e3
        have c3 : Ch [] [28, 29, 30, 31] g g3 := by rw [e3]; exact hc.up9 (by decide)
        have L := rnE_p (p := cLt) (b := g 119) (n := n) (q + 1) (by omega)
        have w := wkL_rng (b := g 119) (q := q) (e := rnE cLt (g 119) n (q + 1)) wds 128 (by decide) (by decide)
        refine zX12_goesOn_270 (k g3 c3 ?_)
        rw [lexT_at hqn hbl, if_pos hl]
        have tc : tcl (wkL (g 119) q (rnE cLt (g 119) n (q + 1)) wds 128) = 1 := (tcl_c _).2.1.mpr w
        refine ⟨?_, ?_, ?_, ⟨fun z => ?_, fun z => ?_⟩, ?_, fun _ => ?_⟩
        · rw [e3, up_i (by decide)]; exact e29
        · rw [e3, up_i (by decide)]; dsimp only; omega
        · rw [e3, up_s]; exact tc.symm
        · dsimp only at z; omega
        · dsimp only at z; omega
        · rw [(same c3).1]; exact hb
        · rw [(same c3).1]; dsimp only; exact ⟨rfl, by omega, by omega⟩
    · refine zX12_goesOn_94 ?_
      rw [e28]
      refine sX12_see s2 (by omega) hn ?_
      rw [if_neg (Nat.lt_irrefl _)]
      refine sX12_isLetter (by omega) ?_
      first | with_reducible refine b_eq (fun z => ?_) (fun z => ?_) | with_reducible refine b_ne (fun z => ?_) (fun z => ?_)
      · refine fin ?_ (by omega)
        rw [← hr, rnE_e (fun z => absurd z.1 (Nat.lt_irrefl _)), e28]; rfl
      · omega
    · have bi := hb i (by omega)
      refine zX12_goesOn_94 ?_
      rw [e28]
      refine sX12_see s2 (by omega) hn ?_
      rw [if_pos hi, s1]
      refine sX12_isLetter (by omega) ?_
      first | with_reducible refine b_eq (fun z => ?_) (fun z => ?_) | with_reducible refine b_ne (fun z => ?_) (fun z => ?_)
      · refine fin ?_ (by omega)
        rw [← hr, rnE_e (fun y => z (cLt_d.mp y.2)), e28]; rfl
      · rintro _ rfl
        refine ih _ hqn hbl hl (hc.up9 (by decide)) (by rw [up_s, e28]; omega) (by rw [up_i (by decide)]; exact e29) (by omega) ?_
        rw [← hr, rnE_s hi (cLt_d.mpr z)]
  -- digits
  have dg : ∀ (x1 : Int) (i : Nat), i ≤ n → ∀ g' : mz_S, q < n → ¬ cBl (g 119 q) = true → ¬ cLt (g 119 q) = true → cDg (g 119 q) = true → Ch [] [28, 29, 30, 31] g g' → g' 99 28 = i → g' 99 29 = q → q ≤ i → g' 99 31 = vlF (g 119) q (min (i - q) 6) → rnE cDg (g 119) n i = rnE cDg (g 119) n (q + 1) → aX12_goesOn T (d + 1) Q X 141 [some (mx_R 99), some (mx_I x1)] [] g' (0, 0) := by
    intro x1
    refine upto (P := fun i : Nat => ∀ g' : mz_S, q < n → ¬ cBl (g 119 q) = true → ¬ cLt (g 119 q) = true → cDg (g 119 q) = true → Ch [] [28, 29, 30, 31] g g' → g' 99 28 = i → g' 99 29 = q → q ≤ i → g' 99 31 = vlF (g 119) q (min (i - q) 6) → rnE cDg (g 119) n i = rnE cDg (g 119) n (q + 1) → aX12_goesOn T (d + 1) Q X 141 [some (mx_R 99), some (mx_I x1)] [] g' (0, 0)) ?_ (fun i hi ih => ?_)
    all_goals
      intro g' hqn hbl hl hl2 hc e28 e29 hqi e31 hr
      obtain ⟨s1, s2⟩ := same hc
      have D := rnE_p (p := cDg) (b := g 119) (n := n) (q + 1) (by omega)
      have fin : ∀ j : Nat, rnE cDg (g 119) n (q + 1) = j → g' 99 28 = j → g' 99 31 = vlF (g 119) q (min (j - q) 6) → (w32 ((g' 99 28) - (g' 99 29)) ≤ w32 6 → aX12_goesOn T (d + 1) Q X 233 [some (mx_R 99), some (mx_I x1)] [mx_I 2, mx_R 99] g' (0, 0)) ∧ (¬ (w32 ((g' 99 28) - (g' 99 29)) ≤ w32 6) → aX12_goesOn T (d + 1) Q X 233 [some (mx_R 99), some (mx_I x1)] [mx_I 4, mx_R 99] g' (0, 0)) := by
        intro j hj e28 e31
        rw [e28, e29]
        have lx := lexT_at (b := g 119) hqn hbl
        rw [if_neg hl, if_pos hl2] at lx
        refine c_le (by omega) (by omega) (fun z => ?_) (fun z => ?_)
        · rw [if_pos (by omega)] at lx
          refine zX12_goesOn_233 ?_
          intro g3 e3
          have c3 : Ch [] [28, 29, 30, 31] g g3 := by rw [e3]; exact hc.up9 (by decide)
          refine zX12_goesOn_270 (k g3 c3 ?_)
          rw [lx]
          refine ⟨?_, ?_, ?_, ⟨fun _ => ?_, fun z => ?_⟩, ?_, fun z => ?_⟩
          · rw [e3, up_i (by decide)]; exact e29
          · rw [e3, up_i (by decide), e28]; dsimp only; rw [hj]
          · rw [e3, up_s]; rfl
          · rw [e3, up_i (by decide), e31]; dsimp only; rw [hj, Nat.min_eq_left (by omega)]
          · exact absurd z (by dsimp only; decide)
          · rw [(same c3).1]; exact hb
          · dsimp only at z; omega
        · rw [if_neg (by omega)] at lx
          refine zX12_goesOn_233 ?_
          intro g3 e3
          have c3 : Ch [] [28, 29, 30, 31] g g3 := by rw [e3]; exact hc.up9 (by decide)
          refine zX12_goesOn_270 (k g3 c3 ?_)
          rw [lx]
          refine ⟨?_, ?_, ?_, ⟨fun z => ?_, fun z => ?_⟩, ?_, fun z => ?_⟩
          · rw [e3, up_i (by decide)]; exact e29
          · rw [e3, up_i (by decide), e28]; dsimp only; rw [hj]
          · rw [e3, up_s]; rfl
          · dsimp only at z; omega
          · exact absurd z (by dsimp only; decide)
          · rw [(same c3).1]; exact hb
          · dsimp only at z; omega
    · refine zX12_goesOn_141 ?_
      rw [e28]
      refine sX12_see s2 (by omega) hn ?_
      rw [if_neg (Nat.lt_irrefl _)]
      refine sX12_isDigit (by omega) ?_
      first | with_reducible refine b_eq (fun z => ?_) (fun z => ?_) | with_reducible refine b_ne (fun z => ?_) (fun z => ?_)
      · have := fin n (by rw [← hr, rnE_e (fun z => absurd z.1 (Nat.lt_irrefl _))]) e28 e31
        exact this
      · omega
    · have bi := hb i (by omega)
      refine zX12_goesOn_141 ?_
      rw [e28]
      refine sX12_see s2 (by omega) hn ?_
      rw [if_pos hi, s1]
      refine sX12_isDigit (by omega) ?_
      first | with_reducible refine b_eq (fun z => ?_) (fun z => ?_) | with_reducible refine b_ne (fun z => ?_) (fun z => ?_)
      · have := fin i (by rw [← hr, rnE_e (fun y => z (cDg_d.mp y.2))]) e28 e31
        exact this
      · have go : ∀ v, v = vlF (g 119) q (min (i + 1 - q) 6) → aX12_goesOn T (d + 1) Q X 197 [some (mx_R 99), some (mx_I x1)] [mx_I v, mx_R 99] g' (0, 0) := by
          intro v hv
          refine zX12_goesOn_197 ?_
          intro g3 e3
          have f3 : g3 99 28 = i := by rw [e3, up_i (by decide)]; exact e28
          rw [f3]
          intro g4 e4
          refine ih g4 hqn hbl hl hl2 (by rw [e4, e3]; exact (hc.up9 (by decide)).up9 (by decide)) (by rw [e4, up_s]; omega) (by rw [e4, up_i (by decide), e3, up_i (by decide)]; exact e29) (by omega) (by rw [e4, up_i (by decide), e3, up_s]; exact hv) ?_
          rw [← hr, rnE_s hi (cDg_d.mpr z)]
        rw [e28, e29]
        first | with_reducible refine c_lt ?_ ?_ (fun y => ?_) (fun y => ?_) | with_reducible refine c_le ?_ ?_ (fun y => ?_) (fun y => ?_) | with_reducible refine c_eq ?_ ?_ (fun y => ?_) (fun y => ?_) | with_reducible refine c_ne ?_ ?_ (fun y => ?_) (fun y => ?_)
        · omega
        · omega
        · refine go _ ?_
          rw [e31, Nat.min_eq_right (by omega), Nat.min_eq_right (by omega)]
        · refine s_inN ?_ (fun ea => ?_)
          · omega
          try simp only [ea]
          clear ea
          refine go _ ?_
          rw [e31, s1, Nat.min_eq_left (by omega), Nat.min_eq_left (by omega), show i + 1 - q = (i - q) + 1 by omega]
          show _ = vlF (g 119) q (i - q) * 10 + g 119 (q + (i - q)) - 48
          rw [show q + (i - q) = i by omega]; omega
  -- the token begins
  have at52 : ∀ g' : mz_S, Ch [] [28, 29, 30, 31] g g' → g' 99 28 = q → aX12_goesOn T (d + 1) Q X 52 [some (mx_R 99), none] [] g' (0, 0) := by
    intro g' hc e28
    refine zX12_goesOn_52 ?_
    intro g1 e1
    have c1 : Ch [] [28, 29, 30, 31] g g1 := by rw [e1]; exact hc.up9 (by decide)
    obtain ⟨s1, s2⟩ := same c1
    have f28 : g1 99 28 = q := by rw [e1, up_i (by decide)]; exact e28
    have f29 : g1 99 29 = q := by rw [e1, up_s]; exact e28
    rw [f28, s2, s1]
    first | with_reducible refine c_lt ?_ ?_ (fun z0 => ?_) (fun z0 => ?_) | with_reducible refine c_le ?_ ?_ (fun z0 => ?_) (fun z0 => ?_) | with_reducible refine c_eq ?_ ?_ (fun z0 => ?_) (fun z0 => ?_) | with_reducible refine c_ne ?_ ?_ (fun z0 => ?_) (fun z0 => ?_)
    · omega
    · omega
    · have hqn : q < n := by omega
      have hbl : ¬ cBl (g 119 q) = true := fun z => Q0.2.2.2 ⟨hqn, z⟩
      have bq := hb q (by omega)
      refine s_inN ?_ (fun ea => ?_)
      · omega
      try simp only [ea]
      clear ea
      refine sX12_isLetter (by omega) ?_
      first | with_reducible refine b_eq (fun z1 => ?_) (fun z1 => ?_) | with_reducible refine b_ne (fun z1 => ?_) (fun z1 => ?_)
      · have hl : ¬ cLt (g 119 q) = true := fun z => z1 (cLt_d.mp z)
        refine sX12_isDigit (by omega) ?_
        first | with_reducible refine b_eq (fun z2 => ?_) (fun z2 => ?_) | with_reducible refine b_ne (fun z2 => ?_) (fun z2 => ?_)
        · have hl2 : ¬ cDg (g 119 q) = true := fun z => z2 (cDg_d.mp z)
          have lx := lexT_at (b := g 119) hqn hbl
          rw [if_neg hl, if_neg hl2] at lx
          intro g2 e2
          have c2 : Ch [] [28, 29, 30, 31] g g2 := by rw [e2]; exact c1.up9 (by decide)
          have end' : ∀ v : Int, ∀ x : Int × Nat × Nat × Int, lexT (g 119) n q = x → x.2.1 = q → x.2.2.1 = q + 1 → v = tcl x.1 → (x.1 = 156 ∨ (x.1 = g 119 q ∧ cSg (g 119 q) = true)) → aX12_goesOn T (d + 1) Q X 257 [some (mx_R 99), some (mx_I (g 119 q))] [mx_I v, mx_R 99] g2 (0, 0) := by
            intro v x hx h1 h2 h3 h4
            refine zX12_goesOn_257 ?_
            intro g3 e3
            intro g4 e4
            have c4 : Ch [] [28, 29, 30, 31] g g4 := by rw [e4, e3]; exact (c2.up9 (by decide)).up9 (by decide)
            refine zX12_goesOn_270 (k g4 c4 ?_)
            rw [hx]
            have v28 : g4 99 28 = ((q + 1 : Nat) : Int) := by rw [e4, up_s, e3, up_i (by decide), e2, up_i (by decide), f28]; omega
            have v29 : g4 99 29 = q := by rw [e4, up_i (by decide), e3, up_i (by decide), e2, up_i (by decide), f29]
            have v30 : g4 99 30 = v := by rw [e4, up_i (by decide), e3, up_s]
            have v31 : g4 99 31 = g 119 q := by rw [e4, up_i (by decide), e3, up_i (by decide), e2, up_s]
            refine ⟨by rw [v29, h1], by rw [v28, h2], by rw [v30, h3], ⟨fun z => ?_, fun z => ?_⟩, by rw [(same c4).1]; exact hb, fun z => ?_⟩
            · rcases h4 with h4 | ⟨h4, h5⟩
              · omega
              · have := cSg_rng h5; omega
            · rcases h4 with h4 | ⟨h4, h5⟩
              · rw [h4] at z; exact absurd z (by decide)
              · have := cSg_rng h5; rw [v31, h4]; exact ⟨rfl, by omega, by omega⟩
            · rcases h4 with h4 | ⟨h4, h5⟩
              · omega
              · have := cSg_rng h5; omega
          refine sX12_isMark (by omega) ?_
          first | with_reducible refine b_eq (fun z3 => ?_) (fun z3 => ?_) | with_reducible refine b_ne (fun z3 => ?_) (fun z3 => ?_)
          · rw [if_neg z3] at lx
            exact end' 4 _ lx rfl rfl rfl (Or.inl rfl)
          · rw [if_pos z3] at lx
            exact end' 3 _ lx rfl rfl (tcl_sg z3).symm (Or.inr ⟨rfl, z3⟩)
        · intro g2 e2
          refine dg _ q (by omega) g2 hqn hbl hl (cDg_d.mpr z2) (by rw [e2]; exact c1.up9 (by decide)) (by rw [e2, up_i (by decide)]; exact f28) (by rw [e2, up_i (by decide)]; exact f29) (Nat.le_refl _) ?_ (rnE_s hqn (cDg_d.mpr z2))
          rw [e2, up_s, Nat.sub_self]; rfl
      · exact lt _ q (by omega) g1 hqn hbl (cLt_d.mpr z1) c1 f28 f29 (Nat.le_refl _) (rnE_s hqn (cLt_d.mpr z1))
    · have hqn : q = n := by omega
      have lx : lexT (g 119) n q = (155, n, n, 0) := lexT_end (by omega) (by omega)
      intro g2 e2
      have c2 : Ch [] [28, 29, 30, 31] g g2 := by rw [e2]; exact c1.up9 (by decide)
      refine k g2 c2 ?_
      rw [lx]
      refine ⟨?_, ?_, ?_, ⟨fun z => ?_, fun z => ?_⟩, ?_, fun z => ?_⟩
      · rw [e2, up_i (by decide), f29, hqn]
      · rw [e2, up_i (by decide), f28, hqn]
      · rw [e2, up_s]; rfl
      · dsimp only at z; omega
      · exact absurd z (by dsimp only; decide)
      · rw [(same c2).1]; exact hb
      · dsimp only at z; omega
  -- blanks
  have bl : ∀ i : Nat, i ≤ n → ∀ g' : mz_S, Ch [] [28, 29, 30, 31] g g' → g' 99 28 = i → rnE cBl (g 119) n i = q → aX12_goesOn T (d + 1) Q X 0 [some (mx_R 99), none] [] g' (0, 0) := by
    refine upto (P := fun i : Nat => ∀ g' : mz_S, Ch [] [28, 29, 30, 31] g g' → g' 99 28 = i → rnE cBl (g 119) n i = q → aX12_goesOn T (d + 1) Q X 0 [some (mx_R 99), none] [] g' (0, 0)) ?_ (fun i hi ih => ?_)
    · intro g' hc e28 hr
      obtain ⟨s1, s2⟩ := same hc
      rw [rnE_e (fun z => absurd z.1 (Nat.lt_irrefl _))] at hr
      refine zX12_goesOn_0 ?_
      rw [s2, e28]
      first | with_reducible refine c_lt ?_ ?_ (fun z => ?_) (fun z => ?_) | with_reducible refine c_le ?_ ?_ (fun z => ?_) (fun z => ?_) | with_reducible refine c_eq ?_ ?_ (fun z => ?_) (fun z => ?_) | with_reducible refine c_ne ?_ ?_ (fun z => ?_) (fun z => ?_)
      · omega
      · omega
      · exact at52 g' hc (by rw [e28, hr])
      · omega
    · intro g' hc e28 hr
      obtain ⟨s1, s2⟩ := same hc
      have bi := hb i (by omega)
      refine zX12_goesOn_0 ?_
      rw [s2, e28, s1]
      have next : cBl (g 119 i) = true → aX12_goesOn T (d + 1) Q X 39 [some (mx_R 99), none] [] g' (0, 0) := by
        intro z
        refine zX12_goesOn_39 ?_
        rintro _ rfl
        exact ih _ (hc.up9 (by decide)) (by rw [up_s, e28]; omega) (by rw [← rnE_s hi z]; exact hr)
      first | with_reducible refine c_lt ?_ ?_ (fun z => ?_) (fun z => ?_) | with_reducible refine c_le ?_ ?_ (fun z => ?_) (fun z => ?_) | with_reducible refine c_eq ?_ ?_ (fun z => ?_) (fun z => ?_) | with_reducible refine c_ne ?_ ?_ (fun z => ?_) (fun z => ?_)
      · omega
      · omega
      · omega
      · refine s_inN ?_ (fun ea => ?_)
        · omega
        try simp only [ea]
        clear ea
        first | with_reducible refine c_lt ?_ ?_ (fun z1 => ?_) (fun z1 => ?_) | with_reducible refine c_le ?_ ?_ (fun z1 => ?_) (fun z1 => ?_) | with_reducible refine c_eq ?_ ?_ (fun z1 => ?_) (fun z1 => ?_) | with_reducible refine c_ne ?_ ?_ (fun z1 => ?_) (fun z1 => ?_)
        · omega
        · omega
        · exact next (cBl_d.mpr (Or.inr z1))
        · refine s_inN ?_ (fun ea => ?_)
          · omega
          try simp only [ea]
          clear ea
          first | with_reducible refine c_lt ?_ ?_ (fun z2 => ?_) (fun z2 => ?_) | with_reducible refine c_le ?_ ?_ (fun z2 => ?_) (fun z2 => ?_) | with_reducible refine c_eq ?_ ?_ (fun z2 => ?_) (fun z2 => ?_) | with_reducible refine c_ne ?_ ?_ (fun z2 => ?_) (fun z2 => ?_)
          · omega
          · omega
          · rw [rnE_e (fun y => by have := cBl_d.mp y.2; omega)] at hr
            exact at52 g' hc (by rw [e28, hr])
          · exact next (cBl_d.mpr (Or.inl z2))
  exact zX12_goesOn (bl p hp g (Ch.rf g) ep hq)
