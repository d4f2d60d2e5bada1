/-! all tokens of a text -/
theorem sX8_push {T : Nat × (Nat → Int32)} {d : Nat} {Q : mz_K} {X : mz_X} {g : mz_S} {m : Nat} {kd pl vl : Int} (em : g 26 5 = m) (hm : m ≤ 400) (k : ∀ g', g' = mx_up (mx_up (mx_up (mx_up g 28 m kd) 29 m pl) 30 m vl) 26 5 ((m + 1 : Nat) : Int) → Q 0 g') : zC T (d + 1) 115 [mx_R 26, mx_I kd, mx_I pl, mx_I vl] g Q X := by
  refine zX8_push ?_
  rw [em]
  first | with_reducible refine c_lt ?_ ?_ (fun z => ?_) (fun z => ?_) | with_reducible refine c_le ?_ ?_ (fun z => ?_) (fun z => ?_) | with_reducible refine c_eq ?_ ?_ (fun z => ?_) (fun z => ?_) | with_reducible refine c_ne ?_ ?_ (fun z => ?_) (fun z => ?_)
  · omega
  · omega
  · omega
  · refine s_inN ?_ (fun ea => ?_)
    · omega
    try simp only [ea]
    clear ea
    intro g1 e1
    rw [show g1 26 5 = m by rw [e1, up_q (by decide)]; exact em]
    refine s_inN ?_ (fun ea => ?_)
    · omega
    try simp only [ea]
    clear ea
    intro g2 e2
    rw [show g2 26 5 = m by rw [e2, up_q (by decide), e1, up_q (by decide)]; exact em]
    refine s_inN ?_ (fun ea => ?_)
    · omega
    try simp only [ea]
    clear ea
    intro g3 e3
    rw [show g3 26 5 = m by rw [e3, up_q (by decide), e2, up_q (by decide), e1, up_q (by decide)]; exact em]
    intro g4 e4
    refine zX8_push_50 (k g4 ?_)
    rw [e4, e3, e2, e1]; congr 1
theorem sX8_kindOf {T : Nat × (Nat → Int32)} {d : Nat} {Q : mz_K} {X : mz_X} {g : mz_S} {p n : Nat} (hb : WfBy g) (hp : p < n) (hn : n ≤ 400) (hbl : ¬ cBl (g 27 p) = true) (k : Q (lexT (g 27) n p).1 g) : zC T (d + 7) 114 [mx_R 26, mx_I (p : Int), mx_I ((lexT (g 27) n p).2.2.1 : Int)] g Q X := by
  have b0 := hb p (by omega)
  have l := rnE_p (p := cLt) (b := g 27) (n := n) (p + 1) (by omega)
  have dg := rnE_p (p := cDg) (b := g 27) (n := n) (p + 1) (by omega)
  rw [lexT_at hp hbl] at k ⊢
  refine zX8_kindOf ?_
  refine s_inN ?_ (fun ea => ?_)
  · omega
  try simp only [ea]
  clear ea
  refine sX8_isLetter (by omega) ?_
  first | with_reducible refine b_eq (fun z1 => ?_) (fun z1 => ?_) | with_reducible refine b_ne (fun z1 => ?_) (fun z1 => ?_)
  · have hl : ¬ cLt (g 27 p) = true := fun z => z1 (by unfold cLt at z; exact of_decide_eq_true z)
    rw [if_neg hl] at k ⊢
    refine sX8_isDigit (by omega) ?_
    first | with_reducible refine b_eq (fun z2 => ?_) (fun z2 => ?_) | with_reducible refine b_ne (fun z2 => ?_) (fun z2 => ?_)
    · have hl2 : ¬ cDg (g 27 p) = true := fun z => z2 (by unfold cDg at z; exact of_decide_eq_true z)
      rw [if_neg hl2] at k ⊢
      have e : mx_i2c (g 27 p) = g 27 p := by
        obtain ⟨c, hc⟩ := Int.eq_ofNat_of_zero_le b0.1
        rw [hc]
        have := (by decide +kernel : ∀ c : Nat, c < 256 → mx_i2c (c : Int) = c) c (by omega)
        exact this
      rw [e]
      refine sJ0_indexOf b0 (fun hs i hi => ?_) (fun hs => ?_)
      · rw [if_pos hs] at k
        first | with_reducible refine c_lt ?_ ?_ (fun z3 => ?_) (fun z3 => ?_) | with_reducible refine c_le ?_ ?_ (fun z3 => ?_) (fun z3 => ?_) | with_reducible refine c_eq ?_ ?_ (fun z3 => ?_) (fun z3 => ?_) | with_reducible refine c_ne ?_ ?_ (fun z3 => ?_) (fun z3 => ?_)
        · omega
        · omega
        · omega
        · exact zX8_kindOf_63 k
      · rw [if_neg hs] at k
        first | with_reducible refine c_lt ?_ ?_ (fun z3 => ?_) (fun z3 => ?_) | with_reducible refine c_le ?_ ?_ (fun z3 => ?_) (fun z3 => ?_) | with_reducible refine c_eq ?_ ?_ (fun z3 => ?_) (fun z3 => ?_) | with_reducible refine c_ne ?_ ?_ (fun z3 => ?_) (fun z3 => ?_)
        · omega
        · omega
        · exact zX8_kindOf_63 k
        · omega
    · have hl2 : cDg (g 27 p) = true := by unfold cDg; exact decide_eq_true z2
      rw [if_pos hl2] at k ⊢
      by_cases h6 : rnE cDg (g 27) n (p + 1) - p ≤ 6
      · rw [if_pos h6] at k ⊢
        dsimp only at k ⊢
        first | with_reducible refine c_lt ?_ ?_ (fun z3 => ?_) (fun z3 => ?_) | with_reducible refine c_le ?_ ?_ (fun z3 => ?_) (fun z3 => ?_) | with_reducible refine c_eq ?_ ?_ (fun z3 => ?_) (fun z3 => ?_) | with_reducible refine c_ne ?_ ?_ (fun z3 => ?_) (fun z3 => ?_)
        · omega
        · omega
        · omega
        · exact zX8_kindOf_45 k
      · rw [if_neg h6] at k ⊢
        dsimp only at k ⊢
        first | with_reducible refine c_lt ?_ ?_ (fun z3 => ?_) (fun z3 => ?_) | with_reducible refine c_le ?_ ?_ (fun z3 => ?_) (fun z3 => ?_) | with_reducible refine c_eq ?_ ?_ (fun z3 => ?_) (fun z3 => ?_) | with_reducible refine c_ne ?_ ?_ (fun z3 => ?_) (fun z3 => ?_)
        · omega
        · omega
        · exact zX8_kindOf_45 k
        · omega
  · have hl : cLt (g 27 p) = true := by unfold cLt; exact decide_eq_true z1
    rw [if_pos hl] at k ⊢
    exact sX8_wordKind hb (by simp only; omega) (by simp only; omega) k
/-- what the tokens' cells hold: from m on the tokens from a place on, up to the first that ends -/
def CutO (c : mz_S) (n m p : Nat) (g' : mz_S) : Prop := Ch [26, 28, 29, 30] [] c g' ∧ (∀ q, q ≠ 5 → g' 26 q = c 26 q) ∧ (∀ i, i < m → g' 28 i = c 28 i ∧ g' 29 i = c 29 i ∧ g' 30 i = c 30 i) ∧ ∃ N : Nat, m < N ∧ N ≤ 401 ∧ g' 26 5 = N ∧ (∀ i, m + i < N → g' 28 (m + i) = (tk (c 27) n i p).1 ∧ g' 29 (m + i) = ((tk (c 27) n i p).2.1 : Int) ∧ g' 30 (m + i) = (tk (c 27) n i p).2.2.2) ∧ ((tk (c 27) n (N - 1 - m) p).1 = 155 ∨ (tk (c 27) n (N - 1 - m) p).1 = 156) ∧ ∀ i, m + i + 1 < N → ¬ (tk (c 27) n i p).1 = 155 ∧ ¬ (tk (c 27) n i p).1 = 156
theorem push_at {g : mz_S} {m : Nat} {kd pl vl : Int} {g' : mz_S} (e : g' = mx_up (mx_up (mx_up (mx_up g 28 m kd) 29 m pl) 30 m vl) 26 5 ((m + 1 : Nat) : Int)) : Ch [26, 28, 29, 30] [] g g' ∧ (∀ q, q ≠ 5 → g' 26 q = g 26 q) ∧ g' 26 5 = ((m + 1 : Nat) : Int) ∧ (∀ i, i ≠ m → g' 28 i = g 28 i ∧ g' 29 i = g 29 i ∧ g' 30 i = g 30 i) ∧ g' 28 m = kd ∧ g' 29 m = pl ∧ g' 30 m = vl := by
  refine ⟨?_, fun q hq => ?_, ?_, fun i hi => ⟨?_, ?_, ?_⟩, ?_, ?_, ?_⟩
  · rw [e]; exact ((((Ch.rf g).up (by decide) (by decide)).up (by decide) (by decide)).up (by decide) (by decide)).up (by decide) (by decide)
  all_goals (rw [e]; simp [up_at, lset])
  · intro z; exact absurd z hq
  · intro z; exact absurd z hi
  · intro z; exact absurd z hi
  · intro z; exact absurd z hi
theorem lexT_vl {b : Nat → Int} {n p : Nat} (h : p < n) (hp : ¬ cBl (b p) = true) : ((lexT b n p).1 = 154 → (lexT b n p).2.2.2 = vlF b p ((lexT b n p).2.2.1 - p)) ∧ (¬ (lexT b n p).1 = 154 → (lexT b n p).2.2.2 = 0) ∧ (lexT b n p).2.1 = p ∧ (lexT b n p).2.2.1 = (if cLt (b p) = true then rnE cLt b n (p + 1) else if cDg (b p) = true then rnE cDg b n (p + 1) else p + 1) := by
  rw [lexT_at h hp]
  by_cases h1 : cLt (b p) = true
  · have w := wkL_rng (b := b) (q := p) (e := rnE cLt b n (p + 1)) wds 128 (by decide) (by decide)
    rw [if_pos h1, if_pos h1]
    exact ⟨fun z => by dsimp only at z; omega, fun _ => rfl, rfl, rfl⟩
  · rw [if_neg h1, if_neg h1]
    by_cases h2 : cDg (b p) = true
    · rw [if_pos h2, if_pos h2]
      by_cases h3 : rnE cDg b n (p + 1) - p ≤ 6
      · rw [if_pos h3]
        exact ⟨fun _ => rfl, fun z => absurd rfl z, rfl, rfl⟩
      · rw [if_neg h3]
        exact ⟨fun z => by dsimp only at z; omega, fun _ => rfl, rfl, rfl⟩
    · rw [if_neg h2, if_neg h2]
      by_cases h3 : cSg (b p) = true
      · have := cSg_rng h3
        rw [if_pos h3]
        exact ⟨fun z => by dsimp only at z; omega, fun _ => rfl, rfl, rfl⟩
      · rw [if_neg h3]
        exact ⟨fun z => by dsimp only at z; omega, fun _ => rfl, rfl, rfl⟩
theorem cut_loop {T : Nat × (Nat → Int32)} {d : Nat} {Q : mz_K} {X : mz_X} {u : Nat × Nat} {n : Nat} (hn : n ≤ 400) : ∀ (f p m : Nat) (g : mz_S) (o3 o4 : Option mx_v), n - p < f → p ≤ n → WfBy g → g 26 5 = m → m ≤ p → (∀ g', CutO g n m p g' → Q 0 g') → aX8_cut T (d + 8) Q X 7 [some (mx_R 26), some (mx_I (n : Int)), some (mx_I (p : Int)), o3, o4] [] g u := by
  intro f
  induction f with
  | zero => intro p m g o3 o4 h; omega
  | succ f ih =>
    intro p m g o3 o4 hf hp hb em hm k
    refine zX8_cut_7 ?_
    first | with_reducible refine c_lt ?_ ?_ (fun z0 => ?_) (fun z0 => ?_) | with_reducible refine c_le ?_ ?_ (fun z0 => ?_) (fun z0 => ?_) | with_reducible refine c_eq ?_ ?_ (fun z0 => ?_) (fun z0 => ?_) | with_reducible refine c_ne ?_ ?_ (fun z0 => ?_) (fun z0 => ?_)
    · omega
    · omega
    · refine sX8_push em (by omega) (fun g' e' => k g' ?_)
      have P := push_at e'
      have lx : lexT (g 27) n p = (155, n, n, 0) := lexT_end (by omega) hp
      refine ⟨P.1, P.2.1, fun i hi => P.2.2.2.1 i (by omega), m + 1, by omega, by omega, P.2.2.1, fun i hi => ?_, ?_, fun i hi => by omega⟩
      · have : i = 0 := by omega
        subst this
        rw [Nat.add_zero]
        show g' 28 m = (lexT (g 27) n p).1 ∧ g' 29 m = ((lexT (g 27) n p).2.1 : Int) ∧ g' 30 m = (lexT (g 27) n p).2.2.2
        rw [lx]
        exact P.2.2.2.2
      · rw [show m + 1 - 1 - m = 0 by omega]
        left
        show (lexT (g 27) n p).1 = 155
        rw [lx]
    · have hpn : p < n := by omega
      have b0 := hb p (by omega)
      refine sX8_tokenEnd hb hpn hn ?_
      refine s_inN ?_ (fun ea => ?_)
      · omega
      try simp only [ea]
      clear ea
      by_cases hbl : cBl (g 27 p) = true
      · have ebl : g 27 p = 10 ∨ g 27 p = 32 := by unfold cBl at hbl; exact of_decide_eq_true hbl
        have n1 : ¬ cLt (g 27 p) = true := fun z => by unfold cLt at z; have := of_decide_eq_true z; omega
        have n2 : ¬ cDg (g 27 p) = true := fun z => by unfold cDg at z; have := of_decide_eq_true z; omega
        rw [if_neg n1, if_neg n2]
        have at83 : aX8_cut T (d + 8) Q X 83 [some (mx_R 26), some (mx_I (n : Int)), some (mx_I (p : Int)), some (mx_I ((p + 1 : Nat) : Int)), o4] [] g u := by
          refine zX8_cut_83 (sJ9_max (by omega) (by omega) ?_)
          rw [show max ((p : Int) + 1) ((p + 1 : Nat) : Int) = ((p + 1 : Nat) : Int) by omega]
          refine ih (p + 1) m g _ _ (by omega) (by omega) hb em (by omega) (fun g' hg' => k g' ?_)
          obtain ⟨c1, c2, c3, N, c4, c5, c6, c7, c8, c9⟩ := hg'
          refine ⟨c1, c2, c3, N, c4, c5, c6, fun i hi => ?_, ?_, fun i hi => ?_⟩
          · rw [tk_bl hpn hbl]; exact c7 i hi
          · rw [tk_bl hpn hbl]; exact c8
          · rw [tk_bl hpn hbl]; exact c9 i hi
        first | with_reducible refine c_lt ?_ ?_ (fun y1 => ?_) (fun y1 => ?_) | with_reducible refine c_le ?_ ?_ (fun y1 => ?_) (fun y1 => ?_) | with_reducible refine c_eq ?_ ?_ (fun y1 => ?_) (fun y1 => ?_) | with_reducible refine c_ne ?_ ?_ (fun y1 => ?_) (fun y1 => ?_)
        · omega
        · omega
        · exact at83
        · refine s_inN ?_ (fun ea => ?_)
          · omega
          try simp only [ea]
          clear ea
          first | with_reducible refine c_lt ?_ ?_ (fun y2 => ?_) (fun y2 => ?_) | with_reducible refine c_le ?_ ?_ (fun y2 => ?_) (fun y2 => ?_) | with_reducible refine c_eq ?_ ?_ (fun y2 => ?_) (fun y2 => ?_) | with_reducible refine c_ne ?_ ?_ (fun y2 => ?_) (fun y2 => ?_)
          · omega
          · omega
          · exact at83
          · omega
      · have ebl : ¬ (g 27 p = 10 ∨ g 27 p = 32) := fun z => hbl (by unfold cBl; exact decide_eq_true z)
        have V := lexT_vl (b := g 27) hpn hbl
        have ok := lexT_ok (b := g 27) (n := n) (p := p) hp
        rw [← V.2.2.2]
        have main : ∀ vl, vl = (lexT (g 27) n p).2.2.2 → aX8_cut T (d + 8) Q X 71 [some (mx_R 26), some (mx_I (n : Int)), some (mx_I (p : Int)), some (mx_I ((lexT (g 27) n p).2.2.1 : Int)), some (mx_I (lexT (g 27) n p).1)] [mx_I vl, mx_I (p : Int), mx_I (lexT (g 27) n p).1, mx_R 26] g u := by
          intro vl hvl
          refine zX8_cut_71 (sX8_push em (by omega) (fun g1 e1 => ?_))
          have P := push_at e1
          have e27 : g1 27 = g 27 := P.1.1 27 (by decide) (by decide)
          have n155 : ¬ (lexT (g 27) n p).1 = 155 := by
            rw [lexT_at hpn hbl]
            have w := wkL_rng (b := g 27) (q := p) (e := rnE cLt (g 27) n (p + 1)) wds 128 (by decide) (by decide)
            split
            · dsimp only; omega
            · split
              · split
                · dsimp only; decide
                · dsimp only; decide
              · split
                · next hs => have := cSg_rng hs; dsimp only; omega
                · dsimp only; decide
          have e2 := ok.2.2.2.2.1 n155
          first | with_reducible refine c_lt ?_ ?_ (fun y3 => ?_) (fun y3 => ?_) | with_reducible refine c_le ?_ ?_ (fun y3 => ?_) (fun y3 => ?_) | with_reducible refine c_eq ?_ ?_ (fun y3 => ?_) (fun y3 => ?_) | with_reducible refine c_ne ?_ ?_ (fun y3 => ?_) (fun y3 => ?_)
          · omega
          · omega
          · refine zX8_cut_83 (sJ9_max (by omega) (by omega) ?_)
            rw [show max ((p : Int) + 1) ((lexT (g 27) n p).2.2.1 : Int) = ((lexT (g 27) n p).2.2.1 : Int) by omega]
            refine ih (lexT (g 27) n p).2.2.1 (m + 1) g1 _ _ (by omega) (by omega) (fun i hi => by rw [e27]; exact hb i hi) P.2.2.1 (by omega) (fun g' hg' => k g' ?_)
            obtain ⟨c1, c2, c3, N, c4, c5, c6, c7, c8, c9⟩ := hg'
            rw [e27] at c7 c8 c9
            refine ⟨P.1.tr c1, fun q hq => by rw [c2 q hq, P.2.1 q hq], fun i hi => ?_, N, by omega, c5, c6, fun i hi => ?_, ?_, fun i hi => ?_⟩
            · have a1 := c3 i (by omega)
              have a2 := P.2.2.2.1 i (by omega)
              rw [a1.1, a1.2.1, a1.2.2]; exact a2
            · cases i with
              | zero =>
                have a1 := c3 m (by omega)
                have a2 := P.2.2.2.2
                rw [Nat.add_zero, a1.1, a1.2.1, a1.2.2, a2.1, a2.2.1, a2.2.2]
                refine ⟨rfl, ?_, hvl⟩
                show (p : Int) = ((lexT (g 27) n p).2.1 : Int)
                rw [V.2.2.1]
              | succ i =>
                have := c7 i (by omega)
                rw [show m + 1 + i = m + (i + 1) by omega] at this
                exact this
            · have hN : N - 1 - m = (N - 1 - (m + 1)) + 1 := by omega
              rw [hN]
              exact c8
            · cases i with
              | zero => exact ⟨n155, y3⟩
              | succ i => exact c9 i (by omega)
          · refine k g1 ⟨P.1, P.2.1, fun i hi => P.2.2.2.1 i (by omega), m + 1, by omega, by omega, P.2.2.1, fun i hi => ?_, ?_, fun i hi => by omega⟩
            · have : i = 0 := by omega
              subst this
              rw [Nat.add_zero]
              have a2 := P.2.2.2.2
              rw [a2.1, a2.2.1, a2.2.2]
              refine ⟨rfl, ?_, hvl⟩
              show (p : Int) = ((lexT (g 27) n p).2.1 : Int)
              rw [V.2.2.1]
            · rw [show m + 1 - 1 - m = 0 by omega]
              exact Or.inr y3
        first | with_reducible refine c_lt ?_ ?_ (fun y1 => ?_) (fun y1 => ?_) | with_reducible refine c_le ?_ ?_ (fun y1 => ?_) (fun y1 => ?_) | with_reducible refine c_eq ?_ ?_ (fun y1 => ?_) (fun y1 => ?_) | with_reducible refine c_ne ?_ ?_ (fun y1 => ?_) (fun y1 => ?_)
        · omega
        · omega
        · omega
        · refine s_inN ?_ (fun ea => ?_)
          · omega
          try simp only [ea]
          clear ea
          first | with_reducible refine c_lt ?_ ?_ (fun y2 => ?_) (fun y2 => ?_) | with_reducible refine c_le ?_ ?_ (fun y2 => ?_) (fun y2 => ?_) | with_reducible refine c_eq ?_ ?_ (fun y2 => ?_) (fun y2 => ?_) | with_reducible refine c_ne ?_ ?_ (fun y2 => ?_) (fun y2 => ?_)
          · omega
          · omega
          · omega
          · refine sX8_kindOf hb hpn hn hbl ?_
            have kr := ok.1
            first | with_reducible refine c_lt ?_ ?_ (fun y3 => ?_) (fun y3 => ?_) | with_reducible refine c_le ?_ ?_ (fun y3 => ?_) (fun y3 => ?_) | with_reducible refine c_eq ?_ ?_ (fun y3 => ?_) (fun y3 => ?_) | with_reducible refine c_ne ?_ ?_ (fun y3 => ?_) (fun y3 => ?_)
            · omega
            · omega
            · exact main 0 (V.2.1 y3).symm
            · have e3 := ok.2.2.1
              have e4 := ok.2.2.2.1
              rw [V.2.2.1] at e3
              rw [show ((lexT (g 27) n p).2.2.1 : Int) = ((p + ((lexT (g 27) n p).2.2.1 - p) : Nat) : Int) by omega]
              refine sX8_valueOf (by omega) ?_
              rw [show ((p + ((lexT (g 27) n p).2.2.1 - p) : Nat) : Int) = ((lexT (g 27) n p).2.2.1 : Int) by omega]
              exact main _ (V.1 y3).symm
theorem sX8_cut {T : Nat × (Nat → Int32)} {d : Nat} {Q : mz_K} {X : mz_X} {g : mz_S} {n : Nat} (hb : WfBy g) (hn : n ≤ 400) (k : ∀ g', CutO g n 0 0 g' → Q 0 g') : zC T (d + 9) 113 [mx_R 26, mx_I (n : Int)] g Q X := by
  refine zX8_cut ?_
  intro g1 e1
  have c1 : Ch [26, 28, 29, 30] [] g g1 := by rw [e1]; exact (Ch.rf g).up (by decide) (by decide)
  have e27 : g1 27 = g 27 := c1.1 27 (by decide) (by decide)
  refine cut_loop hn (n + 1) 0 0 g1 none none (by omega) (Nat.zero_le _) (fun i hi => by rw [e27]; exact hb i hi) (by rw [e1, up_s]; rfl) (Nat.le_refl _) (fun g' hg' => k g' ?_)
  obtain ⟨a1, a2, a3, N, a4, a5, a6, a7, a8, a9⟩ := hg'
  rw [e27] at a7 a8 a9
  exact ⟨c1.tr a1, fun q hq => by rw [a2 q hq, e1, up_i hq], fun i hi => absurd hi (Nat.not_lt_zero _), N, a4, a5, a6, a7, a8, a9⟩
