/-! the calls pour, book -/
def pourP (g : mz_S) (f p t a n : Int) : Prop := 0 ≤ n ∧ (0 ≤ p ∧ p ≤ g 97 f.toNat - n) ∧ (0 ≤ a ∧ a ≤ g 97 t.toNat - n)
theorem sX12_pour {T : Nat × (Nat → Int32)} {d : Nat} {Q : mz_K} {X : mz_X} {g : mz_S} {c : mz_S} {f p t a n : Int} (w : WfT c) (h : ReT c g) (hf : R32 f) (hp : R32 p) (ht : R32 t) (ha : R32 a) (hn : R32 n) (k1 : ¬ ((0 ≤ f ∧ f ≤ 3) ∧ (0 ≤ t ∧ t ≤ 3)) → Q 0 (mx_up g 99 0 1)) (k2 : (0 ≤ f ∧ f ≤ 3) ∧ (0 ≤ t ∧ t ≤ 3) → ¬ (¬ c 96 f.toNat = -1 ∧ ¬ c 96 t.toNat = -1 ∧ c 96 f.toNat = c 96 t.toNat) → Q 0 (mx_up g 99 0 2)) (k3 : (0 ≤ f ∧ f ≤ 3) ∧ (0 ≤ t ∧ t ≤ 3) → (¬ c 96 f.toNat = -1 ∧ ¬ c 96 t.toNat = -1 ∧ c 96 f.toNat = c 96 t.toNat) → ¬ pourP c f p t a n → Q 0 (mx_up (mx_up g 99 0 0) 99 0 3)) (k4 : (0 ≤ f ∧ f ≤ 3) ∧ (0 ≤ t ∧ t ≤ 3) → (¬ c 96 f.toNat = -1 ∧ ¬ c 96 t.toNat = -1 ∧ c 96 f.toNat = c 96 t.toNat) → pourP c f p t a n → Q 0 (rngS (rngS (mx_up g 99 0 0) 178 0 (fun j => g 177 ((f * 60 + p).toNat + j)) n.toNat) 177 (t * 60 + a).toNat (fun j => g 177 ((f * 60 + p).toNat + j)) n.toNat)) : zC T (d + 3) 327 [mx_R 99, mx_I f, mx_I p, mx_I t, mx_I a, mx_I n] g Q X := by
  have f1 : ¬ ((0 ≤ f ∧ f ≤ 3) ∧ (0 ≤ t ∧ t ≤ 3)) → aX12_pour T (d + 2) Q X 59 [some (mx_R 99), some (mx_I f), some (mx_I p), some (mx_I t), some (mx_I a), some (mx_I n), none] [mx_I 1, mx_R 99] g (0, 0) := by
    intro z
    refine zX12_pour_59 ?_
    rintro _ rfl
    rw [up_s]
    exact ⟨fun z => absurd z (by decide), fun _ => k1 z⟩
  have f2 : (0 ≤ f ∧ f ≤ 3) ∧ (0 ≤ t ∧ t ≤ 3) → ¬ (¬ c 96 f.toNat = -1 ∧ ¬ c 96 t.toNat = -1 ∧ c 96 f.toNat = c 96 t.toNat) → aX12_pour T (d + 2) Q X 59 [some (mx_R 99), some (mx_I f), some (mx_I p), some (mx_I t), some (mx_I a), some (mx_I n), none] [mx_I 2, mx_R 99] g (0, 0) := by
    intro z z2
    refine zX12_pour_59 ?_
    rintro _ rfl
    rw [up_s]
    exact ⟨fun z => absurd z (by decide), fun _ => k2 z z2⟩
  have f3 : (0 ≤ f ∧ f ≤ 3) ∧ (0 ≤ t ∧ t ≤ 3) → (¬ c 96 f.toNat = -1 ∧ ¬ c 96 t.toNat = -1 ∧ c 96 f.toNat = c 96 t.toNat) → aX12_pour T (d + 2) Q X 59 [some (mx_R 99), some (mx_I f), some (mx_I p), some (mx_I t), some (mx_I a), some (mx_I n), none] [mx_I 0, mx_R 99] g (0, 0) := by
    intro z z2
    have wf := w.1 f.toNat (by omega)
    have wt := w.1 t.toNat (by omega)
    have rf := h f.toNat (by omega)
    have rt := h t.toNat (by omega)
    have no : ¬ pourP c f p t a n → aX12_pour T (d + 2) Q X 111 [some (mx_R 99), some (mx_I f), some (mx_I p), some (mx_I t), some (mx_I a), some (mx_I n), none] [] (mx_up g 99 0 0) (0, 0) := by
      intro z3
      refine zX12_pour_111 ?_
      rintro _ rfl
      exact k3 z z2 z3
    unfold pourP at no
    refine zX12_pour_59 ?_
    intro G eG
    have e9 : G 99 0 = 0 := by rw [eG, up_s]
    have e176 : G 176 = g 176 := by rw [eG]; funext i; exact up_q (by decide)
    have e177 : G 177 = g 177 := by rw [eG]; funext i; exact up_q (by decide)
    rw [← eG] at no
    rw [e9, e176]
    refine ⟨fun _ => ?_, fun z => absurd (by decide) z⟩
    first | with_reducible refine c_lt ?_ ?_ (fun h1 => ?_) (fun h1 => ?_) | with_reducible refine c_le ?_ ?_ (fun h1 => ?_) (fun h1 => ?_) | with_reducible refine c_eq ?_ ?_ (fun h1 => ?_) (fun h1 => ?_) | with_reducible refine c_ne ?_ ?_ (fun h1 => ?_) (fun h1 => ?_)
    · omega
    · omega
    · exact no (by omega)
    · first | with_reducible refine c_lt ?_ ?_ (fun h2 => ?_) (fun h2 => ?_) | with_reducible refine c_le ?_ ?_ (fun h2 => ?_) (fun h2 => ?_) | with_reducible refine c_eq ?_ ?_ (fun h2 => ?_) (fun h2 => ?_) | with_reducible refine c_ne ?_ ?_ (fun h2 => ?_) (fun h2 => ?_)
      · omega
      · omega
      · exact no (by omega)
      · first | with_reducible refine c_lt ?_ ?_ (fun h3 => ?_) (fun h3 => ?_) | with_reducible refine c_le ?_ ?_ (fun h3 => ?_) (fun h3 => ?_) | with_reducible refine c_eq ?_ ?_ (fun h3 => ?_) (fun h3 => ?_) | with_reducible refine c_ne ?_ ?_ (fun h3 => ?_) (fun h3 => ?_)
        · omega
        · omega
        · exact no (by omega)
        · refine s_in ?_ (fun ea => ?_)
          · omega
          try simp only [ea]
          clear ea
          rw [rf.2.1]
          first | with_reducible refine c_lt ?_ ?_ (fun h4 => ?_) (fun h4 => ?_) | with_reducible refine c_le ?_ ?_ (fun h4 => ?_) (fun h4 => ?_) | with_reducible refine c_eq ?_ ?_ (fun h4 => ?_) (fun h4 => ?_) | with_reducible refine c_ne ?_ ?_ (fun h4 => ?_) (fun h4 => ?_)
          · omega
          · omega
          · exact no (by omega)
          · refine s_in ?_ (fun ea => ?_)
            · omega
            try simp only [ea]
            clear ea
            rw [rt.2.1]
            first | with_reducible refine c_lt ?_ ?_ (fun h5 => ?_) (fun h5 => ?_) | with_reducible refine c_le ?_ ?_ (fun h5 => ?_) (fun h5 => ?_) | with_reducible refine c_eq ?_ ?_ (fun h5 => ?_) (fun h5 => ?_) | with_reducible refine c_ne ?_ ?_ (fun h5 => ?_) (fun h5 => ?_)
            · omega
            · omega
            · have k := k4 z z2 (by unfold pourP; omega)
              rw [← eG] at k
              have g2 : ∀ i : Nat, i ≤ n.toNat → aX12_pour T (d + 2) Q X 157 [some (mx_R 99), some (mx_I f), some (mx_I p), some (mx_I t), some (mx_I a), some (mx_I n), some (mx_I (i : Int))] [] (rngS (rngS G 178 0 (fun j => g 177 ((f * 60 + p).toNat + j)) n.toNat) 177 (t * 60 + a).toNat (fun j => g 177 ((f * 60 + p).toNat + j)) i) (0, 0) := by
                refine upto ?_ (fun i hi ih => ?_)
                · refine zX12_pour_157 ?_
                  first | with_reducible refine c_lt ?_ ?_ (fun h6 => ?_) (fun h6 => ?_) | with_reducible refine c_le ?_ ?_ (fun h6 => ?_) (fun h6 => ?_) | with_reducible refine c_eq ?_ ?_ (fun h6 => ?_) (fun h6 => ?_) | with_reducible refine c_ne ?_ ?_ (fun h6 => ?_) (fun h6 => ?_)
                  · omega
                  · omega
                  · exact k
                  · omega
                · refine zX12_pour_157 ?_
                  first | with_reducible refine c_lt ?_ ?_ (fun h6 => ?_) (fun h6 => ?_) | with_reducible refine c_le ?_ ?_ (fun h6 => ?_) (fun h6 => ?_) | with_reducible refine c_eq ?_ ?_ (fun h6 => ?_) (fun h6 => ?_) | with_reducible refine c_ne ?_ ?_ (fun h6 => ?_) (fun h6 => ?_)
                  · omega
                  · omega
                  · omega
                  · refine s_inN ?_ (fun ea => ?_)
                    · omega
                    try simp only [ea]
                    clear ea
                    refine s_inE ((t * 60 + a).toNat + i) ?_ ?_ (fun ea => ?_)
                    · omega
                    · omega
                    try simp only [ea]
                    clear ea
                    rintro _ rfl
                    rw [rngS_s (by rw [rngS_n (by decide), rngS_at, if_pos rfl]; unfold lrng; rw [if_pos (by omega)]; rfl)]
                    exact ih
              have g1 : ∀ i : Nat, i ≤ n.toNat → aX12_pour T (d + 2) Q X 120 [some (mx_R 99), some (mx_I f), some (mx_I p), some (mx_I t), some (mx_I a), some (mx_I n), some (mx_I (i : Int))] [] (rngS G 178 0 (fun j => g 177 ((f * 60 + p).toNat + j)) i) (0, 0) := by
                refine upto ?_ (fun i hi ih => ?_)
                · refine zX12_pour_120 ?_
                  first | with_reducible refine c_lt ?_ ?_ (fun h6 => ?_) (fun h6 => ?_) | with_reducible refine c_le ?_ ?_ (fun h6 => ?_) (fun h6 => ?_) | with_reducible refine c_eq ?_ ?_ (fun h6 => ?_) (fun h6 => ?_) | with_reducible refine c_ne ?_ ?_ (fun h6 => ?_) (fun h6 => ?_)
                  · omega
                  · omega
                  · have := g2 0 (by omega)
                    rw [rngS_0] at this
                    exact this
                  · omega
                · refine zX12_pour_120 ?_
                  first | with_reducible refine c_lt ?_ ?_ (fun h6 => ?_) (fun h6 => ?_) | with_reducible refine c_le ?_ ?_ (fun h6 => ?_) (fun h6 => ?_) | with_reducible refine c_eq ?_ ?_ (fun h6 => ?_) (fun h6 => ?_) | with_reducible refine c_ne ?_ ?_ (fun h6 => ?_) (fun h6 => ?_)
                  · omega
                  · omega
                  · omega
                  · refine s_inE ((f * 60 + p).toNat + i) ?_ ?_ (fun ea => ?_)
                    · omega
                    · omega
                    try simp only [ea]
                    clear ea
                    refine s_inN ?_ (fun ea => ?_)
                    · omega
                    try simp only [ea]
                    clear ea
                    rintro _ rfl
                    have := rngS_s (g := G) (q := 178) (b := 0) (f := fun j => g 177 ((f * 60 + p).toNat + j)) (m := i) (v := rngS G 178 0 (fun j => g 177 ((f * 60 + p).toNat + j)) i 177 ((f * 60 + p).toNat + i)) (by rw [rngS_n (by decide), e177])
                    rw [Nat.zero_add] at this
                    rw [this]
                    exact ih
              have := g1 0 (by omega)
              rw [rngS_0] at this
              exact this
            · exact no (by omega)
  refine zX12_pour (sX12_isTray hf ?_)
  first | with_reducible refine b_eq (fun h1 => ?_) (fun h1 => ?_) | with_reducible refine b_ne (fun h1 => ?_) (fun h1 => ?_)
  · exact zX12_pour_15 (f1 (fun z => h1 z.1))
  · refine sX12_isTray ht ?_
    first | with_reducible refine b_eq (fun h2 => ?_) (fun h2 => ?_) | with_reducible refine b_ne (fun h2 => ?_) (fun h2 => ?_)
    · have wf := w.1 f.toNat (by omega)
      have wt := w.1 t.toNat (by omega)
      have rf := h f.toNat (by omega)
      have rt := h t.toNat (by omega)
      refine s_in ?_ (fun ea => ?_)
      · omega
      try simp only [ea]
      clear ea
      rw [rf.1]
      first | with_reducible refine c_lt ?_ ?_ (fun h3 => ?_) (fun h3 => ?_) | with_reducible refine c_le ?_ ?_ (fun h3 => ?_) (fun h3 => ?_) | with_reducible refine c_eq ?_ ?_ (fun h3 => ?_) (fun h3 => ?_) | with_reducible refine c_ne ?_ ?_ (fun h3 => ?_) (fun h3 => ?_)
      · omega
      · omega
      · exact zX12_pour_54 (f2 ⟨h1, h2⟩ (fun z => z.1 h3))
      · refine s_in ?_ (fun ea => ?_)
        · omega
        try simp only [ea]
        clear ea
        rw [rt.1]
        first | with_reducible refine c_lt ?_ ?_ (fun h4 => ?_) (fun h4 => ?_) | with_reducible refine c_le ?_ ?_ (fun h4 => ?_) (fun h4 => ?_) | with_reducible refine c_eq ?_ ?_ (fun h4 => ?_) (fun h4 => ?_) | with_reducible refine c_ne ?_ ?_ (fun h4 => ?_) (fun h4 => ?_)
        · omega
        · omega
        · exact zX12_pour_54 (f2 ⟨h1, h2⟩ (fun z => z.2.1 h4))
        · refine s_in ?_ (fun ea => ?_)
          · omega
          try simp only [ea]
          clear ea
          refine s_in ?_ (fun ea => ?_)
          · omega
          try simp only [ea]
          clear ea
          first | with_reducible refine c_lt ?_ ?_ (fun h5 => ?_) (fun h5 => ?_) | with_reducible refine c_le ?_ ?_ (fun h5 => ?_) (fun h5 => ?_) | with_reducible refine c_eq ?_ ?_ (fun h5 => ?_) (fun h5 => ?_) | with_reducible refine c_ne ?_ ?_ (fun h5 => ?_) (fun h5 => ?_)
          · omega
          · omega
          · exact f3 ⟨h1, h2⟩ ⟨h3, h4, h5⟩
          · exact zX12_pour_54 (f2 ⟨h1, h2⟩ (fun z => h5 z.2.2))
    · exact zX12_pour_15 (f1 (fun z => h2 z.2))
theorem C_pour {T : Nat × (Nat → Int32)} {d : Nat} {X X' : mz_X} {g : mz_S} {f p t a n : Int} (w : IT g) (hf : R32 f) (hp : R32 p) (ht : R32 t) (ha : R32 a) (hn : R32 n) : zC T (d + 4) 390 [mx_R 0, mx_I f, mx_I p, mx_I t, mx_I a, mx_I n] g (fun kk g1 => zC T (d + 4) 327 [mx_R 99, mx_I f, mx_I p, mx_I t, mx_I a, mx_I n] g1 (fun _ g2 => AnsV kk g2 ∧ IT g2 ∧ Qy [98, 177, 178] [0] g g2) X') X := by
  have w1 := w.1
  have ok : ∀ (G : mz_S) (n : Int), (1 ≤ n ∧ n ≤ 3) → Ch [] [0] g G → G 99 0 = n → AnsV n G ∧ IT G ∧ Qy [98, 177, 178] [0] g G := fun G n hn hc e => ⟨⟨by omega, e⟩, w.fr hc (by decide), hc.sub (by decide) (by decide), fun z => z.fr hc (by decide)⟩
  have no1 : ¬ ((0 ≤ f ∧ f ≤ 3) ∧ (0 ≤ t ∧ t ≤ 3)) → zC T (d + 4) 327 [mx_R 99, mx_I f, mx_I p, mx_I t, mx_I a, mx_I n] g (fun _ g2 => AnsV 1 g2 ∧ IT g2 ∧ Qy [98, 177, 178] [0] g g2) X' := fun z => sX12_pour w1 w.2 hf hp ht ha hn (fun _ => ok _ 1 (by omega) (ch_0 g 1) up_s) (fun z2 => absurd z2 z) (fun z2 => absurd z2 z) (fun z2 => absurd z2 z)
  have no2 : (0 ≤ f ∧ f ≤ 3) ∧ (0 ≤ t ∧ t ≤ 3) → ¬ (¬ g 96 f.toNat = -1 ∧ ¬ g 96 t.toNat = -1 ∧ g 96 f.toNat = g 96 t.toNat) → zC T (d + 4) 327 [mx_R 99, mx_I f, mx_I p, mx_I t, mx_I a, mx_I n] g (fun _ g2 => AnsV 2 g2 ∧ IT g2 ∧ Qy [98, 177, 178] [0] g g2) X' := fun z z2 => sX12_pour w1 w.2 hf hp ht ha hn (fun z3 => absurd z z3) (fun _ _ => ok _ 2 (by omega) (ch_0 g 2) up_s) (fun _ z3 => absurd z3 z2) (fun _ z3 => absurd z3 z2)
  have no3 : (0 ≤ f ∧ f ≤ 3) ∧ (0 ≤ t ∧ t ≤ 3) → (¬ g 96 f.toNat = -1 ∧ ¬ g 96 t.toNat = -1 ∧ g 96 f.toNat = g 96 t.toNat) → ¬ pourP g f p t a n → zC T (d + 4) 327 [mx_R 99, mx_I f, mx_I p, mx_I t, mx_I a, mx_I n] g (fun _ g2 => AnsV 3 g2 ∧ IT g2 ∧ Qy [98, 177, 178] [0] g g2) X' := fun z z2 z3 => sX12_pour w1 w.2 hf hp ht ha hn (fun z4 => absurd z z4) (fun _ z4 => absurd z2 z4) (fun _ _ _ => ok _ 3 (by omega) (ch_bad g 3) up_s) (fun _ _ z4 => absurd z4 z3)
  have rng : ∀ t : Int, 0 ≤ t ∧ t ≤ 3 → (-1 ≤ g 96 t.toNat ∧ g 96 t.toNat ≤ 3) ∧ (0 ≤ g 97 t.toNat ∧ g 97 t.toNat ≤ 60) := fun t z => w1.1 t.toNat (by omega)
  refine wL_pour (zX11_pour (sX11_isTray hf ?_))
  first | with_reducible refine b_eq (fun h1 => ?_) (fun h1 => ?_) | with_reducible refine b_ne (fun h1 => ?_) (fun h1 => ?_)
  · exact zX11_pour_18 (zX11_pour_19 ⟨by decide, by decide, nF_f (Or.inl ⟨rfl, no1 (fun z => h1 z.1)⟩)⟩)
  · refine sX11_isTray ht ?_
    first | with_reducible refine b_eq (fun h2 => ?_) (fun h2 => ?_) | with_reducible refine b_ne (fun h2 => ?_) (fun h2 => ?_)
    · exact zX11_pour_18 (zX11_pour_19 ⟨by decide, by decide, nF_f (Or.inl ⟨rfl, no1 (fun z => h2 z.2)⟩)⟩)
    · have r1 := rng f h1
      have r2 := rng t h2
      refine zX11_pour_19 ⟨by decide, by decide, nF_t (sX9_isMissing w1 h1 ?_)⟩
      first | with_reducible refine b_eq (fun h3 => ?_) (fun h3 => ?_) | with_reducible refine b_ne (fun h3 => ?_) (fun h3 => ?_)
      · exact zX11_pour_69 (zX11_pour_70 ⟨by decide, by decide, nS_f (Or.inr (Or.inl ⟨rfl, no2 ⟨h1, h2⟩ (fun z => z.1 h3)⟩))⟩)
      · refine sX9_isMissing w1 h2 ?_
        first | with_reducible refine b_eq (fun h4 => ?_) (fun h4 => ?_) | with_reducible refine b_ne (fun h4 => ?_) (fun h4 => ?_)
        · exact zX11_pour_69 (zX11_pour_70 ⟨by decide, by decide, nS_f (Or.inr (Or.inl ⟨rfl, no2 ⟨h1, h2⟩ (fun z => z.2.1 h4)⟩))⟩)
        · refine s_in ?_ (fun ea => ?_)
          · omega
          try simp only [ea]
          clear ea
          refine s_in ?_ (fun ea => ?_)
          · omega
          try simp only [ea]
          clear ea
          first | with_reducible refine c_lt ?_ ?_ (fun h5 => ?_) (fun h5 => ?_) | with_reducible refine c_le ?_ ?_ (fun h5 => ?_) (fun h5 => ?_) | with_reducible refine c_eq ?_ ?_ (fun h5 => ?_) (fun h5 => ?_) | with_reducible refine c_ne ?_ ?_ (fun h5 => ?_) (fun h5 => ?_)
          · omega
          · omega
          · exact zX11_pour_69 (zX11_pour_70 ⟨by decide, by decide, nS_f (Or.inr (Or.inl ⟨rfl, no2 ⟨h1, h2⟩ (fun z => h5 z.2.2)⟩))⟩)
          · have N3 := no3 ⟨h1, h2⟩ ⟨h3, h4, h5⟩
            have fin : ¬ pourP g f p t a n → aX11_pour T (d + 2) (fun r g1 => zC T (d + 4) 327 [mx_R 99, mx_I f, mx_I p, mx_I t, mx_I a, mx_I n] g1 (fun _ g2 => AnsV 0 g2 ∧ IT g2 ∧ Qy [98, 177, 178] [0] g g2) X') (fun e g1 => (e = 0 ∧ zC T (d + 4) 327 [mx_R 99, mx_I f, mx_I p, mx_I t, mx_I a, mx_I n] g1 (fun _ g2 => AnsV 1 g2 ∧ IT g2 ∧ Qy [98, 177, 178] [0] g g2) X') ∨ (e = 2 ∧ zC T (d + 4) 327 [mx_R 99, mx_I f, mx_I p, mx_I t, mx_I a, mx_I n] g1 (fun _ g2 => AnsV 2 g2 ∧ IT g2 ∧ Qy [98, 177, 178] [0] g g2) X') ∨ (e = 3 ∧ zC T (d + 4) 327 [mx_R 99, mx_I f, mx_I p, mx_I t, mx_I a, mx_I n] g1 (fun _ g2 => AnsV 3 g2 ∧ IT g2 ∧ Qy [98, 177, 178] [0] g g2) X')) 123 [some (mx_R 0), some (mx_I f), some (mx_I p), some (mx_I t), some (mx_I a), some (mx_I n)] [] g (0 + 1 + 1, 0 + 6 + 6) := fun z => zX11_pour_123 (zX11_pour_124 ⟨by decide, by decide, nP_f (Or.inr (Or.inr ⟨rfl, N3 z⟩))⟩)
            unfold pourP at fin
            refine zX11_pour_70 ⟨by decide, by decide, nS_t ?_⟩
            first | with_reducible refine c_lt ?_ ?_ (fun h6 => ?_) (fun h6 => ?_) | with_reducible refine c_le ?_ ?_ (fun h6 => ?_) (fun h6 => ?_) | with_reducible refine c_eq ?_ ?_ (fun h6 => ?_) (fun h6 => ?_) | with_reducible refine c_ne ?_ ?_ (fun h6 => ?_) (fun h6 => ?_)
            · omega
            · omega
            · exact fin (by omega)
            · refine s_in ?_ (fun ea => ?_)
              · omega
              try simp only [ea]
              clear ea
              refine sX11_within hp (by omega) (by omega) ?_
              first | with_reducible refine b_eq (fun h7 => ?_) (fun h7 => ?_) | with_reducible refine b_ne (fun h7 => ?_) (fun h7 => ?_)
              · exact fin (by omega)
              · refine s_in ?_ (fun ea => ?_)
                · omega
                try simp only [ea]
                clear ea
                refine sX11_within ha (by omega) (by omega) ?_
                first | with_reducible refine b_eq (fun h8 => ?_) (fun h8 => ?_) | with_reducible refine b_ne (fun h8 => ?_) (fun h8 => ?_)
                · exact fin (by omega)
                · refine zX11_pour_124 ⟨by decide, by decide, nP_t (zX9_copy ?_)⟩
                  have wn : w32 n = n := w32_of hn.1 hn.2
                  have w3 : w32 (f * 60 + p) = f * 60 + p := w32_of (by omega) (by omega)
                  have w4 : w32 (t * 60 + a) = t * 60 + a := w32_of (by omega) (by omega)
                  have a1 : mx_at n = n.toNat := by unfold mx_at; rw [wn]
                  have a3 : mx_at (f * 60 + p) = (f * 60 + p).toNat := by unfold mx_at; rw [w3]
                  have a4 : mx_at (t * 60 + a) = (t * 60 + a).toNat := by unfold mx_at; rw [w4]
                  rw [wn, w3, w4, a1, a3, a4]
                  refine ⟨by omega, by omega, by omega, by omega, by omega, ?_⟩
                  intro g1 e1
                  have c1 : Ch [98] [0] g g1 := by
                    rw [e1]
                    exact (Ch.rf (S := [98]) (F := [0]) g).rng (q := 98) (b := (t * 60 + a).toNat) (m := n.toNat) (f := fun j => g 98 ((f * 60 + p).toNat + j)) (by decide) (by decide)
                  have z0 : 0 ≤ n ∧ (0 ≤ p ∧ p ≤ g 97 f.toNat - n) ∧ (0 ≤ a ∧ a ≤ g 97 t.toNat - n) := by omega
                  refine sX12_pour w1 (w.2.fr c1 (by decide)) hf hp ht ha hn (fun z => absurd ⟨h1, h2⟩ z) (fun _ z => absurd ⟨h3, h4, h5⟩ z) (fun _ _ z => absurd z0 z) (fun _ _ _ => ?_)
                  rw [c1.1 177 (by decide) (by decide)]
                  obtain ⟨g2, e2⟩ : ∃ g2, g2 = rngS (rngS (mx_up g1 99 0 0) 178 0 (fun j => g 177 ((f * 60 + p).toNat + j)) n.toNat) 177 (t * 60 + a).toNat (fun j => g 177 ((f * 60 + p).toNat + j)) n.toNat := ⟨_, rfl⟩
                  rw [← e2]
                  have c2 : Ch [98, 177, 178] [0] g g2 := by
                    rw [e2]
                    repeat' first | exact c1.sub (by decide) (by decide) | refine Ch.up9 ?_ (by decide) | refine Ch.up ?_ (by decide) (by decide) | refine Ch.rng ?_ (by decide) (by decide)
                  have e1' : g1 = rngS g 98 (t * 60 + a).toNat (fun j => g 98 ((f * 60 + p).toNat + j)) n.toNat := e1
                  have q98 : g2 98 = lrng (g 98) (t * 60 + a).toNat (fun j => g 98 ((f * 60 + p).toNat + j)) n.toNat := by rw [e2, e1']; simp [up_at, rngS_at]
                  have q177 : g2 177 = lrng (g 177) (t * 60 + a).toNat (fun j => g 177 ((f * 60 + p).toNat + j)) n.toNat := by rw [e2, e1']; simp [up_at, rngS_at]
                  refine ⟨⟨by omega, by rw [e2]; simp [up_at, rngS_at, lset]⟩, ?_, c2, fun z => z.fr c2 (by decide)⟩
                  have e : ∀ q ∈ [96, 97, 175, 176], g2 q = g q := fun q hq => c2.1 q (by revert hq; revert q; decide) (by intro z; subst z; revert hq; decide)
                  unfold IT WfT ReT at w ⊢
                  rw [e 96 (by decide), e 97 (by decide), e 175 (by decide), e 176 (by decide), q98, q177]
                  obtain ⟨⟨a1, a2⟩, a3⟩ := w
                  refine ⟨⟨a1, fun j hj => ?_⟩, fun i hi => ⟨(a3 i hi).1, (a3 i hi).2.1, fun j hj => ?_⟩⟩
                  · unfold lrng
                    split
                    · exact a2 _ (by omega)
                    · exact a2 j hj
                  · have h9 := (a3 i hi).2.2 j hj
                    have h11 := a1 i hi
                    unfold lrng
                    by_cases z : (t * 60 + a).toNat ≤ i * 60 + j ∧ i * 60 + j < (t * 60 + a).toNat + n.toNat
                    · rw [if_pos z, if_pos z]
                      have h10 := (a3 f.toNat (by omega)).2.2 (p.toNat + (i * 60 + j - (t * 60 + a).toNat)) (by omega)
                      show g 177 ((f * 60 + p).toNat + (i * 60 + j - (t * 60 + a).toNat)) = g 98 ((f * 60 + p).toNat + (i * 60 + j - (t * 60 + a).toNat))
                      rw [show (f * 60 + p).toNat + (i * 60 + j - (t * 60 + a).toNat) = f.toNat * 60 + (p.toNat + (i * 60 + j - (t * 60 + a).toNat)) by omega]
                      exact h10
                    · rw [if_neg z, if_neg z]; exact h9
theorem sX9_isMissingN {T : Nat × (Nat → Int32)} {d : Nat} {Q : mz_K} {X : mz_X} {g : mz_S} {t : Nat} (w : WfT g) (ht : t < 4) (k : Q (pI (g 96 t = -1)) g) : zC T (d + 1) 122 [mx_R 95, mx_I (t : Int)] g Q X := sX9_isMissing w (by omega) k
/-- book -/
def bookN (c : mz_S) (b p : Nat) : Int := if p < 4 then c 14 (b * 4 + p) else netC c b (p / 4 - 1) (p % 4)
theorem sX11_bookNumber {T : Nat × (Nat → Int32)} {d : Nat} {Q : mz_K} {X : mz_X} {g : mz_S} {b p : Nat} (wb : WfB g) (hb : b < 12) (hp : p < 52) (k : Q (bookN g b p) g) : zC T (d + 3) 205 [mx_R 0, mx_I (b : Int), mx_I (p : Int)] g Q X := by
  unfold bookN at k
  refine zX11_bookNumber ?_
  first | with_reducible refine c_lt ?_ ?_ (fun h => ?_) (fun h => ?_) | with_reducible refine c_le ?_ ?_ (fun h => ?_) (fun h => ?_) | with_reducible refine c_eq ?_ ?_ (fun h => ?_) (fun h => ?_) | with_reducible refine c_ne ?_ ?_ (fun h => ?_) (fun h => ?_)
  · omega
  · omega
  · rw [if_neg (by omega)] at k
    rw [idiv_of (by omega) (by omega), irem_of (by omega) (by omega)]
    refine ⟨by decide, by decide, sX6_netI (by omega) (by omega) (by omega) ?_⟩
    rw [show ((b : Int)).toNat = b by omega, show ((p : Int) / 4 - 1).toNat = p / 4 - 1 by omega, show ((p : Int) % 4).toNat = p % 4 by omega]
    exact k
  · rw [if_pos (by omega)] at k
    have := wb.2.2 (b * 4 + p) (by omega)
    refine sX0_has (by omega) (by omega) ?_
    rw [show ((b : Int) * 4 + (p : Int)).toNat = b * 4 + p by omega, w32_of (by omega) (by omega)]
    exact k
theorem bookN_rng {c : mz_S} (wb : WfB c) (w : WfG c) {b p : Nat} (hb : b < 12) (hp : p < 52) : R64 (bookN c b p) := by
  unfold bookN
  split
  · have := wb.2.2 (b * 4 + p) (by omega); omega
  · have := w.2.2.1 ((b * 12 + (p / 4 - 1)) * 4 + p % 4) (by omega)
    unfold netC; omega
theorem sX11_book {T : Nat × (Nat → Int32)} {d : Nat} {Q : mz_K} {X : mz_X} {g : mz_S} {b t : Nat} (wb : WfB g) (w : WfG g) (wt : WfT g) (hb : (b : Int) < g 9 1) (ht : t < 4) (k1 : g 96 t = -1 → Q (-2) g) (k2 : ¬ g 96 t = -1 → ∀ p : Nat, (p : Int) < g 97 t → (p : Int) < 4 + 4 * g 9 1 → (∀ q, q < p → g 98 (t * 60 + q) = bookN g b q) → ¬ g 98 (t * 60 + p) = bookN g b p → Q p g) (k3 : ¬ g 96 t = -1 → (∀ q : Nat, (q : Int) < g 97 t → (q : Int) < 4 + 4 * g 9 1 → g 98 (t * 60 + q) = bookN g b q) → Q (if 4 + 4 * g 9 1 ≤ g 97 t then -1 else -3 - g 97 t) g) : zC T (d + 4) 204 [mx_R 0, mx_I (b : Int), mx_I (t : Int)] g Q X := by
  have h9 := wb.1
  have h7 := wt.1 t ht
  refine zX11_book (sX11_isBroker (by omega) h9 ?_)
  first | with_reducible refine b_eq (fun z1 => ?_) (fun z1 => ?_) | with_reducible refine b_ne (fun z1 => ?_) (fun z1 => ?_)
  · omega
  · refine sX11_isTray (by omega) ?_
    first | with_reducible refine b_eq (fun z2 => ?_) (fun z2 => ?_) | with_reducible refine b_ne (fun z2 => ?_) (fun z2 => ?_)
    · omega
    · refine zX11_book_20 ⟨by decide, by decide, nF_t (sX9_isMissingN wt ht ?_)⟩
      first | with_reducible refine b_eq (fun z3 => ?_) (fun z3 => ?_) | with_reducible refine b_ne (fun z3 => ?_) (fun z3 => ?_)
      · refine s_inN ?_ (fun ea => ?_)
        · omega
        try simp only [ea]
        clear ea
        refine sJ9_min (by omega) (by omega) ?_
        obtain ⟨m, em⟩ : ∃ m : Nat, (m : Int) = min (4 + 4 * g 9 1) (g 97 t) := ⟨(min (4 + 4 * g 9 1) (g 97 t)).toNat, by omega⟩
        rw [← em]
        have main : ∀ i : Nat, i ≤ m → (∀ q, q < i → g 98 (t * 60 + q) = bookN g b q) → aX11_book T (d + 3) Q X 67 [some (mx_R 0), some (mx_I (b : Int)), some (mx_I (t : Int)), some (mx_I (4 + (4 * (g 9 1)))), some (mx_I (m : Int)), some (mx_I (i : Int))] [] g (0 + 1, 0 + 6) := by
          refine upto ?_ (fun i hi ih => ?_)
          · intro hq
            have k := k3 z3 (fun q h1 h2 => hq q (by omega))
            refine zX11_book_67 ?_
            first | with_reducible refine c_lt ?_ ?_ (fun z4 => ?_) (fun z4 => ?_) | with_reducible refine c_le ?_ ?_ (fun z4 => ?_) (fun z4 => ?_) | with_reducible refine c_eq ?_ ?_ (fun z4 => ?_) (fun z4 => ?_) | with_reducible refine c_ne ?_ ?_ (fun z4 => ?_) (fun z4 => ?_)
            · omega
            · omega
            · first | with_reducible refine c_lt ?_ ?_ (fun z5 => ?_) (fun z5 => ?_) | with_reducible refine c_le ?_ ?_ (fun z5 => ?_) (fun z5 => ?_) | with_reducible refine c_eq ?_ ?_ (fun z5 => ?_) (fun z5 => ?_) | with_reducible refine c_ne ?_ ?_ (fun z5 => ?_) (fun z5 => ?_)
              · omega
              · omega
              · rw [if_neg (by omega)] at k
                refine zX11_book_119 ?_
                rw [show (m : Int) = g 97 t by omega]; exact k
              · rw [if_pos (by omega)] at k
                exact zX11_book_119 k
            · omega
          · intro hq
            refine zX11_book_67 ?_
            first | with_reducible refine c_lt ?_ ?_ (fun z4 => ?_) (fun z4 => ?_) | with_reducible refine c_le ?_ ?_ (fun z4 => ?_) (fun z4 => ?_) | with_reducible refine c_eq ?_ ?_ (fun z4 => ?_) (fun z4 => ?_) | with_reducible refine c_ne ?_ ?_ (fun z4 => ?_) (fun z4 => ?_)
            · omega
            · omega
            · omega
            · refine sX9_number (by omega) (by omega) (sX11_bookNumber wb (by omega) (by omega) ?_)
              have r1 := wt.2 (t * 60 + i) (by omega)
              have r2 := bookN_rng wb w (b := b) (p := i) (by omega) (by omega)
              rw [show ((t : Int) * 60 + (i : Int)).toNat = t * 60 + i by omega]
              refine l_eq r1 r2 (fun z5 => ?_) (fun z5 => ?_)
              · refine ih (fun q hq2 => ?_)
                rcases Nat.lt_or_ge q i with z6 | z6
                · exact hq q z6
                · rw [show q = i by omega]; exact z5
              · exact k2 z3 i (by omega) (by omega) hq z5
        exact main 0 (by omega) (fun q hq => by omega)
      · exact k1 z3
theorem sX12_book {T : Nat × (Nat → Int32)} {d : Nat} {Q : mz_K} {X : mz_X} {g : mz_S} {c : mz_S} {b t : Nat} (wb : WfB c) (w : WfG c) (wn : WfN c) (wt : WfT c) (rb : ReB c g) (re : ReE c g) (rt : ReT c g) (hb : (b : Int) < c 9 1) (ht : t < 4) (k1 : c 96 t = -1 → Q (-2) (mx_up g 99 0 0)) (k2 : ¬ c 96 t = -1 → ∀ p : Nat, (p : Int) < c 97 t → (p : Int) < 4 + 4 * c 9 1 → (∀ q, q < p → c 98 (t * 60 + q) = bookN c b q) → ¬ c 98 (t * 60 + p) = bookN c b p → Q p (mx_up g 99 0 0)) (k3 : ¬ c 96 t = -1 → (∀ q : Nat, (q : Int) < c 97 t → (q : Int) < 4 + 4 * c 9 1 → c 98 (t * 60 + q) = bookN c b q) → Q (if 4 + 4 * c 9 1 ≤ c 97 t then -1 else -3 - c 97 t) (mx_up g 99 0 0)) : zC T (d + 3) 328 [mx_R 99, mx_I (b : Int), mx_I (t : Int)] g Q X := by
  have h9 := wb.1
  have h7 := wt.1 t ht
  refine zX12_book ?_
  intro G eG
  rw [← eG] at k1 k2 k3
  have hc : Ch [] [0] g G := by rw [eG]; exact ch_0 g 0
  have rb : ReB c G := rb.fr hc (by decide) (by decide)
  have re : ReE c G := re.fr hc (by decide) (by decide)
  have rt : ReT c G := rt.fr hc (by decide)
  have rti := rt t ht
  refine sX12_isBrokerC rb wb (by omega) ?_
  first | with_reducible refine b_eq (fun z1 => ?_) (fun z1 => ?_) | with_reducible refine b_ne (fun z1 => ?_) (fun z1 => ?_)
  · omega
  · refine sX12_isTray (by omega) ?_
    first | with_reducible refine b_eq (fun z2 => ?_) (fun z2 => ?_) | with_reducible refine b_ne (fun z2 => ?_) (fun z2 => ?_)
    · refine s_inN ?_ (fun ea => ?_)
      · omega
      try simp only [ea]
      clear ea
      rw [rti.1]
      first | with_reducible refine c_lt ?_ ?_ (fun z3 => ?_) (fun z3 => ?_) | with_reducible refine c_le ?_ ?_ (fun z3 => ?_) (fun z3 => ?_) | with_reducible refine c_eq ?_ ?_ (fun z3 => ?_) (fun z3 => ?_) | with_reducible refine c_ne ?_ ?_ (fun z3 => ?_) (fun z3 => ?_)
      · omega
      · omega
      · have main : ∀ i : Nat, i ≤ (4 + 4 * c 9 1).toNat → (∀ q, q < i → (q : Int) < c 97 t ∧ c 98 (t * 60 + q) = bookN c b q) → ∀ o4, aX12_book T (d + 2) Q X 41 [some (mx_R 99), some (mx_I (b : Int)), some (mx_I (t : Int)), some (mx_I (i : Int)), o4, none] [] G (0, 0) := by
          refine upto ?_ (fun i hi ih => ?_)
          · intro hq o4
            refine zX12_book_41 ?_
            rw [rb.1]
            first | with_reducible refine c_lt ?_ ?_ (fun z4 => ?_) (fun z4 => ?_) | with_reducible refine c_le ?_ ?_ (fun z4 => ?_) (fun z4 => ?_) | with_reducible refine c_eq ?_ ?_ (fun z4 => ?_) (fun z4 => ?_) | with_reducible refine c_ne ?_ ?_ (fun z4 => ?_) (fun z4 => ?_)
            · omega
            · omega
            · have k := k3 z3 (fun q h1 h2 => (hq q (by omega)).2)
              have := hq ((4 + 4 * c 9 1).toNat - 1) (by omega)
              rw [if_pos (by omega)] at k
              exact k
            · omega
          · intro hq o4
            have r2 := bookN_rng wb w (b := b) (p := i) (by omega) (by omega)
            have cmp : (i : Int) < c 97 t → ∀ s, s = bookN c b i → ∀ o4, aX12_book T (d + 2) Q X 105 [some (mx_R 99), some (mx_I (b : Int)), some (mx_I (t : Int)), some (mx_I (i : Int)), o4, none] [mx_J s] G (0, 0) := by
              intro hi2 s hs o4
              have r1 := wt.2 (t * 60 + i) (by omega)
              refine zX12_book_105 ?_
              refine s_inE (t * 60 + i) ?_ ?_ (fun ea => ?_)
              · omega
              · omega
              try simp only [ea]
              clear ea
              rw [rti.2.2 i hi2, hs]
              refine l_eq r1 r2 (fun z5 => ?_) (fun z5 => ?_)
              · refine ih (fun q hq2 => ?_) _
                rcases Nat.lt_or_ge q i with z6 | z6
                · exact hq q z6
                · rw [show q = i by omega]; exact ⟨hi2, z5⟩
              · exact k2 z3 i hi2 (by omega) (fun q hq2 => (hq q hq2).2) z5
            refine zX12_book_41 ?_
            rw [rb.1]
            first | with_reducible refine c_lt ?_ ?_ (fun z4 => ?_) (fun z4 => ?_) | with_reducible refine c_le ?_ ?_ (fun z4 => ?_) (fun z4 => ?_) | with_reducible refine c_eq ?_ ?_ (fun z4 => ?_) (fun z4 => ?_) | with_reducible refine c_ne ?_ ?_ (fun z4 => ?_) (fun z4 => ?_)
            · omega
            · omega
            · omega
            · refine s_inN ?_ (fun ea => ?_)
              · omega
              try simp only [ea]
              clear ea
              rw [rti.2.1]
              first | with_reducible refine c_lt ?_ ?_ (fun z5 => ?_) (fun z5 => ?_) | with_reducible refine c_le ?_ ?_ (fun z5 => ?_) (fun z5 => ?_) | with_reducible refine c_eq ?_ ?_ (fun z5 => ?_) (fun z5 => ?_) | with_reducible refine c_ne ?_ ?_ (fun z5 => ?_) (fun z5 => ?_)
              · omega
              · omega
              · first | with_reducible refine c_lt ?_ ?_ (fun z6 => ?_) (fun z6 => ?_) | with_reducible refine c_le ?_ ?_ (fun z6 => ?_) (fun z6 => ?_) | with_reducible refine c_eq ?_ ?_ (fun z6 => ?_) (fun z6 => ?_) | with_reducible refine c_ne ?_ ?_ (fun z6 => ?_) (fun z6 => ?_)
                · omega
                · omega
                · rw [idiv_of (by omega) (by omega), irem_of (by omega) (by omega)]
                  refine ⟨by decide, by decide, sX12_netI w wn re (by omega) (by omega) (by omega) (cmp z5 _ ?_ _)⟩
                  unfold bookN
                  rw [if_neg (by omega), show ((b : Int)).toNat = b by omega, show (((i : Int) - 4) / 4).toNat = i / 4 - 1 by omega, show ((i : Int) % 4).toNat = i % 4 by omega]
                · rw [show 4 * (b : Int) + (i : Int) = ((b * 4 + i : Nat) : Int) by omega]
                  refine s_inN ?_ (fun ea => ?_)
                  · omega
                  try simp only [ea]
                  clear ea
                  have := wb.2.2 (b * 4 + i) (by omega)
                  rw [rb.2.2 (b * 4 + i) (by omega), w32_of (by omega) (by omega)]
                  refine cmp z5 _ ?_ _
                  unfold bookN
                  rw [if_pos (by omega)]
              · refine s_inN ?_ (fun ea => ?_)
                · omega
                try simp only [ea]
                clear ea
                have k := k3 z3 (fun q h1 h2 => (hq q (by omega)).2)
                rw [if_neg (by omega)] at k
                exact k
        exact main 0 (by omega) (fun q hq => by omega) _
      · exact k1 z3
    · omega
theorem C_book {T : Nat × (Nat → Int32)} {d : Nat} {X X' : mz_X} {g : mz_S} {b t : Int} (wb : IB g) (w : IE g) (wt : IT g) (hb : R32 b) (ht : R32 t) : zC T (d + 5) 391 [mx_R 0, mx_I b, mx_I t, mx_R 179] g (fun kk g1 => zC T (d + 5) 328 [mx_R 99, mx_I b, mx_I t] g1 (fun r g2 => AnsI kk r g2 ∧ Qy [179] [0] g g2) X') X := by
  have h9 := wb.1.1
  by_cases hh : (0 ≤ b ∧ b ≤ g 9 1 - 1) ∧ (0 ≤ t ∧ t ≤ 3)
  · obtain ⟨b', rfl⟩ := Int.eq_ofNat_of_zero_le hh.1.1
    obtain ⟨t', rfl⟩ := Int.eq_ofNat_of_zero_le hh.2.1
    have fin : ∀ v : Int, AnsI 0 v (mx_up (mx_up g 179 0 (w32 v)) 99 0 0) ∧ Qy [179] [0] g (mx_up (mx_up g 179 0 (w32 v)) 99 0 0) := by
      intro v
      have c2 : Ch [179] [0] g (mx_up (mx_up g 179 0 (w32 v)) 99 0 0) := ((Ch.rf g).up (by decide) (by decide)).up9 (by decide)
      exact ⟨⟨by omega, up_s, fun _ => by rw [up_q (by decide), up_s]⟩, c2, fun z => z.fr c2 (by decide)⟩
    have c1 : ∀ v : Int, Ch [179] [0] g (mx_up g 179 0 v) := fun v => (Ch.rf g).up (by decide) (by decide)
    refine wL_book (sX11_book wb.1 w.1 wt.1 (by omega) (by omega) (fun h1 => ?_) (fun h1 p h2 h3 h4 h5 => ?_) (fun h1 h2 => ?_))
    · refine sX12_book wb.1 w.1 w.2.1 wt.1 (wb.2.1.fr (c1 _) (by decide) (by decide)) (w.2.2.1.fr (c1 _) (by decide) (by decide)) (wt.2.fr (c1 _) (by decide)) (by omega) (by omega) (fun _ => fin _) (fun z => absurd h1 z) (fun z => absurd h1 z)
    · refine sX12_book wb.1 w.1 w.2.1 wt.1 (wb.2.1.fr (c1 _) (by decide) (by decide)) (w.2.2.1.fr (c1 _) (by decide) (by decide)) (wt.2.fr (c1 _) (by decide)) (by omega) (by omega) (fun z => absurd z h1) (fun _ p' h2' h3' h4' h5' => ?_) (fun _ h => absurd (h p h2 h3) h5)
      have e : p' = p := by
        rcases Nat.lt_trichotomy p' p with z | z | z
        · exact absurd (h4 p' z) h5'
        · exact z
        · exact absurd (h4' p z) h5
      rw [e]; exact fin _
    · refine sX12_book wb.1 w.1 w.2.1 wt.1 (wb.2.1.fr (c1 _) (by decide) (by decide)) (w.2.2.1.fr (c1 _) (by decide) (by decide)) (wt.2.fr (c1 _) (by decide)) (by omega) (by omega) (fun z => absurd z h1) (fun _ p' h2' h3' h4' h5' => absurd (h2 p' h2' h3') h5') (fun _ h => fin _)
  · have wb' := wb.1
    have bad : zC T (d + 5) 328 [mx_R 99, mx_I b, mx_I t] g (fun r g2 => AnsI 1 r g2 ∧ Qy [179] [0] g g2) X' := by
      refine zX12_book ?_
      rintro _ rfl
      have rb : ReB g (mx_up g 99 0 0) := wb.2.1.fr (ch_0 g 0) (by decide) (by decide)
      have qb := qy_bad (S := [179]) (F := [0]) (Ch.rf g) (fun z => z) (by decide) 1 (by omega)
      refine sX12_isBrokerC rb wb' hb ?_
      first | with_reducible refine b_eq (fun z1 => ?_) (fun z1 => ?_) | with_reducible refine b_ne (fun z1 => ?_) (fun z1 => ?_)
      · exact zX12_book_20 (sX12_fails qb)
      · refine sX12_isTray ht ?_
        first | with_reducible refine b_eq (fun z2 => ?_) (fun z2 => ?_) | with_reducible refine b_ne (fun z2 => ?_) (fun z2 => ?_)
        · exact absurd ⟨z1, z2⟩ hh
        · exact zX12_book_20 (sX12_fails qb)
    refine wL_book (zX11_book (sX11_isBroker hb h9 ?_))
    first | with_reducible refine b_eq (fun z1 => ?_) (fun z1 => ?_) | with_reducible refine b_ne (fun z1 => ?_) (fun z1 => ?_)
    · exact zX11_book_19 (zX11_book_20 ⟨by decide, by decide, nF_f ⟨rfl, bad⟩⟩)
    · refine sX11_isTray ht ?_
      first | with_reducible refine b_eq (fun z2 => ?_) (fun z2 => ?_) | with_reducible refine b_ne (fun z2 => ?_) (fun z2 => ?_)
      · exact zX11_book_19 (zX11_book_20 ⟨by decide, by decide, nF_f ⟨rfl, bad⟩⟩)
      · exact absurd ⟨z1, z2⟩ hh
