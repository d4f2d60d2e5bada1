/-! dry on both sides -/
theorem sX12_has {T : Nat × (Nat → Int32)} {d : Nat} {Q : mz_K} {X : mz_X} {g : mz_S} {c : mz_S} {b co x3 : Int} {t : Nat} (wl : WfL0 c) (wb : WfB c) (wx : WfX c) (r1 : g 99 1 = c 1 0) (r110 : ∀ i, i < 48 → w32 (g 110 i) = w32 (c 14 i)) (rx : ReX c g) (hb : 0 ≤ b ∧ b < 12) (hc : 0 ≤ co ∧ co < 4) (ht : t ≤ 2000) (k : Q (c 14 (b * 4 + co).toNat + sumN (eX c b co x3 (t + 1)) (c 72 4).toNat) g) : zC T (d + 1) 304 [mx_R 99, mx_I b, mx_I co, mx_I (t : Int), mx_I x3] g Q X := by
  have w0 := wl.1
  have w1 := wx.1
  have o14 := wb.2.2 (b * 4 + co).toNat (by omega)
  have r84 := rx.1
  refine zX12_has ?_
  rw [show 4 * b + co = b * 4 + co by omega]
  refine s_in (by omega) (fun ea => ?_)
  rw [ea, r110 _ (by omega), w32_of (n := c 14 (b * 4 + co).toNat) (by omega) (by omega)]
  have main : ∀ n i : Nat, (i : Int) + n = c 72 4 → aX12_has T d Q X 16 [some (mx_R 99), some (mx_I b), some (mx_I co), some (mx_I (t : Int)), some (mx_I x3), some (mx_J (c 14 (b * 4 + co).toNat + sumN (eX c b co x3 (t + 1)) i)), none, some (mx_I (i : Int))] [] g (0, 0) := by
    intro n
    induction n with
    | zero =>
      intro i hi
      refine zX12_has_16 ?_
      rw [r84]
      first | with_reducible refine c_lt ?_ ?_ (fun z => ?_) (fun z => ?_) | with_reducible refine c_le ?_ ?_ (fun z => ?_) (fun z => ?_) | with_reducible refine c_eq ?_ ?_ (fun z => ?_) (fun z => ?_) | with_reducible refine c_ne ?_ ?_ (fun z => ?_) (fun z => ?_)
      · omega
      · omega
      · rw [show (c 72 4).toNat = i by omega] at k; exact k
      · omega
    | succ n ih =>
      intro i hi
      have wi := wx.2 i (by omega)
      obtain ⟨q1, q2, q3, q4, q5⟩ := rx.2 i (by omega)
      refine zX12_has_16 ?_
      rw [r84]
      have nx : ∀ v : Int, v = c 14 (b * 4 + co).toNat + sumN (eX c b co x3 (t + 1)) (i + 1) → aX12_has T d Q X 101 [some (mx_R 99), some (mx_I b), some (mx_I co), some (mx_I (t : Int)), some (mx_I x3), some (mx_J v), none, some (mx_I (i : Int))] [] g (0, 0) := by
        intro v hv
        refine zX12_has_101 ?_
        rw [hv, show (i : Int) + 1 = ((i + 1 : Nat) : Int) by omega]
        exact ih (i + 1) (by omega)
      have no : ¬ (c 73 i = b ∧ c 74 i = co ∧ c 1 0 ≤ c 75 i ∧ c 75 i < ((t + 1 : Nat) : Int)) → aX12_has T d Q X 101 [some (mx_R 99), some (mx_I b), some (mx_I co), some (mx_I (t : Int)), some (mx_I x3), some (mx_J (c 14 (b * 4 + co).toNat + sumN (eX c b co x3 (t + 1)) i)), none, some (mx_I (i : Int))] [] g (0, 0) := by
        intro z
        refine nx _ ?_
        show _ = _ + (sumN (eX c b co x3 (t + 1)) i + eX c b co x3 (t + 1) i)
        have : eX c b co x3 (t + 1) i = 0 := by unfold eX; rw [if_neg z]
        rw [this]; omega
      first | with_reducible refine c_lt ?_ ?_ (fun z => ?_) (fun z => ?_) | with_reducible refine c_le ?_ ?_ (fun z => ?_) (fun z => ?_) | with_reducible refine c_eq ?_ ?_ (fun z => ?_) (fun z => ?_) | with_reducible refine c_ne ?_ ?_ (fun z => ?_) (fun z => ?_)
      · omega
      · omega
      · omega
      · refine s_inN ?_ (fun ea => ?_)
        · omega
        try simp only [ea]
        clear ea
        rw [q1]
        first | with_reducible refine c_lt ?_ ?_ (fun h1 => ?_) (fun h1 => ?_) | with_reducible refine c_le ?_ ?_ (fun h1 => ?_) (fun h1 => ?_) | with_reducible refine c_eq ?_ ?_ (fun h1 => ?_) (fun h1 => ?_) | with_reducible refine c_ne ?_ ?_ (fun h1 => ?_) (fun h1 => ?_)
        · omega
        · omega
        · exact no (fun z => h1 z.1)
        · refine s_inN ?_ (fun ea => ?_)
          · omega
          try simp only [ea]
          clear ea
          rw [q2]
          first | with_reducible refine c_lt ?_ ?_ (fun h2 => ?_) (fun h2 => ?_) | with_reducible refine c_le ?_ ?_ (fun h2 => ?_) (fun h2 => ?_) | with_reducible refine c_eq ?_ ?_ (fun h2 => ?_) (fun h2 => ?_) | with_reducible refine c_ne ?_ ?_ (fun h2 => ?_) (fun h2 => ?_)
          · omega
          · omega
          · exact no (fun z => h2 z.2.1)
          · refine s_inN ?_ (fun ea => ?_)
            · omega
            try simp only [ea]
            clear ea
            rw [q3, r1]
            first | with_reducible refine c_lt ?_ ?_ (fun h3 => ?_) (fun h3 => ?_) | with_reducible refine c_le ?_ ?_ (fun h3 => ?_) (fun h3 => ?_) | with_reducible refine c_eq ?_ ?_ (fun h3 => ?_) (fun h3 => ?_) | with_reducible refine c_ne ?_ ?_ (fun h3 => ?_) (fun h3 => ?_)
            · omega
            · omega
            · exact no (fun z => by have := z.2.2.1; omega)
            · refine s_inN ?_ (fun ea => ?_)
              · omega
              try simp only [ea]
              clear ea
              first | with_reducible refine c_lt ?_ ?_ (fun h4 => ?_) (fun h4 => ?_) | with_reducible refine c_le ?_ ?_ (fun h4 => ?_) (fun h4 => ?_) | with_reducible refine c_eq ?_ ?_ (fun h4 => ?_) (fun h4 => ?_) | with_reducible refine c_ne ?_ ?_ (fun h4 => ?_) (fun h4 => ?_)
              · omega
              · omega
              · exact no (fun z => by have := z.2.2.2; omega)
              · have add : ∀ v, v = exV c x3 i → aX12_has T d Q X 98 [some (mx_R 99), some (mx_I b), some (mx_I co), some (mx_I (t : Int)), some (mx_I x3), some (mx_J (c 14 (b * 4 + co).toNat + sumN (eX c b co x3 (t + 1)) i)), none, some (mx_I (i : Int))] [mx_J v, mx_J (c 14 (b * 4 + co).toNat + sumN (eX c b co x3 (t + 1)) i)] g (0, 0) := by
                  intro v hv
                  refine zX12_has_98 (nx _ ?_)
                  show _ = _ + (sumN (eX c b co x3 (t + 1)) i + eX c b co x3 (t + 1) i)
                  have : eX c b co x3 (t + 1) i = exV c x3 i := by unfold eX; rw [if_pos (by omega)]
                  rw [this, hv]; omega
                refine ⟨fun h => ?_, fun h => ?_⟩
                · refine s_inN ?_ (fun ea => ?_)
                  · omega
                  try simp only [ea]
                  clear ea
                  rw [q4, w32_of (n := c 76 i) (by omega) (by omega)]
                  exact add _ (by unfold exV; rw [if_pos h])
                · refine s_inN ?_ (fun ea => ?_)
                  · omega
                  try simp only [ea]
                  clear ea
                  rw [q5, w32_of (n := c 77 i) (by omega) (by omega)]
                  exact add _ (by unfold exV; rw [if_neg h])
  have := main (c 72 4).toNat 0 (by omega)
  rw [show c 14 (b * 4 + co).toNat + sumN (eX c b co x3 (t + 1)) 0 = c 14 (b * 4 + co).toNat by show _ + 0 = _; omega] at this
  exact this
theorem sX12_asked {T : Nat × (Nat → Int32)} {d : Nat} {Q : mz_K} {X : mz_X} {g : mz_S} {c : mz_S} {b co : Int} {t : Nat} (wl : WfL0 c) (wb : WfB c) (w : WfW c) (r1 : g 99 1 = c 1 0) (rw' : ReW c g) (hb : 0 ≤ b ∧ b < 12) (hc : 0 ≤ co ∧ co < 4) (ht : t ≤ 2000) (hn : c 1 0 ≤ (t : Int)) (k : Q (sumN (wX c b co (t + 1)) (c 48 4).toNat) g) : zC T (d + 2) 305 [mx_R 99, mx_I b, mx_I co, mx_I (t : Int)] g Q X := by
  have w0 := wl.1
  have w1 := w.1
  have wb1 := wb.1
  refine zX12_asked ?_
  have main : ∀ n i : Nat, (i : Int) + n = c 48 4 → aX12_asked T (d + 1) Q X 6 [some (mx_R 99), some (mx_I b), some (mx_I co), some (mx_I (t : Int)), some (mx_J (sumN (wX c b co (t + 1)) i)), none, some (mx_I (i : Int))] [] g (0, 0) := by
    intro n
    induction n with
    | zero =>
      intro i hi
      refine zX12_asked_6 ?_
      rw [rw'.1]
      first | with_reducible refine c_lt ?_ ?_ (fun z => ?_) (fun z => ?_) | with_reducible refine c_le ?_ ?_ (fun z => ?_) (fun z => ?_) | with_reducible refine c_eq ?_ ?_ (fun z => ?_) (fun z => ?_) | with_reducible refine c_ne ?_ ?_ (fun z => ?_) (fun z => ?_)
      · omega
      · omega
      · rw [show (c 48 4).toNat = i by omega] at k; exact k
      · omega
    | succ n ih =>
      intro i hi
      obtain ⟨a1, a2, a3, a4, a5, a6, a7, a8, a9⟩ := w.2.1 i (by omega)
      obtain ⟨q1, q2, q3, q4, q5, q6, q7, q8, q9⟩ := rw'.2 i (by omega)
      refine zX12_asked_6 ?_
      rw [rw'.1]
      have nx : ∀ v : Int, v = sumN (wX c b co (t + 1)) (i + 1) → aX12_asked T (d + 1) Q X 101 [some (mx_R 99), some (mx_I b), some (mx_I co), some (mx_I (t : Int)), some (mx_J v), none, some (mx_I (i : Int))] [] g (0, 0) := by
        intro v hv
        refine zX12_asked_101 ?_
        rw [hv, show (i : Int) + 1 = ((i + 1 : Nat) : Int) by omega]
        exact ih (i + 1) (by omega)
      have no : ¬ (dueP c b co i ∧ c 54 i ≤ (t : Int)) → aX12_asked T (d + 1) Q X 101 [some (mx_R 99), some (mx_I b), some (mx_I co), some (mx_I (t : Int)), some (mx_J (sumN (wX c b co (t + 1)) i)), none, some (mx_I (i : Int))] [] g (0, 0) := by
        intro z
        refine nx _ ?_
        show _ = sumN (wX c b co (t + 1)) i + wX c b co (t + 1) i
        have : wX c b co (t + 1) i = 0 := by
          unfold wX
          rw [if_neg]
          rintro ⟨x1, x2⟩
          exact z ⟨x1, by omega⟩
        rw [this]; omega
      first | with_reducible refine c_lt ?_ ?_ (fun z => ?_) (fun z => ?_) | with_reducible refine c_le ?_ ?_ (fun z => ?_) (fun z => ?_) | with_reducible refine c_eq ?_ ?_ (fun z => ?_) (fun z => ?_) | with_reducible refine c_ne ?_ ?_ (fun z => ?_) (fun z => ?_)
      · omega
      · omega
      · omega
      · refine s_inN ?_ (fun ea => ?_)
        · omega
        try simp only [ea]
        clear ea
        rw [q2]
        first | with_reducible refine c_lt ?_ ?_ (fun h1 => ?_) (fun h1 => ?_) | with_reducible refine c_le ?_ ?_ (fun h1 => ?_) (fun h1 => ?_) | with_reducible refine c_eq ?_ ?_ (fun h1 => ?_) (fun h1 => ?_) | with_reducible refine c_ne ?_ ?_ (fun h1 => ?_) (fun h1 => ?_)
        · omega
        · omega
        · exact no (fun z => h1 z.1.1)
        · refine s_inN ?_ (fun ea => ?_)
          · omega
          try simp only [ea]
          clear ea
          rw [q3]
          first | with_reducible refine c_lt ?_ ?_ (fun h2 => ?_) (fun h2 => ?_) | with_reducible refine c_le ?_ ?_ (fun h2 => ?_) (fun h2 => ?_) | with_reducible refine c_eq ?_ ?_ (fun h2 => ?_) (fun h2 => ?_) | with_reducible refine c_ne ?_ ?_ (fun h2 => ?_) (fun h2 => ?_)
          · omega
          · omega
          · exact no (fun z => h2 z.1.2.1)
          · refine sX12_isPaid (d := d) w rw' (by omega) ?_
            rw [show ((i : Int)).toNat = i by omega]
            first | with_reducible refine b_eq (fun h3 => ?_) (fun h3 => ?_) | with_reducible refine b_ne (fun h3 => ?_) (fun h3 => ?_)
            · exact no (fun z => h3.2 z.1.2.2.1)
            · refine s_inN ?_ (fun ea => ?_)
              · omega
              try simp only [ea]
              clear ea
              rw [q6]
              first | with_reducible refine c_lt ?_ ?_ (fun h4 => ?_) (fun h4 => ?_) | with_reducible refine c_le ?_ ?_ (fun h4 => ?_) (fun h4 => ?_) | with_reducible refine c_eq ?_ ?_ (fun h4 => ?_) (fun h4 => ?_) | with_reducible refine c_ne ?_ ?_ (fun h4 => ?_) (fun h4 => ?_)
              · omega
              · omega
              · exact no (fun z => by have := z.2; omega)
              · refine s_inN ?_ (fun ea => ?_)
                · omega
                try simp only [ea]
                clear ea
                rw [q7, r1, w32_of (n := c 1 0) (by omega) (by omega)]
                refine ⟨fun h5 => no (fun z => by have := z.1.2.2.2.1; omega), fun h5 => ?_⟩
                refine s_inN ?_ (fun ea => ?_)
                · omega
                try simp only [ea]
                clear ea
                refine s_inN ?_ (fun ea => ?_)
                · omega
                try simp only [ea]
                clear ea
                rw [w32_of (n := c 54 i) (by omega) (by omega)]
                refine ⟨fun h6 => no (fun z => by have := z.1.2.2.2.2; omega), fun h6 => ?_⟩
                refine s_inN ?_ (fun ea => ?_)
                · omega
                try simp only [ea]
                clear ea
                rw [q4, w32_of (n := c 52 i) (by omega) (by omega)]
                refine nx _ ?_
                show _ = sumN (wX c b co (t + 1)) i + wX c b co (t + 1) i
                have : wX c b co (t + 1) i = c 52 i := by
                  unfold wX
                  rw [if_pos ⟨⟨by omega, by omega, by omega, by omega, by omega⟩, by omega⟩]
                rw [this]
  exact main (c 48 4).toNat 0 (by omega)
theorem sX12_dry_at {T : Nat × (Nat → Int32)} {d : Nat} {Q : mz_K} {X : mz_X} {g : mz_S} {c : mz_S} {b co x3 : Int} {dy : Nat} (wl : WfL0 c) (wb : WfB c) (wx : WfX c) (w : WfW c) (r1 : g 99 1 = c 1 0) (r110 : ∀ i, i < 48 → w32 (g 110 i) = w32 (c 14 i)) (rx : ReX c g) (rw' : ReW c g) (hd : c 1 0 = (dy : Int)) (hb : 0 ≤ b ∧ b < 12) (hc : 0 ≤ co ∧ co < 4) (k : Q (dryF (dryX c b co x3) (1000 - dy) dy) g) : aX12_dry T (d + 2) Q X 38 [some (mx_R 99), some (mx_I b), some (mx_I co), some (mx_I x3), some (mx_I (dy : Int))] [] g (0, 0) := by
  have w0 := wl.1
  have main : ∀ n t : Nat, t + n = 1000 → c 1 0 ≤ (t : Int) → Q (dryF (dryX c b co x3) n t) g → aX12_dry T (d + 2) Q X 38 [some (mx_R 99), some (mx_I b), some (mx_I co), some (mx_I x3), some (mx_I (t : Int))] [] g (0, 0) := by
    intro n
    induction n with
    | zero =>
      intro t ht h0 kk
      refine zX12_dry_38 ?_
      first | with_reducible refine c_lt ?_ ?_ (fun z => ?_) (fun z => ?_) | with_reducible refine c_le ?_ ?_ (fun z => ?_) (fun z => ?_) | with_reducible refine c_eq ?_ ?_ (fun z => ?_) (fun z => ?_) | with_reducible refine c_ne ?_ ?_ (fun z => ?_) (fun z => ?_)
      · omega
      · omega
      · exact kk
      · omega
    | succ n ih =>
      intro t ht h0 kk
      refine zX12_dry_38 ?_
      have bd := dryX_bnd wb wx w hb hc x3 (t + 1)
      have e71 : ∀ s0 s1 : Int, s0 - s1 = dryX c b co x3 (t + 1) → aX12_dry T (d + 2) Q X 71 [some (mx_R 99), some (mx_I b), some (mx_I co), some (mx_I x3), some (mx_I (t : Int))] [mx_J s1, mx_J s0] g (0, 0) := by
        intro s0 s1 hs
        refine zX12_dry_71 ?_
        rw [hs]
        first | with_reducible refine l_gt ?_ ?_ (fun z2 => ?_) (fun z2 => ?_) | with_reducible refine l_lt ?_ ?_ (fun z2 => ?_) (fun z2 => ?_) | with_reducible refine l_ge ?_ ?_ (fun z2 => ?_) (fun z2 => ?_) | with_reducible refine l_le ?_ ?_ (fun z2 => ?_) (fun z2 => ?_) | with_reducible refine l_eq ?_ ?_ (fun z2 => ?_) (fun z2 => ?_) | with_reducible refine l_ne ?_ ?_ (fun z2 => ?_) (fun z2 => ?_)
        · omega
        · omega
        · rw [show (t : Int) + 1 = ((t + 1 : Nat) : Int) by omega]
          refine ih (t + 1) (by omega) (by omega) ?_
          unfold dryF at kk
          rw [if_neg (by omega)] at kk
          exact kk
        · unfold dryF at kk
          rw [if_pos (by omega)] at kk
          exact kk
      first | with_reducible refine c_lt ?_ ?_ (fun z => ?_) (fun z => ?_) | with_reducible refine c_le ?_ ?_ (fun z => ?_) (fun z => ?_) | with_reducible refine c_eq ?_ ?_ (fun z => ?_) (fun z => ?_) | with_reducible refine c_ne ?_ ?_ (fun z => ?_) (fun z => ?_)
      · omega
      · omega
      · omega
      · refine sX12_has (d := d + 1) wl wb wx r1 r110 rx hb hc (by omega) ?_
        refine ⟨fun h => ?_, fun h => e71 _ _ ?_⟩
        · refine sX12_asked (d := d) wl wb w r1 rw' hb hc (by omega) (by omega) (e71 _ _ ?_)
          unfold dryX wS
          rw [if_pos h]
        · unfold dryX wS
          rw [if_neg h]
  exact main (1000 - dy) dy (by omega) (by omega) k
theorem C_dry {T : Nat × (Nat → Int32)} {d : Nat} {X X' : mz_X} {g : mz_S} {b co x3 : Int} (wl : IL g) (wb : IB g) (wx : IX g) (w : IW g) (hb : R32 b) (hc : R32 co) : zC T (d + 8) 380 [mx_R 0, mx_I b, mx_I co, mx_I x3, mx_R 179] g (fun kk g1 => zC T (d + 8) 306 [mx_R 99, mx_I b, mx_I co, mx_I x3] g1 (fun r g2 => AnsI kk r g2 ∧ Qy [78, 179] [0] g g2) X') X := by
  have hw := wb.1.1
  have w0 := wl.1.1
  have wB := wb.1
  have bad : ∀ n : Int, 1 ≤ n ∧ n ≤ 3 → AnsI n 0 (mx_up (mx_up g 99 0 0) 99 0 n) ∧ Qy [78, 179] [0] g (mx_up (mx_up g 99 0 0) 99 0 n) := fun n hn => qy_bad (Ch.rf g) (fun z => z) (by decide) n hn
  refine wL_dry (zX11_dry (sX11_isBroker hb hw ⟨by decide, by decide, sX11_needFound (fun h1 => sX11_isCoin hc ⟨by decide, by decide, sX11_needArgument (fun h2 => ?_) (fun h2 => Or.inr ⟨rfl, ?_⟩)⟩) (fun h1 => Or.inl ⟨rfl, ?_⟩)⟩))
  · obtain ⟨dy, ed⟩ := Int.eq_ofNat_of_zero_le w0.1
    refine sX2_dryDay (d := d + 3) wl.1 wb.1 wx.1 w.1 ed (by omega) (by omega) (fun g1 c1 => ?_)
    obtain ⟨v, ev⟩ : ∃ v, v = dryF (dryX g b co x3) (1000 - dy) dy := ⟨_, rfl⟩
    rw [← ev]
    refine zX12_dry ?_
    intro g2 e2
    have c2 : Ch [78, 179] [0] g g2 := by rw [e2]; exact ((c1.sub (by decide) (by decide)).up (by decide) (by decide)).up9 (by decide)
    have rb := wb.2.1.fr c2 (by decide) (by decide)
    refine sX12_isBrokerC rb wB hb ?_
    first | with_reducible refine b_eq (fun y1 => ?_) (fun y1 => ?_) | with_reducible refine b_ne (fun y1 => ?_) (fun y1 => ?_)
    · refine sX12_isCoin hc ?_
      first | with_reducible refine b_eq (fun y2 => ?_) (fun y2 => ?_) | with_reducible refine b_ne (fun y2 => ?_) (fun y2 => ?_)
      · rw [c2.2 1 (by decide), wl.2.2.1.1, ed]
        refine sX12_dry_at (d := d + 5) (c := g) wl.1 wB wx.1 w.1 (by rw [c2.2 1 (by decide)]; exact wl.2.2.1.1) rb.2.2 (wx.2.fr c2 (by decide) (by decide)) (w.2.fr c2 (by decide) (by decide)) ed (by omega) (by omega) ?_
        rw [← ev]
        exact ⟨⟨by omega, by rw [e2, up_s], fun _ => by rw [e2, up_q (by decide), up_s]⟩, c2, fun z => z.fr c2 (by decide)⟩
      · exact absurd h2 y2
    · exact absurd h1 y1
  · refine zX12_dry ?_
    intro g2 e2
    have rb := wb.2.1.fr (ch_0 g 0) (S := []) (F := [0]) (by decide) (by decide)
    rw [← e2] at rb bad
    refine sX12_isBrokerC rb wB hb ?_
    first | with_reducible refine b_eq (fun y1 => ?_) (fun y1 => ?_) | with_reducible refine b_ne (fun y1 => ?_) (fun y1 => ?_)
    · refine sX12_isCoin hc ?_
      first | with_reducible refine b_eq (fun y2 => ?_) (fun y2 => ?_) | with_reducible refine b_ne (fun y2 => ?_) (fun y2 => ?_)
      · exact absurd y2 h2
      · exact sX12_fails (bad 2 (by omega))
    · exact absurd h1 y1
  · refine zX12_dry ?_
    intro g2 e2
    have rb := wb.2.1.fr (ch_0 g 0) (S := []) (F := [0]) (by decide) (by decide)
    rw [← e2] at rb bad
    refine sX12_isBrokerC rb wB hb ?_
    first | with_reducible refine b_eq (fun y1 => ?_) (fun y1 => ?_) | with_reducible refine b_ne (fun y1 => ?_) (fun y1 => ?_)
    · exact absurd y1 h1
    · exact sX12_fails (bad 1 (by omega))
