/-! the call plan -/
def plV (n wks : Nat) (b : Int × Int × Nat) (x : Int) : Int := if b.1 = -1 then -1 else if x = -1 then b.1 else (wkV n wks b.2.2 x.toNat : Nat)
abbrev plA (co n wks x : Int) : Prop := (0 ≤ co ∧ co ≤ 3) ∧ (1 ≤ n ∧ n ≤ 6) ∧ (1 ≤ wks ∧ wks ≤ 4) ∧ (-1 ≤ x ∧ x ≤ n - 1)
theorem sX12_plan_286 {T : Nat × (Nat → Int32)} {d : Nat} {Q : mz_K} {X : mz_X} {g : mz_S} {c : mz_S} {co m n wks : Nat} {x x6 : Int} (wl : WfL0 c) (wb : WfB c) (wx : WfX c) (we : IE c) (em : c 9 1 = (m : Int)) (hm : m ≤ 12) (hn : 1 ≤ n ∧ n ≤ 6) (hco : co < 4) (hw : 1 ≤ wks ∧ wks ≤ 4) (h6 : -1 ≤ x6 ∧ x6 ≤ (n : Int) - 1) (ok : okB c co x m n = true) (h10 : g 99 10 = (m : Int)) (h : DbR g c co x n) (r1 : g 99 1 = c 1 0) (r110 : ∀ i, i < 48 → w32 (g 110 i) = w32 (c 14 i)) (rx : ReX c g) (k : ∀ g', Ch [165, 166] [] g g' → Q (plV n wks (plR c co x m n wks (wks ^ n)) x6) g') : aX12_plan T (d + 3) Q X 286 [some (mx_R 99), some (mx_I (co : Int)), some (mx_J x), none, some (mx_I (n : Int)), some (mx_I (wks : Int)), some (mx_I x6), some (mx_I ((wks ^ n : Nat) : Int)), some (mx_I (-1)), some (mx_I 0), some (mx_I 0), none, none, none, none] [] g (0, 0) := by
  have pw := wk_pow n (by omega) wks (by omega)
  have main : ∀ cc q : Nat, q + cc = wks ^ n → ∀ G o11 o12 o13 o14, Ch [165, 166] [] g G → PlR G n wks (plR c co x m n wks q) → aX12_plan T (d + 3) Q X 286 [some (mx_R 99), some (mx_I (co : Int)), some (mx_J x), none, some (mx_I (n : Int)), some (mx_I (wks : Int)), some (mx_I x6), some (mx_I ((wks ^ n : Nat) : Int)), some (mx_I (plR c co x m n wks q).1), some (mx_I (plR c co x m n wks q).2.1), some (mx_I (q : Int)), o11, o12, o13, o14] [] G (0, 0) := by
    intro cc
    induction cc with
    | zero =>
      intro q hq G o11 o12 o13 o14 cG hP
      have e : q = wks ^ n := by omega
      have k := k G cG
      rw [← e] at k ⊢
      have pr := plR_rng (c := c) (co := co) (m := m) (n := n) (wks := wks) (x := x) (by omega) hw q
      generalize plR c co x m n wks q = b at *
      unfold plV at k
      refine zX12_plan_286 ?_
      first | with_reducible refine c_lt ?_ ?_ (fun z => ?_) (fun z => ?_) | with_reducible refine c_le ?_ ?_ (fun z => ?_) (fun z => ?_) | with_reducible refine c_eq ?_ ?_ (fun z => ?_) (fun z => ?_) | with_reducible refine c_ne ?_ ?_ (fun z => ?_) (fun z => ?_)
      · omega
      · omega
      · first | with_reducible refine c_lt ?_ ?_ (fun z1 => ?_) (fun z1 => ?_) | with_reducible refine c_le ?_ ?_ (fun z1 => ?_) (fun z1 => ?_) | with_reducible refine c_eq ?_ ?_ (fun z1 => ?_) (fun z1 => ?_) | with_reducible refine c_ne ?_ ?_ (fun z1 => ?_) (fun z1 => ?_)
        · omega
        · omega
        · rw [if_neg z1] at k
          first | with_reducible refine c_lt ?_ ?_ (fun z2 => ?_) (fun z2 => ?_) | with_reducible refine c_le ?_ ?_ (fun z2 => ?_) (fun z2 => ?_) | with_reducible refine c_eq ?_ ?_ (fun z2 => ?_) (fun z2 => ?_) | with_reducible refine c_ne ?_ ?_ (fun z2 => ?_) (fun z2 => ?_)
          · omega
          · omega
          · rw [if_neg z2] at k
            refine s_in (by omega) (fun ea => ?_)
            rw [ea, hP z1 x6.toNat (by omega)]
            exact zX12_plan_481 k
          · rw [if_pos (by omega)] at k
            exact zX12_plan_481 k
        · rw [if_pos (by omega)] at k
          exact zX12_plan_481 k
      · omega
    | succ cc ih =>
      intro q hq G o11 o12 o13 o14 cG hP
      refine zX12_plan_286 ?_
      first | with_reducible refine c_lt ?_ ?_ (fun z => ?_) (fun z => ?_) | with_reducible refine c_le ?_ ?_ (fun z => ?_) (fun z => ?_) | with_reducible refine c_eq ?_ ?_ (fun z => ?_) (fun z => ?_) | with_reducible refine c_ne ?_ ?_ (fun z => ?_) (fun z => ?_)
      · omega
      · omega
      · omega
      · refine sX12_plan_309 hn hw (by omega) (fun G2 x11 x14 c2 hW e14 => ?_)
        subst e14
        have wr : ∀ j, j < n → wkV n wks q j ≤ 4 := fun j _ => by have := wkV_rng (n := n) (wks := wks) (q := q) (d := j) hw.1; omega
        have pr := plR_rng (c := c) (co := co) (m := m) (n := n) (wks := wks) (x := x) (by omega) hw q
        have lb := mxN_le (f := wkV n wks q) (B := 4) n wr
        have sb := smN_le (f := wkV n wks q) (B := 4) n wr
        obtain ⟨L, eL⟩ : ∃ L, L = mxN (wkV n wks q) n := ⟨_, rfl⟩
        obtain ⟨S, eS⟩ : ∃ S, S = smN (wkV n wks q) n := ⟨_, rfl⟩
        have step : plR c co x m n wks (q + 1) = if ((plR c co x m n wks q).1 = -1 ∨ (L : Int) < (plR c co x m n wks q).1 ∨ ((L : Int) = (plR c co x m n wks q).1 ∧ (S : Int) < (plR c co x m n wks q).2.1)) ∧ rgtB c co x m n wks (wkV n wks q) = true then ((L : Int), (S : Int), q) else plR c co x m n wks q := by rw [eL, eS]; rfl
        rw [← eL] at lb ⊢
        rw [← eS] at sb ⊢
        have cg2 : Ch [165, 166] [] g G2 := cG.tr (c2.sub (by decide) (by decide))
        have hP2 : PlR G2 n wks (plR c co x m n wks q) := fun y d hd => by rw [c2.1 166 (by decide) (by decide)]; exact hP y d hd
        have nx : ∀ G3 b, Ch [165, 166] [] g G3 → plR c co x m n wks (q + 1) = b → PlR G3 n wks b → ∀ x11 x12 x13 x14, aX12_plan T (d + 3) Q X 447 [some (mx_R 99), some (mx_I (co : Int)), some (mx_J x), none, some (mx_I (n : Int)), some (mx_I (wks : Int)), some (mx_I x6), some (mx_I ((wks ^ n : Nat) : Int)), some (mx_I b.1), some (mx_I b.2.1), some (mx_I (q : Int)), some (mx_I x11), some (mx_I x12), some (mx_I x13), some (mx_I x14)] [] G3 (0, 0) := by
          intro G3 b c3 hb hP3 x11 x12 x13 x14
          refine zX12_plan_447 ?_
          rw [show (q : Int) + 1 = ((q + 1 : Nat) : Int) by omega, ← hb]
          exact ih (q + 1) (by omega) G3 _ _ _ _ c3 (by rw [hb]; exact hP3)
        obtain ⟨b, eb⟩ : ∃ b, b = plR c co x m n wks q := ⟨_, rfl⟩
        rw [← eb] at pr hP2 step ⊢
        have no : ¬ ((b.1 = -1 ∨ (L : Int) < b.1 ∨ ((L : Int) = b.1 ∧ (S : Int) < b.2.1)) ∧ rgtB c co x m n wks (wkV n wks q) = true) → aX12_plan T (d + 3) Q X 447 [some (mx_R 99), some (mx_I (co : Int)), some (mx_J x), none, some (mx_I (n : Int)), some (mx_I (wks : Int)), some (mx_I x6), some (mx_I ((wks ^ n : Nat) : Int)), some (mx_I b.1), some (mx_I b.2.1), some (mx_I (q : Int)), some (mx_I x11), some (mx_I (L : Int)), some (mx_I (S : Int)), some (mx_I (-1))] [] G2 (0, 0) := by
          intro y
          rw [if_neg y] at step
          exact nx G2 b cg2 step hP2 _ _ _ _
        have yes : (b.1 = -1 ∨ (L : Int) < b.1 ∨ ((L : Int) = b.1 ∧ (S : Int) < b.2.1)) → aX12_plan T (d + 3) Q X 394 [some (mx_R 99), some (mx_I (co : Int)), some (mx_J x), none, some (mx_I (n : Int)), some (mx_I (wks : Int)), some (mx_I x6), some (mx_I ((wks ^ n : Nat) : Int)), some (mx_I b.1), some (mx_I b.2.1), some (mx_I (q : Int)), some (mx_I x11), some (mx_I (L : Int)), some (mx_I (S : Int)), some (mx_I (-1))] [] G2 (0, 0) := by
          intro y
          refine zX12_plan_394 (sX12_isRight (d := d + 1) (c := c) (m := m) (x := x) (W := wkV n wks q) wl wb wx we em (by rw [cg2.2 10 (by decide)]; exact h10) hm (by omega) hco (by omega) ok (h.fr cg2 (by decide)) hW wr (by rw [cg2.2 1 (by decide)]; exact r1) (fun i hi => by rw [cg2.1 110 (by decide) (by decide)]; exact r110 i hi) (rx.fr cg2 (by decide) (by decide)) ?_)
          first | with_reducible refine b_eq (fun y2 => ?_) (fun y2 => ?_) | with_reducible refine b_ne (fun y2 => ?_) (fun y2 => ?_)
          · rw [if_pos ⟨y, y2⟩] at step
            have cp : ∀ c4 i : Nat, i + c4 = n → ∀ G3, Ch [166] [] G2 G3 → (∀ j, j < i → G3 166 j = (wkV n wks q j : Nat)) → aX12_plan T (d + 3) Q X 420 [some (mx_R 99), some (mx_I (co : Int)), some (mx_J x), none, some (mx_I (n : Int)), some (mx_I (wks : Int)), some (mx_I x6), some (mx_I ((wks ^ n : Nat) : Int)), some (mx_I (L : Int)), some (mx_I (S : Int)), some (mx_I (q : Int)), some (mx_I x11), some (mx_I (L : Int)), some (mx_I (S : Int)), some (mx_I (i : Int))] [] G3 (0, 0) := by
              intro c4
              induction c4 with
              | zero =>
                intro i hi G3 c3 h3
                refine zX12_plan_420 ?_
                first | with_reducible refine c_lt ?_ ?_ (fun w => ?_) (fun w => ?_) | with_reducible refine c_le ?_ ?_ (fun w => ?_) (fun w => ?_) | with_reducible refine c_eq ?_ ?_ (fun w => ?_) (fun w => ?_) | with_reducible refine c_ne ?_ ?_ (fun w => ?_) (fun w => ?_)
                · omega
                · omega
                · exact nx G3 ((L : Int), (S : Int), q) (cg2.tr (c3.sub (by decide) (by decide))) step (fun _ j hj => h3 j (by omega)) _ _ _ _
                · omega
              | succ c4 ih4 =>
                intro i hi G3 c3 h3
                refine zX12_plan_420 ?_
                first | with_reducible refine c_lt ?_ ?_ (fun w => ?_) (fun w => ?_) | with_reducible refine c_le ?_ ?_ (fun w => ?_) (fun w => ?_) | with_reducible refine c_eq ?_ ?_ (fun w => ?_) (fun w => ?_) | with_reducible refine c_ne ?_ ?_ (fun w => ?_) (fun w => ?_)
                · omega
                · omega
                · omega
                · refine s_inN ?_ (fun ea => ?_)
                  · omega
                  try simp only [ea]
                  clear ea
                  refine s_inN ?_ (fun ea => ?_)
                  · omega
                  try simp only [ea]
                  clear ea
                  intro G4 e4
                  rw [show (i : Int) + 1 = ((i + 1 : Nat) : Int) by omega]
                  refine ih4 (i + 1) (by omega) G4 (by rw [e4]; exact c3.up (by decide) (by decide)) (fun j hj => ?_)
                  rw [e4]
                  by_cases y : j = i
                  · subst y
                    rw [up_s, c3.1 165 (by decide) (by decide)]
                    exact hW j (by omega)
                  · rw [up_i y]; exact h3 j (by omega)
            exact cp n 0 (by omega) G2 (Ch.rf G2) (fun j hj => absurd hj (Nat.not_lt_zero _))
          · exact no (fun w => y2 w.2)
        first | with_reducible refine c_lt ?_ ?_ (fun z1 => ?_) (fun z1 => ?_) | with_reducible refine c_le ?_ ?_ (fun z1 => ?_) (fun z1 => ?_) | with_reducible refine c_eq ?_ ?_ (fun z1 => ?_) (fun z1 => ?_) | with_reducible refine c_ne ?_ ?_ (fun z1 => ?_) (fun z1 => ?_)
        · omega
        · omega
        · exact yes (Or.inl z1)
        · first | with_reducible refine c_lt ?_ ?_ (fun z2 => ?_) (fun z2 => ?_) | with_reducible refine c_le ?_ ?_ (fun z2 => ?_) (fun z2 => ?_) | with_reducible refine c_eq ?_ ?_ (fun z2 => ?_) (fun z2 => ?_) | with_reducible refine c_ne ?_ ?_ (fun z2 => ?_) (fun z2 => ?_)
          · omega
          · omega
          · exact no (by omega)
          · first | with_reducible refine c_lt ?_ ?_ (fun z3 => ?_) (fun z3 => ?_) | with_reducible refine c_le ?_ ?_ (fun z3 => ?_) (fun z3 => ?_) | with_reducible refine c_eq ?_ ?_ (fun z3 => ?_) (fun z3 => ?_) | with_reducible refine c_ne ?_ ?_ (fun z3 => ?_) (fun z3 => ?_)
            · omega
            · omega
            · exact yes (by omega)
            · first | with_reducible refine c_lt ?_ ?_ (fun z4 => ?_) (fun z4 => ?_) | with_reducible refine c_le ?_ ?_ (fun z4 => ?_) (fun z4 => ?_) | with_reducible refine c_eq ?_ ?_ (fun z4 => ?_) (fun z4 => ?_) | with_reducible refine c_ne ?_ ?_ (fun z4 => ?_) (fun z4 => ?_)
              · omega
              · omega
              · exact no (by omega)
              · exact yes (by omega)
  exact main (wks ^ n) 0 (by omega) g none none none none (Ch.rf g) (fun y => absurd rfl y)
theorem sX12_plan {T : Nat × (Nat → Int32)} {d : Nat} {Q : mz_K} {X : mz_X} {g : mz_S} {c : mz_S} {m : Nat} {co x n wks x6 : Int} (wl : WfL0 c) (wb : WfB c) (wx : WfX c) (we : IE c) (em : c 9 1 = (m : Int)) (rb : ReB c g) (re : ReE c g) (r1 : g 99 1 = c 1 0) (rx : ReX c g) (hc : R32 co) (hn : R32 n) (hw : R32 wks) (h6 : R32 x6) (k1 : ¬ plA co n wks x6 → Q 0 (mx_up (mx_up g 99 0 0) 99 0 1)) (k2 : ∀ C N : Nat, co = (C : Int) → n = (N : Int) → plA co n wks x6 → ¬ okB c C x m N = true → ∀ G, Ch [163, 164, 165, 166, 167] [0] g G → Q 0 (mx_up G 99 0 1)) (k3 : ∀ C N K : Nat, co = (C : Int) → n = (N : Int) → wks = (K : Int) → plA co n wks x6 → okB c C x m N = true → ∀ G, Ch [163, 164, 165, 166, 167] [0] g G → G 99 0 = 0 → Q (plV N K (plR c C x m N K (K ^ N)) x6) G) : zC T (d + 4) 308 [mx_R 99, mx_I co, mx_J x, mx_I n, mx_I wks, mx_I x6] g Q X := by
  have hwb := wb.1
  refine zX12_plan ?_
  intro g1 e1
  rw [← e1] at k1
  have c01 : Ch [] [0] g g1 := by rw [e1]; exact ch_0 g 0
  have z0 : g1 99 0 = 0 := by rw [e1, up_s]
  refine sX12_isCoin hc ?_
  first | with_reducible refine b_eq (fun h1 => ?_) (fun h1 => ?_) | with_reducible refine b_ne (fun h1 => ?_) (fun h1 => ?_)
  · exact zX12_plan_55 (sX12_fails (k1 (fun z => h1 z.1)))
  refine sX12_withinW hn (by omega) (by omega) ?_
  first | with_reducible refine b_eq (fun h2 => ?_) (fun h2 => ?_) | with_reducible refine b_ne (fun h2 => ?_) (fun h2 => ?_)
  · exact zX12_plan_55 (sX12_fails (k1 (fun z => h2 z.2.1)))
  refine sX12_withinW hw (by omega) (by omega) ?_
  first | with_reducible refine b_eq (fun h3 => ?_) (fun h3 => ?_) | with_reducible refine b_ne (fun h3 => ?_) (fun h3 => ?_)
  · exact zX12_plan_55 (sX12_fails (k1 (fun z => h3 z.2.2.1)))
  rw [w32_of (n := n - 1) (by omega) (by omega)]
  refine sX12_withinW h6 (by omega) (by omega) ?_
  first | with_reducible refine b_eq (fun h4 => ?_) (fun h4 => ?_) | with_reducible refine b_ne (fun h4 => ?_) (fun h4 => ?_)
  rotate_left
  · exact zX12_plan_55 (sX12_fails (k1 (fun z => h4 z.2.2.2)))
  have ar : plA co n wks x6 := ⟨h1, h2, h3, h4⟩
  obtain ⟨C, eC⟩ := Int.eq_ofNat_of_zero_le h1.1
  obtain ⟨N, eN⟩ := Int.eq_ofNat_of_zero_le (show 0 ≤ n by omega)
  obtain ⟨K, eK⟩ := Int.eq_ofNat_of_zero_le (show 0 ≤ wks by omega)
  have K2 := k2 C N eC eN ar
  have K3 := k3 C N K eC eN eK ar
  subst eC eN eK
  have hN : N ≤ 6 := by omega
  -- the debts
  have debts : ∀ cc i : Nat, i + cc = N → ∀ G o8, Ch [163, 164, 167] [] g1 G → okB c C x m i = true → DbR G c C x i → aX12_plan T (d + 3) Q X 64 [some (mx_R 99), some (mx_I (C : Int)), some (mx_J x), none, some (mx_I (N : Int)), some (mx_I (K : Int)), some (mx_I x6), some (mx_I (i : Int)), o8, none, none, none, none, none, none] [] G (0, 0) := by
    intro cc
    induction cc with
    | zero =>
      intro i hi G o8 cG ok hD
      have e : i = N := by omega
      subst e
      have cgG : Ch [163, 164, 167] [0] g G := (c01.sub (by decide) (by decide)).tr (cG.sub (by decide) (by decide))
      refine zX12_plan_64 ?_
      first | with_reducible refine c_lt ?_ ?_ (fun z => ?_) (fun z => ?_) | with_reducible refine c_le ?_ ?_ (fun z => ?_) (fun z => ?_) | with_reducible refine c_eq ?_ ?_ (fun z => ?_) (fun z => ?_) | with_reducible refine c_ne ?_ ?_ (fun z => ?_) (fun z => ?_)
      · omega
      · omega
      · -- how many plans
        have pows : ∀ c4 j : Nat, j + c4 = i → aX12_plan T (d + 3) Q X 257 [some (mx_R 99), some (mx_I (C : Int)), some (mx_J x), none, some (mx_I (i : Int)), some (mx_I (K : Int)), some (mx_I x6), some (mx_I ((K ^ j : Nat) : Int)), some (mx_I (j : Int)), none, none, none, none, none, none] [] G (0, 0) := by
          intro c4
          induction c4 with
          | zero =>
            intro j hj
            have e2 : j = i := by omega
            subst e2
            refine zX12_plan_257 ?_
            first | with_reducible refine c_lt ?_ ?_ (fun w => ?_) (fun w => ?_) | with_reducible refine c_le ?_ ?_ (fun w => ?_) (fun w => ?_) | with_reducible refine c_eq ?_ ?_ (fun w => ?_) (fun w => ?_) | with_reducible refine c_ne ?_ ?_ (fun w => ?_) (fun w => ?_)
            · omega
            · omega
            · refine sX12_plan_286 (d := d) (c := c) (m := m) wl wb wx we em (by omega) (by omega) (by omega) (by omega) (by omega) ok (by rw [cgG.2 10 (by decide), rb.1, em]) hD (by rw [cgG.2 1 (by decide)]; exact r1) (fun b hb => by rw [cgG.1 110 (by decide) (by decide)]; exact rb.2.2 b hb) (rx.fr cgG (by decide) (by decide)) (fun g' c' => K3 ok g' ((cgG.sub (by decide) (by decide)).tr (c'.sub (by decide) (by decide))) (by rw [c'.2 0 (by decide), cG.2 0 (by decide)]; exact z0))
            · omega
          | succ c4 ih4 =>
            intro j hj
            refine zX12_plan_257 ?_
            first | with_reducible refine c_lt ?_ ?_ (fun w => ?_) (fun w => ?_) | with_reducible refine c_le ?_ ?_ (fun w => ?_) (fun w => ?_) | with_reducible refine c_eq ?_ ?_ (fun w => ?_) (fun w => ?_) | with_reducible refine c_ne ?_ ?_ (fun w => ?_) (fun w => ?_)
            · omega
            · omega
            · omega
            · rw [show (j : Int) + 1 = ((j + 1 : Nat) : Int) by omega, show ((K ^ j : Nat) : Int) * (K : Int) = ((K ^ (j + 1) : Nat) : Int) by rw [Nat.pow_succ]; exact (Int.natCast_mul _ _).symm]
              exact ih4 (j + 1) (by omega)
        exact pows i 0 (by omega)
      · omega
    | succ cc ih =>
      intro i hi G o8 cG ok hD
      have okp := okB_iff.mp ok
      have l1 : dF x i < 16 := nyb_lt x (8 * i)
      have l2 : dT x i < 16 := nyb_lt x (8 * i + 4)
      have no : ∀ G2, Ch [163, 164, 167] [] g1 G2 → ¬ (dF x i < m ∧ dT x i < m ∧ (∀ j, j < i → ¬ (dF x j = dF x i ∧ dT x j = dT x i)) ∧ 0 < dA c C x i) → Q 0 (mx_up G2 99 0 1) := by
        intro G2 c2 q
        exact K2 (fun y => q (okB_iff.mp y i (by omega))) G2 ((c01.sub (by decide) (by decide)).tr (c2.sub (by decide) (by decide)))
      refine zX12_plan_64 ?_
      first | with_reducible refine c_lt ?_ ?_ (fun z => ?_) (fun z => ?_) | with_reducible refine c_le ?_ ?_ (fun z => ?_) (fun z => ?_) | with_reducible refine c_eq ?_ ?_ (fun z => ?_) (fun z => ?_) | with_reducible refine c_ne ?_ ?_ (fun z => ?_) (fun z => ?_)
      · omega
      · omega
      · omega
      · rw [show 8 * (i : Int) = ((8 * i : Nat) : Int) by omega, dbt_r x (by omega), show ((8 * i : Nat) : Int) + 4 = ((8 * i + 4 : Nat) : Int) by omega, dbt_r x (by omega)]
        refine s_inN ?_ (fun ea => ?_)
        · omega
        try simp only [ea]
        clear ea
        intro G1 e1
        refine s_inN ?_ (fun ea => ?_)
        · omega
        try simp only [ea]
        clear ea
        intro G2 e2
        have c2 : Ch [163, 164, 167] [] g1 G2 := by rw [e2, e1]; exact (cG.up (by decide) (by decide)).up (by decide) (by decide)
        have cg2 : Ch [163, 164, 167] [0] g G2 := (c01.sub (by decide) (by decide)).tr (c2.sub (by decide) (by decide))
        have f163 : G2 163 i = (dF x i : Nat) := by rw [e2, up_q (by decide), e1, up_s]; rfl
        have f164 : G2 164 i = (dT x i : Nat) := by rw [e2, up_s]; rfl
        have rb2 := rb.fr cg2 (by decide) (by decide)
        have hj2 : ∀ j, j ≤ i → G2 163 j = (dF x j : Nat) ∧ G2 164 j = (dT x j : Nat) := by
          intro j hj
          by_cases y : j = i
          · subst y; exact ⟨f163, f164⟩
          · have := hD j (by omega)
            rw [e2, up_q (by decide), up_i y, e1, up_i y, up_q (by decide)]
            exact ⟨this.1, this.2.1⟩
        refine s_inN ?_ (fun ea => ?_)
        · omega
        try simp only [ea]
        clear ea
        rw [f163]
        refine sX12_isBrokerC rb2 wb (by omega) ?_
        first | with_reducible refine b_eq (fun y1 => ?_) (fun y1 => ?_) | with_reducible refine b_ne (fun y1 => ?_) (fun y1 => ?_)
        · exact zX12_plan_139 (sX12_fails (no G2 c2 (fun q => by omega)))
        refine s_inN ?_ (fun ea => ?_)
        · omega
        try simp only [ea]
        clear ea
        rw [f164]
        refine sX12_isBrokerC rb2 wb (by omega) ?_
        first | with_reducible refine b_eq (fun y2 => ?_) (fun y2 => ?_) | with_reducible refine b_ne (fun y2 => ?_) (fun y2 => ?_)
        rotate_left
        · exact zX12_plan_139 (sX12_fails (no G2 c2 (fun q => by omega)))
        have tw : ∀ c4 j : Nat, j + c4 = i → (∀ y, y < j → ¬ (dF x y = dF x i ∧ dT x y = dT x i)) → aX12_plan T (d + 3) Q X 148 [some (mx_R 99), some (mx_I (C : Int)), some (mx_J x), none, some (mx_I (N : Int)), some (mx_I (K : Int)), some (mx_I x6), some (mx_I (i : Int)), some (mx_I (j : Int)), none, none, none, none, none, none] [] G2 (0, 0) := by
          intro c4
          induction c4 with
          | zero =>
            intro j hj hy
            have e3 : j = i := by omega
            subst e3
            refine zX12_plan_148 ?_
            first | with_reducible refine c_lt ?_ ?_ (fun w => ?_) (fun w => ?_) | with_reducible refine c_le ?_ ?_ (fun w => ?_) (fun w => ?_) | with_reducible refine c_eq ?_ ?_ (fun w => ?_) (fun w => ?_) | with_reducible refine c_ne ?_ ?_ (fun w => ?_) (fun w => ?_)
            · omega
            · omega
            · refine s_inN ?_ (fun ea => ?_)
              · omega
              try simp only [ea]
              clear ea
              refine s_inN ?_ (fun ea => ?_)
              · omega
              try simp only [ea]
              clear ea
              rw [f163, f164]
              refine sX12_net (d := d + 1) (c := c) we.1 we.2.1 (re.fr cg2 (by decide) (by decide)) (by omega) (by omega) (by omega) ?_
              have ea : netC c (dF x j) (dT x j) C = dA c C x j := rfl
              rw [ea]
              refine s_inN ?_ (fun ea => ?_)
              · omega
              try simp only [ea]
              clear ea
              intro G3 f3
              have c3 : Ch [163, 164, 167] [] g1 G3 := by rw [f3]; exact c2.up (by decide) (by decide)
              have rn : -2000000000 ≤ dA c C x j ∧ dA c C x j ≤ 2000000000 := we.1.2.2.1 ((dF x j * 12 + dT x j) * 4 + C) (by omega)
              refine s_inN ?_ (fun ea => ?_)
              · omega
              try simp only [ea]
              clear ea
              rw [show G3 167 j = dA c C x j by rw [f3, up_s]]
              first | with_reducible refine l_gt ?_ ?_ (fun w3 => ?_) (fun w3 => ?_) | with_reducible refine l_lt ?_ ?_ (fun w3 => ?_) (fun w3 => ?_) | with_reducible refine l_ge ?_ ?_ (fun w3 => ?_) (fun w3 => ?_) | with_reducible refine l_le ?_ ?_ (fun w3 => ?_) (fun w3 => ?_) | with_reducible refine l_eq ?_ ?_ (fun w3 => ?_) (fun w3 => ?_) | with_reducible refine l_ne ?_ ?_ (fun w3 => ?_) (fun w3 => ?_)
              · omega
              · omega
              · rw [show (j : Int) + 1 = ((j + 1 : Nat) : Int) by omega]
                refine ih (j + 1) (by omega) G3 _ c3 (okB_iff.mpr (fun y hy2 => ?_)) (fun y hy2 => ?_)
                · by_cases e4 : y = j
                  · subst e4; exact ⟨by omega, by omega, hy, w3⟩
                  · exact okp y (by omega)
                · have := hj2 y (by omega)
                  rw [f3, up_q (by decide), up_q (by decide)]
                  refine ⟨this.1, this.2, ?_⟩
                  by_cases e4 : y = j
                  · subst e4; rw [up_s]
                  · rw [up_i e4, e2, up_q (by decide), e1, up_q (by decide)]
                    exact (hD y (by omega)).2.2
              · exact sX12_fails (no G3 c3 (fun q => by omega))
            · omega
          | succ c4 ih4 =>
            intro j hj hy
            have b1 := hj2 j (by omega)
            have f1 : dF x j < 16 := nyb_lt x (8 * j)
            have f2 : dT x j < 16 := nyb_lt x (8 * j + 4)
            have nx : ¬ (dF x j = dF x i ∧ dT x j = dT x i) → aX12_plan T (d + 3) Q X 195 [some (mx_R 99), some (mx_I (C : Int)), some (mx_J x), none, some (mx_I (N : Int)), some (mx_I (K : Int)), some (mx_I x6), some (mx_I (i : Int)), some (mx_I (j : Int)), none, none, none, none, none, none] [] G2 (0, 0) := by
              intro ne
              refine zX12_plan_195 ?_
              rw [show (j : Int) + 1 = ((j + 1 : Nat) : Int) by omega]
              refine ih4 (j + 1) (by omega) (fun y hy2 => ?_)
              by_cases e4 : y = j
              · subst e4; exact ne
              · exact hy y (by omega)
            refine zX12_plan_148 ?_
            first | with_reducible refine c_lt ?_ ?_ (fun w => ?_) (fun w => ?_) | with_reducible refine c_le ?_ ?_ (fun w => ?_) (fun w => ?_) | with_reducible refine c_eq ?_ ?_ (fun w => ?_) (fun w => ?_) | with_reducible refine c_ne ?_ ?_ (fun w => ?_) (fun w => ?_)
            · omega
            · omega
            · omega
            · refine s_inN ?_ (fun ea => ?_)
              · omega
              try simp only [ea]
              clear ea
              refine s_inN ?_ (fun ea => ?_)
              · omega
              try simp only [ea]
              clear ea
              rw [b1.1, f163]
              first | with_reducible refine c_lt ?_ ?_ (fun w1 => ?_) (fun w1 => ?_) | with_reducible refine c_le ?_ ?_ (fun w1 => ?_) (fun w1 => ?_) | with_reducible refine c_eq ?_ ?_ (fun w1 => ?_) (fun w1 => ?_) | with_reducible refine c_ne ?_ ?_ (fun w1 => ?_) (fun w1 => ?_)
              · omega
              · omega
              · exact nx (fun y => by omega)
              · refine s_inN ?_ (fun ea => ?_)
                · omega
                try simp only [ea]
                clear ea
                refine s_inN ?_ (fun ea => ?_)
                · omega
                try simp only [ea]
                clear ea
                rw [b1.2, f164]
                first | with_reducible refine c_lt ?_ ?_ (fun w2 => ?_) (fun w2 => ?_) | with_reducible refine c_le ?_ ?_ (fun w2 => ?_) (fun w2 => ?_) | with_reducible refine c_eq ?_ ?_ (fun w2 => ?_) (fun w2 => ?_) | with_reducible refine c_ne ?_ ?_ (fun w2 => ?_) (fun w2 => ?_)
                · omega
                · omega
                · exact nx (fun y => by omega)
                · exact sX12_fails (no G2 c2 (fun q => q.2.2.1 j (by omega) ⟨by omega, by omega⟩))
        exact tw i 0 (by omega) (fun y hy => absurd hy (Nat.not_lt_zero _))
  exact debts N 0 (by omega) g1 none (Ch.rf g1) (okB_iff.mpr (fun j hj => absurd hj (Nat.not_lt_zero _))) (fun j hj => absurd hj (Nat.not_lt_zero _))
