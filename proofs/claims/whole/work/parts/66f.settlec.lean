/-! fewest settlings: the class settles -/
theorem sX1_leastGroup {T : Nat × (Nat → Int32)} {d : Nat} {Q : mz_K} {X : mz_X} {g : mz_S} {n P p : Nat} {bal : Nat → Int} (hn : n ≤ 9) (hP : P = 2 ^ n) (h67 : ∀ q, q < P → g 67 q = sbS n bal q) (hB : ∀ i, i < n → -24000000000 ≤ bal i ∧ bal i ≤ 24000000000) (hG : GT (sbS n bal) (g 68) P) (hp : p < P) (h0 : p ≠ 0) (hs : sbS n bal p = 0) (k : Q ((lgF (sbS n bal) (g 68) p : Nat) : Int) g) : zC T (d + 1) 20 [mx_R 62, mx_I (p : Int)] g Q X := by
  have p2 : P ≤ 512 := by rw [hP]; exact Nat.pow_le_pow_right (n := 2) (by decide) hn
  have rng := GT_rng hG (sbS_0 n bal)
  have hp9 : p < 512 := by omega
  obtain ⟨a, b, c, e, f, hb⟩ := lw_get hp9 h0
  obtain ⟨x1, x2, x3⟩ := lg_ex hG hp hp9 h0 hs
  have hl := lb_lt hp9
  refine zX1_leastGroup ?_
  rw [e]
  have main : ∀ cc q : Nat, q + cc = p → (∀ j, j < q → ¬ PG (sbS n bal) (g 68) p j) → aX1_leastGroup T d Q X 7 [some (mx_R 62), some (mx_I (p : Int)), some (mx_I (lb p : Nat)), some (mx_I (q : Int))] [] g (0, 0) := by
    intro cc
    induction cc with
    | zero =>
      intro q hq no
      refine zX1_leastGroup_7 ?_
      first | with_reducible refine c_lt ?_ ?_ (fun z => ?_) (fun z => ?_) | with_reducible refine c_le ?_ ?_ (fun z => ?_) (fun z => ?_) | with_reducible refine c_eq ?_ ?_ (fun z => ?_) (fun z => ?_) | with_reducible refine c_ne ?_ ?_ (fun z => ?_) (fun z => ?_)
      · omega
      · omega
      · have e2 : lgF (sbS n bal) (g 68) p = p := by
          rcases Nat.lt_or_ge (lgF (sbS n bal) (g 68) p) p with y | y
          · exact absurd x1 (no _ (by omega))
          · omega
        rw [e2] at k
        exact k
      · omega
    | succ cc ih =>
      intro q hq no
      have nx : ¬ PG (sbS n bal) (g 68) p q → aX1_leastGroup T d Q X 59 [some (mx_R 62), some (mx_I (p : Int)), some (mx_I (lb p : Nat)), some (mx_I (q : Int))] [] g (0, 0) := by
        intro np
        refine zX1_leastGroup_59 ?_
        rw [show (q : Int) + 1 = ((q + 1 : Nat) : Int) by omega]
        refine ih (q + 1) (by omega) (fun j hj => ?_)
        by_cases y : j = q
        · rw [y]; exact np
        · exact no j (by omega)
      have al : q &&& lb p ≤ q := Nat.and_le_left
      have al2 : q &&& p ≤ q := Nat.and_le_left
      refine zX1_leastGroup_7 ?_
      rw [iand_nat (a := q) (b := p) (by omega) (by omega), iand_nat (a := q) (b := lb p) (by omega) (by omega)]
      first | with_reducible refine c_lt ?_ ?_ (fun z => ?_) (fun z => ?_) | with_reducible refine c_le ?_ ?_ (fun z => ?_) (fun z => ?_) | with_reducible refine c_eq ?_ ?_ (fun z => ?_) (fun z => ?_) | with_reducible refine c_ne ?_ ?_ (fun z => ?_) (fun z => ?_)
      · omega
      · omega
      · omega
      · first | with_reducible refine c_lt ?_ ?_ (fun z1 => ?_) (fun z1 => ?_) | with_reducible refine c_le ?_ ?_ (fun z1 => ?_) (fun z1 => ?_) | with_reducible refine c_eq ?_ ?_ (fun z1 => ?_) (fun z1 => ?_) | with_reducible refine c_ne ?_ ?_ (fun z1 => ?_) (fun z1 => ?_)
        · omega
        · omega
        · exact nx (fun y => z1 (by rw [y.1]))
        · have hq1 : q &&& p = q := by omega
          first | with_reducible refine c_lt ?_ ?_ (fun z2 => ?_) (fun z2 => ?_) | with_reducible refine c_le ?_ ?_ (fun z2 => ?_) (fun z2 => ?_) | with_reducible refine c_eq ?_ ?_ (fun z2 => ?_) (fun z2 => ?_) | with_reducible refine c_ne ?_ ?_ (fun z2 => ?_) (fun z2 => ?_)
          · omega
          · omega
          · exact nx (fun y => y.2.1 (by omega))
          · have hq2 : ¬ q &&& lb p = 0 := by omega
            have bq := sbS_bnd (B := 24000000000) hB (by omega) q
            refine s_inN ?_ (fun ea => ?_)
            · omega
            try simp only [ea]
            clear ea
            rw [h67 q (by omega)]
            first | with_reducible refine l_gt ?_ ?_ (fun z3 => ?_) (fun z3 => ?_) | with_reducible refine l_lt ?_ ?_ (fun z3 => ?_) (fun z3 => ?_) | with_reducible refine l_ge ?_ ?_ (fun z3 => ?_) (fun z3 => ?_) | with_reducible refine l_le ?_ ?_ (fun z3 => ?_) (fun z3 => ?_) | with_reducible refine l_eq ?_ ?_ (fun z3 => ?_) (fun z3 => ?_) | with_reducible refine l_ne ?_ ?_ (fun z3 => ?_) (fun z3 => ?_)
            · omega
            · omega
            · exact nx (fun y => z3 y.2.2.1)
            · have xs := xor_sub hq1
              have xl : p ^^^ q ≤ p := by rw [← xs.1]; exact Nat.and_le_right
              have r1 := rng (p ^^^ q) (by omega)
              have r2 := rng p hp
              rw [idif_nat hp9 hq1]
              refine s_inN ?_ (fun ea => ?_)
              · omega
              try simp only [ea]
              clear ea
              refine s_inN ?_ (fun ea => ?_)
              · omega
              try simp only [ea]
              clear ea
              first | with_reducible refine c_lt ?_ ?_ (fun z4 => ?_) (fun z4 => ?_) | with_reducible refine c_le ?_ ?_ (fun z4 => ?_) (fun z4 => ?_) | with_reducible refine c_eq ?_ ?_ (fun z4 => ?_) (fun z4 => ?_) | with_reducible refine c_ne ?_ ?_ (fun z4 => ?_) (fun z4 => ?_)
              · omega
              · omega
              · exact nx (fun y => z4 (by have := y.2.2.2; omega))
              · rw [← lg_is hG hp hp9 h0 hs ⟨hq1, hq2, z3, by omega⟩ no] at k
                exact k
  refine main (p - 1) 1 (by omega) (fun j hj y => ?_)
  rw [show j = 0 by omega] at y
  exact y.2.1 (Nat.zero_and _)
theorem sX1_firstOf {T : Nat × (Nat → Int32)} {d : Nat} {Q : mz_K} {X : mz_X} {g : mz_S} {n q : Nat} {sg : Int} {bal : Nat → Int} {f : Nat → Bool} (hs : sg = 1 ∨ sg = -1) (hn : n ≤ 9) (hq : q < 512) (hb : ∀ i, i < n → g 66 i = bal i) (hB : ∀ i, i < n → -24000000000 ≤ bal i ∧ bal i ≤ 24000000000) (hf : ∀ i, i < n → (f i = true ↔ q.testBit i = true ∧ 0 < bal i * sg)) (k1 : fstN f n < n → Q ((fstN f n : Nat) : Int) g) (k2 : fstN f n = n → Q (-1) g) : zC T (d + 2) 22 [mx_R 62, mx_I (q : Int), mx_I (n : Int), mx_I sg] g Q X := by
  have ws : w32 sg = sg := by rcases hs with z | z <;> rw [z] <;> decide
  refine zX1_firstOf ?_
  have main : ∀ cc i : Nat, i + cc = n → (∀ j, j < i → f j = false) → aX1_firstOf T (d + 1) Q X 3 [some (mx_R 62), some (mx_I (q : Int)), some (mx_I (n : Int)), some (mx_I sg), some (mx_I (i : Int))] [] g (0, 0) := by
    intro cc
    induction cc with
    | zero =>
      intro i hi no
      refine zX1_firstOf_3 ?_
      first | with_reducible refine c_lt ?_ ?_ (fun z => ?_) (fun z => ?_) | with_reducible refine c_le ?_ ?_ (fun z => ?_) (fun z => ?_) | with_reducible refine c_eq ?_ ?_ (fun z => ?_) (fun z => ?_) | with_reducible refine c_ne ?_ ?_ (fun z => ?_) (fun z => ?_)
      · omega
      · omega
      · exact k2 (fstN_none (fun j hj => no j (by omega)))
      · omega
    | succ cc ih =>
      intro i hi no
      have nx : ¬ (q.testBit i = true ∧ 0 < bal i * sg) → aX1_firstOf T (d + 1) Q X 36 [some (mx_R 62), some (mx_I (q : Int)), some (mx_I (n : Int)), some (mx_I sg), some (mx_I (i : Int))] [] g (0, 0) := by
        intro np
        refine zX1_firstOf_36 ?_
        rw [show (i : Int) + 1 = ((i + 1 : Nat) : Int) by omega]
        refine ih (i + 1) (by omega) (fun j hj => ?_)
        by_cases y : j = i
        · rw [y]
          cases hz : f i with
          | false => rfl
          | true => exact absurd ((hf i (by omega)).mp hz) np
        · exact no j (by omega)
      have bi := hB i (by omega)
      have yb : -24000000000 ≤ bal i * sg ∧ bal i * sg ≤ 24000000000 := by rcases hs with z | z <;> rw [z] <;> omega
      refine zX1_firstOf_3 ?_
      first | with_reducible refine c_lt ?_ ?_ (fun z => ?_) (fun z => ?_) | with_reducible refine c_le ?_ ?_ (fun z => ?_) (fun z => ?_) | with_reducible refine c_eq ?_ ?_ (fun z => ?_) (fun z => ?_) | with_reducible refine c_ne ?_ ?_ (fun z => ?_) (fun z => ?_)
      · omega
      · omega
      · omega
      · refine sX11_holds (n := i) (by omega) ?_
        rw [zb_nat (by omega)]
        first | with_reducible refine b_eq (fun z2 => ?_) (fun z2 => ?_) | with_reducible refine b_ne (fun z2 => ?_) (fun z2 => ?_)
        · exact nx (fun y => z2 y.1)
        · refine s_inN ?_ (fun ea => ?_)
          · omega
          try simp only [ea]
          clear ea
          rw [hb i (by omega), ws]
          first | with_reducible refine l_gt ?_ ?_ (fun z3 => ?_) (fun z3 => ?_) | with_reducible refine l_lt ?_ ?_ (fun z3 => ?_) (fun z3 => ?_) | with_reducible refine l_ge ?_ ?_ (fun z3 => ?_) (fun z3 => ?_) | with_reducible refine l_le ?_ ?_ (fun z3 => ?_) (fun z3 => ?_) | with_reducible refine l_eq ?_ ?_ (fun z3 => ?_) (fun z3 => ?_) | with_reducible refine l_ne ?_ ?_ (fun z3 => ?_) (fun z3 => ?_)
          · omega
          · omega
          · exact nx (fun y => by have := y.2; omega)
          · have e : fstN f n = i := fstN_eq (by omega) ((hf i (by omega)).mpr ⟨z2, by omega⟩) no
            have t := k1 (by omega)
            rw [e] at t
            exact t
  exact main n 0 (by omega) (fun j hj => absurd hj (Nat.not_lt_zero j))
def SsG (g : mz_S) (b cq cf p t a n : Nat) (M : List Nat) (s : stS) : Prop := (∀ i, i < n → g b i = s.1 i) ∧ g cq cf = (s.2.length : Int) ∧ ∀ j, j < s.2.length → g p j = (M.getD (s.2.getD j (0, 0, 0)).1 0 : Nat) ∧ g t j = (M.getD (s.2.getD j (0, 0, 0)).2.1 0 : Nat) ∧ g a j = (s.2.getD j (0, 0, 0)).2.2
theorem getD_apS {L : List (Nat × Nat × Int)} {x : Nat × Nat × Int} {i : Nat} : (L ++ [x]).getD i (0, 0, 0) = if i < L.length then L.getD i (0, 0, 0) else if i = L.length then x else (0, 0, 0) := by
  rw [List.getD_eq_getElem?_getD, List.getElem?_append]
  split
  · rw [List.getD_eq_getElem?_getD]
  · split
    · rename_i h; subst h; simp
    · rw [List.getElem?_eq_none (by simp; omega)]; rfl
theorem sX1_settleGroup {T : Nat × (Nat → Int32)} {d : Nat} {Q : mz_K} {X : mz_X} {g : mz_S} {n q : Nat} {M : List Nat} {s : stS} (hn : n ≤ 9) (hq : q < 512) (hM : ∀ i, i < n → g 65 i = (M.getD i 0 : Nat)) (I : StI n 24000000000 q s) (h : SsG g 66 62 10 69 70 71 n M s) (k : ∀ g', Ch [62, 66, 69, 70, 71] [] g g' → SsG g' 66 62 10 69 70 71 n M (syR n q 9 s) → Q 0 g') : zC T (d + 3) 21 [mx_R 62, mx_I (q : Int), mx_I (n : Int)] g Q X := by
  refine zX1_settleGroup ?_
  have main : ∀ f j : Nat, j + f = 9 → ∀ (s : stS) G o4 o5 o6, nzQ n q s ≤ f → StI n 24000000000 q s → Ch [62, 66, 69, 70, 71] [] g G → SsG G 66 62 10 69 70 71 n M s → (∀ g', Ch [62, 66, 69, 70, 71] [] g g' → SsG g' 66 62 10 69 70 71 n M (syR n q f s) → Q 0 g') → aX1_settleGroup T (d + 2) Q X 2 [some (mx_R 62), some (mx_I (q : Int)), some (mx_I (n : Int)), some (mx_I (j : Int)), o4, o5, o6, none] [] G (0, 0) := by
    intro f
    induction f with
    | zero =>
      intro j hj s G o4 o5 o6 hz I cG hS kk
      refine zX1_settleGroup_2 ?_
      first | with_reducible refine c_lt ?_ ?_ (fun z => ?_) (fun z => ?_) | with_reducible refine c_le ?_ ?_ (fun z => ?_) (fun z => ?_) | with_reducible refine c_eq ?_ ?_ (fun z => ?_) (fun z => ?_) | with_reducible refine c_ne ?_ ?_ (fun z => ?_) (fun z => ?_)
      · omega
      · omega
      · exact zX1_settleGroup_151 (kk G cG hS)
      · omega
    | succ f ih =>
      intro j hj s G o4 o5 o6 hz I cG hS kk
      obtain ⟨h1, h2, h3⟩ := hS
      have hlen := I.2.2
      have stop : ¬ (syA n q s < n ∧ syB n q s < n) → Q 0 G := fun y => kk G cG (by
        show SsG G 66 62 10 69 70 71 n M (if syA n q s < n ∧ syB n q s < n then syR n q f (syN n q s) else s)
        rw [if_neg y]
        exact ⟨h1, h2, h3⟩)
      refine zX1_settleGroup_2 ?_
      rw [h2]
      first | with_reducible refine c_lt ?_ ?_ (fun z => ?_) (fun z => ?_) | with_reducible refine c_le ?_ ?_ (fun z => ?_) (fun z => ?_) | with_reducible refine c_eq ?_ ?_ (fun z => ?_) (fun z => ?_) | with_reducible refine c_ne ?_ ?_ (fun z => ?_) (fun z => ?_)
      · omega
      · omega
      · omega
      · first | with_reducible refine c_lt ?_ ?_ (fun z2 => ?_) (fun z2 => ?_) | with_reducible refine c_le ?_ ?_ (fun z2 => ?_) (fun z2 => ?_) | with_reducible refine c_eq ?_ ?_ (fun z2 => ?_) (fun z2 => ?_) | with_reducible refine c_ne ?_ ?_ (fun z2 => ?_) (fun z2 => ?_)
        · omega
        · omega
        · refine zX1_settleGroup_151 (stop (fun y => ?_))
          have l0 : nzN (fun k => decide (s.1 k ≠ 0)) n = 0 := by omega
          have := nzN_0 n l0 _ y.1
          have la := (syA_t y.1).2
          have := of_decide_eq_false this
          omega
        · have eA : ∀ i, i < n → ((fun k => q.testBit k && decide (s.1 k < 0)) i = true ↔ q.testBit i = true ∧ 0 < s.1 i * (-1)) := fun i _ => by
            simp only [Bool.and_eq_true, decide_eq_true_eq]
            constructor <;> rintro ⟨y1, y2⟩ <;> exact ⟨y1, by omega⟩
          have eB : ∀ i, i < n → ((fun k => q.testBit k && decide (0 < s.1 k)) i = true ↔ q.testBit i = true ∧ 0 < s.1 i * 1) := fun i _ => by
            simp only [Bool.and_eq_true, decide_eq_true_eq]
            constructor <;> rintro ⟨y1, y2⟩ <;> exact ⟨y1, by omega⟩
          refine sX1_firstOf (d := d) (f := fun k => q.testBit k && decide (s.1 k < 0)) (Or.inr rfl) hn hq h1 I.1 eA (fun ha => ?_) (fun ha => ?_)
          · refine sX1_firstOf (d := d) (f := fun k => q.testBit k && decide (0 < s.1 k)) (Or.inl rfl) hn hq h1 I.1 eB (fun hb => ?_) (fun hb => ?_)
            · have ha : syA n q s < n := ha
              have hb : syB n q s < n := hb
              have fs : ((fstN (fun k => q.testBit k && decide (s.1 k < 0)) n : Nat) : Int) = ((syA n q s : Nat) : Int) := rfl
              have fs2 : ((fstN (fun k => q.testBit k && decide (0 < s.1 k)) n : Nat) : Int) = ((syB n q s : Nat) : Int) := rfl
              rw [fs, fs2]
              obtain ⟨n1, n2, n3, n4, n5⟩ := syN_inv I ha hb
              have ba := I.1 _ ha
              have bb := I.1 _ hb
              have la := (syA_t ha).2
              have lb2 := (syB_t hb).2
              have nab : syB n q s ≠ syA n q s := fun y => by rw [y] at lb2; omega
              have eR : syR n q (f + 1) s = syR n q f (syN n q s) := if_pos ⟨ha, hb⟩
              rw [eR] at kk
              have e1 : (syN n q s).1 = fun k => if k = syA n q s then s.1 k + syV n q s else if k = syB n q s then s.1 k - syV n q s else s.1 k := rfl
              have e2 : (syN n q s).2 = s.2 ++ [(syA n q s, syB n q s, syV n q s)] := rfl
              have vd : syV n q s = min (-(s.1 (syA n q s))) (s.1 (syB n q s)) := rfl
              have n6 := n1.2.2
              rw [e2, List.length_append] at n6
              have l1 : [(syA n q s, syB n q s, syV n q s)].length = 1 := rfl
              generalize hA : syA n q s = a at *
              generalize hBB : syB n q s = b at *
              generalize hV : syV n q s = v at *
              first | with_reducible refine c_lt ?_ ?_ (fun z3 => ?_) (fun z3 => ?_) | with_reducible refine c_le ?_ ?_ (fun z3 => ?_) (fun z3 => ?_) | with_reducible refine c_eq ?_ ?_ (fun z3 => ?_) (fun z3 => ?_) | with_reducible refine c_ne ?_ ?_ (fun z3 => ?_) (fun z3 => ?_)
              · omega
              · omega
              · omega
              · first | with_reducible refine c_lt ?_ ?_ (fun z4 => ?_) (fun z4 => ?_) | with_reducible refine c_le ?_ ?_ (fun z4 => ?_) (fun z4 => ?_) | with_reducible refine c_eq ?_ ?_ (fun z4 => ?_) (fun z4 => ?_) | with_reducible refine c_ne ?_ ?_ (fun z4 => ?_) (fun z4 => ?_)
                · omega
                · omega
                · refine s_inN ?_ (fun ea => ?_)
                  · omega
                  try simp only [ea]
                  clear ea
                  refine s_inN ?_ (fun ea => ?_)
                  · omega
                  try simp only [ea]
                  clear ea
                  rw [h1 a ha, h1 b hb]
                  refine sJ9_minL (by omega) (by omega) ?_
                  rw [← vd]
                  refine s_inN ?_ (fun ea => ?_)
                  · omega
                  try simp only [ea]
                  clear ea
                  refine s_inN ?_ (fun ea => ?_)
                  · omega
                  try simp only [ea]
                  clear ea
                  intro g4 f4
                  refine s_inN ?_ (fun ea => ?_)
                  · omega
                  try simp only [ea]
                  clear ea
                  refine s_inN ?_ (fun ea => ?_)
                  · omega
                  try simp only [ea]
                  clear ea
                  intro g5 f5
                  have q1 : g5 62 10 = (s.2.length : Int) := by rw [f5, up_q (by decide), f4, up_q (by decide)]; exact h2
                  refine s_inN ?_ (fun ea => ?_)
                  · omega
                  try simp only [ea]
                  clear ea
                  rw [q1]
                  refine s_inN ?_ (fun ea => ?_)
                  · omega
                  try simp only [ea]
                  clear ea
                  intro g6 f6
                  have q2 : g6 62 10 = (s.2.length : Int) := by rw [f6, up_q (by decide)]; exact q1
                  refine s_inN ?_ (fun ea => ?_)
                  · omega
                  try simp only [ea]
                  clear ea
                  rw [q2]
                  refine s_inN ?_ (fun ea => ?_)
                  · omega
                  try simp only [ea]
                  clear ea
                  intro g7 f7
                  have q3 : g7 62 10 = (s.2.length : Int) := by rw [f7, up_q (by decide)]; exact q2
                  rw [q3]
                  refine s_inN ?_ (fun ea => ?_)
                  · omega
                  try simp only [ea]
                  clear ea
                  intro g8 f8
                  intro g9 f9
                  rw [show (j : Int) + 1 = ((j + 1 : Nat) : Int) by omega]
                  have c9 : Ch [62, 66, 69, 70, 71] [] g g9 := by
                    rw [f9, f8, f7, f6, f5, f4]
                    exact (((((cG.up (by decide) (by decide)).up (by decide) (by decide)).up (by decide) (by decide)).up (by decide) (by decide)).up (by decide) (by decide)).up (by decide) (by decide)
                  have m65 : g5 65 = G 65 := by rw [f5, f4]; funext i; rw [up_q (by decide), up_q (by decide)]
                  have m66 : g6 65 = G 65 := by rw [f6]; funext i; rw [up_q (by decide)]; exact congrFun m65 i
                  refine ih (j + 1) (by omega) (syN n q s) g9 _ _ _ (by omega) n1 c9 ⟨fun i hi => ?_, ?_, fun i hi => ?_⟩ kk
                  · rw [f9, up_q (by decide), f8, up_q (by decide), f7, up_q (by decide), f6, up_q (by decide), f5, e1]
                    show mx_up g4 66 b (g4 66 b - v) 66 i = (if i = a then s.1 i + v else if i = b then s.1 i - v else s.1 i)
                    by_cases y : i = a
                    · rw [if_pos y, y, up_i (fun w => nab w.symm), f4, up_s, h1 a ha]
                    · rw [if_neg y]
                      by_cases y2 : i = b
                      · rw [if_pos y2, y2, up_s, f4, up_i nab, h1 b hb]
                      · rw [if_neg y2, up_i y2, f4, up_i y]
                        exact h1 i hi
                  · rw [f9, up_s, f8, up_q (by decide), q3, e2, List.length_append]
                    rfl
                  · rw [e2, List.length_append] at hi
                    rw [e2, getD_apS]
                    rw [f9, up_q (by decide), up_q (by decide), up_q (by decide), f8, up_q (by decide), up_q (by decide)]
                    by_cases y : i < s.2.length
                    · rw [if_pos y, up_i (by omega), f7, up_q (by decide), up_i (by omega), up_q (by decide), f6, up_i (by omega), up_q (by decide), up_q (by decide), f5, up_q (by decide), up_q (by decide), up_q (by decide), f4, up_q (by decide), up_q (by decide), up_q (by decide)]
                      exact h3 i y
                    · have y2 : i = s.2.length := by omega
                      rw [if_neg y, if_pos y2, y2, up_s, f7, up_q (by decide), up_s, m66, f6, up_s, m65, cG.1 65 (by decide) (by decide), hM a ha, hM b hb]
                      exact ⟨rfl, rfl, rfl⟩
                · omega
            · have hb : syB n q s = n := hb
              have st := stop (fun y => by omega)
              first | with_reducible refine c_lt ?_ ?_ (fun z3 => ?_) (fun z3 => ?_) | with_reducible refine c_le ?_ ?_ (fun z3 => ?_) (fun z3 => ?_) | with_reducible refine c_eq ?_ ?_ (fun z3 => ?_) (fun z3 => ?_) | with_reducible refine c_ne ?_ ?_ (fun z3 => ?_) (fun z3 => ?_)
              · omega
              · omega
              · exact zX1_settleGroup_47 st
              · first | with_reducible refine c_lt ?_ ?_ (fun z4 => ?_) (fun z4 => ?_) | with_reducible refine c_le ?_ ?_ (fun z4 => ?_) (fun z4 => ?_) | with_reducible refine c_eq ?_ ?_ (fun z4 => ?_) (fun z4 => ?_) | with_reducible refine c_ne ?_ ?_ (fun z4 => ?_) (fun z4 => ?_)
                · omega
                · omega
                · omega
                · exact zX1_settleGroup_47 st
          · have ha : syA n q s = n := ha
            have st := stop (fun y => by omega)
            refine sX1_firstOf (d := d) (f := fun k => q.testBit k && decide (0 < s.1 k)) (Or.inl rfl) hn hq h1 I.1 eB (fun hb => ?_) (fun hb => ?_)
            · first | with_reducible refine c_lt ?_ ?_ (fun z3 => ?_) (fun z3 => ?_) | with_reducible refine c_le ?_ ?_ (fun z3 => ?_) (fun z3 => ?_) | with_reducible refine c_eq ?_ ?_ (fun z3 => ?_) (fun z3 => ?_) | with_reducible refine c_ne ?_ ?_ (fun z3 => ?_) (fun z3 => ?_)
              · omega
              · omega
              · exact zX1_settleGroup_47 st
              · omega
            · first | with_reducible refine c_lt ?_ ?_ (fun z3 => ?_) (fun z3 => ?_) | with_reducible refine c_le ?_ ?_ (fun z3 => ?_) (fun z3 => ?_) | with_reducible refine c_eq ?_ ?_ (fun z3 => ?_) (fun z3 => ?_) | with_reducible refine c_ne ?_ ?_ (fun z3 => ?_) (fun z3 => ?_)
              · omega
              · omega
              · exact zX1_settleGroup_47 st
              · omega
  have nz : nzQ n q s ≤ 9 := Nat.le_trans (nzN_n _ n) hn
  exact main 9 0 (by omega) s g none none none nz I (Ch.rf g) h k
