/-! plans: the best one, the class -/
def PlC (g : mz_S) (n wks : Nat) (b : Int × Int × Nat) : Prop := g 72 18 = b.1 ∧ (¬ b.1 = -1 → ∀ d, d < n → g 83 d = (wkV n wks b.2.2 d : Nat))
theorem wk_pow : ∀ n, n < 7 → ∀ w, w < 5 → w ^ n ≤ 4096 := by decide
theorem sX2_findPlan {T : Nat × (Nat → Int32)} {d : Nat} {Q : mz_K} {X : mz_X} {g : mz_S} {c : mz_S} {co m n wks : Nat} {x : Int} (wl : WfL0 c) (wb : WfB c) (wx : WfX c) (wg : WfG c) (em : c 9 1 = (m : Int)) (hm : m ≤ 12) (hn : 1 ≤ n ∧ n ≤ 6) (hco : co < 4) (hw : 1 ≤ wks ∧ wks ≤ 4) (ok : okB c co x m n = true) (cg : Ch [79, 80, 81] [] c g) (h : DbG g c co x n) (k : ∀ g', Ch [72, 82, 83, 84, 85] [] g g' → (∀ q, q ≠ 18 → g' 72 q = g 72 q) → PlC g' n wks (plR c co x m n wks (wks ^ n)) → Q 0 g') : zC T (d + 4) 28 [mx_R 72, mx_I (co : Int), mx_I (n : Int), mx_I (wks : Int)] g Q X := by
  have pw := wk_pow n (by omega) wks (by omega)
  have pp : 1 ≤ wks ^ n := Nat.one_le_pow _ _ (by omega)
  refine zX2_findPlan ?_
  -- through the plans
  have plans : ∀ cc q : Nat, q + cc = wks ^ n → ∀ G o7 o8 o9, Ch [72, 82, 83, 84, 85] [] g G → (∀ p, p ≠ 18 → G 72 p = g 72 p) → WkG G n (wkV n wks q) → PlC G n wks (plR c co x m n wks q) → (∀ w, 1 ≤ w → w ≤ wks → FtG G c co x m n w) → aX2_findPlan T (d + 3) Q X 66 [some (mx_R 72), some (mx_I (co : Int)), some (mx_I (n : Int)), some (mx_I (wks : Int)), some (mx_I (plR c co x m n wks q).2.1), some (mx_I ((wks ^ n : Nat) : Int)), some (mx_I (q : Int)), o7, o8, o9] [] G (0, 0) := by
    intro cc
    induction cc with
    | zero =>
      intro q hq G o7 o8 o9 cG h72 hW hP hF
      refine zX2_findPlan_66 ?_
      first | with_reducible refine c_lt ?_ ?_ (fun z => ?_) (fun z => ?_) | with_reducible refine c_le ?_ ?_ (fun z => ?_) (fun z => ?_) | with_reducible refine c_eq ?_ ?_ (fun z => ?_) (fun z => ?_) | with_reducible refine c_ne ?_ ?_ (fun z => ?_) (fun z => ?_)
      · omega
      · omega
      · have : q = wks ^ n := by omega
        rw [this] at hP
        exact k G cG h72 hP
      · omega
    | succ cc ih =>
      intro q hq G o7 o8 o9 cG h72 hW hP hF
      have wr : ∀ j, j < n → wkV n wks q j ≤ 4 := fun j _ => by have := wkV_rng (n := n) (wks := wks) (q := q) (d := j) hw.1; omega
      have pr := plR_rng (c := c) (co := co) (m := m) (n := n) (wks := wks) (x := x) (by omega) hw q
      have lb := mxN_le (f := wkV n wks q) (B := 4) n wr
      have sb := smN_le (f := wkV n wks q) (B := 4) n wr
      have p18 := hP.1
      obtain ⟨L, eL⟩ : ∃ L, L = mxN (wkV n wks q) n := ⟨_, rfl⟩
      obtain ⟨S, eS⟩ : ∃ S, S = smN (wkV n wks q) n := ⟨_, rfl⟩
      have step : plR c co x m n wks (q + 1) = if ((plR c co x m n wks q).1 = -1 ∨ (L : Int) < (plR c co x m n wks q).1 ∨ ((L : Int) = (plR c co x m n wks q).1 ∧ (S : Int) < (plR c co x m n wks q).2.1)) ∧ rgtB c co x m n wks (wkV n wks q) = true then ((L : Int), (S : Int), q) else plR c co x m n wks q := by rw [eL, eS]; rfl
      rw [← eL] at lb
      rw [← eS] at sb
      -- on to the next
      have nx : ∀ G2 b, Ch [72, 82, 83, 84, 85] [] g G2 → (∀ p, p ≠ 18 → G2 72 p = g 72 p) → WkG G2 n (wkV n wks q) → plR c co x m n wks (q + 1) = b → PlC G2 n wks b → (∀ w, 1 ≤ w → w ≤ wks → FtG G2 c co x m n w) → ∀ x7 x8 x9, aX2_findPlan T (d + 3) Q X 165 [some (mx_R 72), some (mx_I (co : Int)), some (mx_I (n : Int)), some (mx_I (wks : Int)), some (mx_I b.2.1), some (mx_I ((wks ^ n : Nat) : Int)), some (mx_I (q : Int)), some (mx_I x7), some (mx_I x8), some (mx_I x9)] [] G2 (0, 0) := by
        intro G2 b c2 h72' hW2 hb hP2 hF2 x7 x8 x9
        refine zX2_findPlan_165 (sX2_nextPlan (d := d + 2) (by omega) hw (by omega) hW2 (fun G3 c3 h3 => ?_))
        rw [show (q : Int) + 1 = ((q + 1 : Nat) : Int) by omega, ← hb]
        refine ih (q + 1) (by omega) G3 _ _ _ (c2.tr (c3.sub (by decide) (by decide))) (fun p hp => by rw [c3.1 72 (by decide) (by decide)]; exact h72' p hp) h3 ?_ (fun w w1 w2 p hp => by rw [c3.1 85 (by decide) (by decide)]; exact hF2 w w1 w2 p hp)
        rw [hb]
        exact ⟨by rw [c3.1 72 (by decide) (by decide)]; exact hP2.1, fun y d hd => by rw [c3.1 83 (by decide) (by decide)]; exact hP2.2 y d hd⟩
      refine zX2_findPlan_66 ?_
      first | with_reducible refine c_lt ?_ ?_ (fun z => ?_) (fun z => ?_) | with_reducible refine c_le ?_ ?_ (fun z => ?_) (fun z => ?_) | with_reducible refine c_eq ?_ ?_ (fun z => ?_) (fun z => ?_) | with_reducible refine c_ne ?_ ?_ (fun z => ?_) (fun z => ?_)
      · omega
      · omega
      · omega
      · refine sX2_latestWeek (d := d + 1) (by omega) hW wr ?_
        rw [← eL]
        refine sX2_sumOfWeeks (d := d + 2) (by omega) hW ?_
        rw [← eS, p18]
        obtain ⟨b, eb⟩ : ∃ b, b = plR c co x m n wks q := ⟨_, rfl⟩
        rw [← eb] at pr hP step p18 ⊢
        have keep : ¬ ((b.1 = -1 ∨ (L : Int) < b.1 ∨ ((L : Int) = b.1 ∧ (S : Int) < b.2.1)) ∧ rgtB c co x m n wks (wkV n wks q) = true) → ∀ x9, aX2_findPlan T (d + 3) Q X 165 [some (mx_R 72), some (mx_I (co : Int)), some (mx_I (n : Int)), some (mx_I (wks : Int)), some (mx_I b.2.1), some (mx_I ((wks ^ n : Nat) : Int)), some (mx_I (q : Int)), some (mx_I (L : Int)), some (mx_I (S : Int)), some (mx_I x9)] [] G (0, 0) := by
          intro y x9
          rw [if_neg y] at step
          exact nx G b cG h72 hW step hP hF _ _ _
        have no : ¬ (b.1 = -1 ∨ (L : Int) < b.1 ∨ ((L : Int) = b.1 ∧ (S : Int) < b.2.1)) → aX2_findPlan T (d + 3) Q X 124 [some (mx_R 72), some (mx_I (co : Int)), some (mx_I (n : Int)), some (mx_I (wks : Int)), some (mx_I b.2.1), some (mx_I ((wks ^ n : Nat) : Int)), some (mx_I (q : Int)), some (mx_I (L : Int)), some (mx_I (S : Int)), o9] [] G (0, 0) := by
          intro y
          exact zX2_findPlan_124 (zX2_findPlan_125 ⟨fun _ => keep (fun w => y w.1) 0, fun w => absurd rfl w⟩)
        have yes : (b.1 = -1 ∨ (L : Int) < b.1 ∨ ((L : Int) = b.1 ∧ (S : Int) < b.2.1)) → aX2_findPlan T (d + 3) Q X 120 [some (mx_R 72), some (mx_I (co : Int)), some (mx_I (n : Int)), some (mx_I (wks : Int)), some (mx_I b.2.1), some (mx_I ((wks ^ n : Nat) : Int)), some (mx_I (q : Int)), some (mx_I (L : Int)), some (mx_I (S : Int)), o9] [] G (0, 0) := by
          intro y
          refine zX2_findPlan_120 (zX2_findPlan_125 ⟨fun w => absurd w (by decide), fun _ => ?_⟩)
          refine sX2_isRight (d := d + 2) (c := c) (co := co) (m := m) (x := x) (by omega) (by omega) hW wr hF ?_
          first | with_reducible refine b_eq (fun y2 => ?_) (fun y2 => ?_) | with_reducible refine b_ne (fun y2 => ?_) (fun y2 => ?_)
          · exact keep (fun w => y2 w.2) 1
          · intro G2 e2
            have wn : w32 (n : Int) = (n : Int) := w32_of (by omega) (by omega)
            rw [wn, w32_0]
            refine ⟨by omega, by omega, by omega, by omega, by omega, ?_⟩
            intro G3 e3
            simp only [show mx_at 0 = 0 by decide, zatN (n := n) (show n ≤ 2147483647 by omega)] at e3
            rw [if_pos ⟨y, y2⟩] at step
            have c3 : Ch [72, 83] [] G G3 := by
              refine ⟨fun p hp h9 => ?_, fun f hf => ?_⟩
              · rw [e3]
                funext j
                unfold mx_cpy
                rw [if_neg]
                · rw [e2, up_q (fun w => hp (by rw [w]; decide))]
                · rintro ⟨w, _⟩
                  exact hp (by rw [w]; decide)
              · rw [e3]
                unfold mx_cpy
                rw [if_neg (by rintro ⟨w, _⟩; exact absurd w (by decide)), e2, up_q (by decide)]
            have q72 : ∀ p, G3 72 p = if p = 18 then (L : Int) else G 72 p := by
              intro p
              rw [e3]
              unfold mx_cpy
              rw [if_neg (by rintro ⟨w, _⟩; exact absurd w (by decide)), e2]
              by_cases w : p = 18
              · subst w; rw [up_s, if_pos rfl]
              · rw [up_i w, if_neg w]
            have q83 : ∀ d, d < n → G3 83 d = G 82 d := by
              intro d hd
              rw [e3]
              unfold mx_cpy
              rw [if_pos ⟨rfl, by omega, by omega⟩, e2, up_q (by decide)]
              congr 1
              omega
            refine nx G3 ((L : Int), (S : Int), q) (cG.tr (c3.sub (by decide) (by decide))) (fun p hp => by rw [q72, if_neg hp]; exact h72 p hp) (fun j hj => by rw [c3.1 82 (by decide) (by decide)]; exact hW j hj) step ⟨by rw [q72, if_pos rfl], fun _ j hj => by rw [q83 j hj]; exact hW j hj⟩ (fun w w1 w2 p hp => by rw [c3.1 85 (by decide) (by decide)]; exact hF w w1 w2 p hp) _ _ _
        first | with_reducible refine c_lt ?_ ?_ (fun z1 => ?_) (fun z1 => ?_) | with_reducible refine c_le ?_ ?_ (fun z1 => ?_) (fun z1 => ?_) | with_reducible refine c_eq ?_ ?_ (fun z1 => ?_) (fun z1 => ?_) | with_reducible refine c_ne ?_ ?_ (fun z1 => ?_) (fun z1 => ?_)
        · omega
        · omega
        · exact yes (Or.inl z1)
        · first | with_reducible refine c_lt ?_ ?_ (fun z2 => ?_) (fun z2 => ?_) | with_reducible refine c_le ?_ ?_ (fun z2 => ?_) (fun z2 => ?_) | with_reducible refine c_eq ?_ ?_ (fun z2 => ?_) (fun z2 => ?_) | with_reducible refine c_ne ?_ ?_ (fun z2 => ?_) (fun z2 => ?_)
          · omega
          · omega
          · exact yes (Or.inr (Or.inl z2))
          · first | with_reducible refine c_lt ?_ ?_ (fun z3 => ?_) (fun z3 => ?_) | with_reducible refine c_le ?_ ?_ (fun z3 => ?_) (fun z3 => ?_) | with_reducible refine c_eq ?_ ?_ (fun z3 => ?_) (fun z3 => ?_) | with_reducible refine c_ne ?_ ?_ (fun z3 => ?_) (fun z3 => ?_)
            · omega
            · omega
            · exact no (by omega)
            · first | with_reducible refine c_lt ?_ ?_ (fun z4 => ?_) (fun z4 => ?_) | with_reducible refine c_le ?_ ?_ (fun z4 => ?_) (fun z4 => ?_) | with_reducible refine c_eq ?_ ?_ (fun z4 => ?_) (fun z4 => ?_) | with_reducible refine c_ne ?_ ?_ (fun z4 => ?_) (fun z4 => ?_)
              · omega
              · omega
              · exact no (by omega)
              · exact yes (by omega)
  -- all weeks are the first
  have ones : ∀ cc i : Nat, i + cc = n → ∀ G, Ch [72, 82, 83, 84, 85] [] g G → (∀ p, p ≠ 18 → G 72 p = g 72 p) → G 72 18 = -1 → (∀ j, j < i → G 82 j = 1) → (∀ w, 1 ≤ w → w ≤ wks → FtG G c co x m n w) → aX2_findPlan T (d + 3) Q X 37 [some (mx_R 72), some (mx_I (co : Int)), some (mx_I (n : Int)), some (mx_I (wks : Int)), some (mx_I 0), some (mx_I ((wks ^ i : Nat) : Int)), some (mx_I (i : Int)), none, none, none] [] G (0, 0) := by
    intro cc
    induction cc with
    | zero =>
      intro i hi G cG h72 h18 h82 hF
      refine zX2_findPlan_37 ?_
      have e : i = n := by omega
      subst e
      first | with_reducible refine c_lt ?_ ?_ (fun z => ?_) (fun z => ?_) | with_reducible refine c_le ?_ ?_ (fun z => ?_) (fun z => ?_) | with_reducible refine c_eq ?_ ?_ (fun z => ?_) (fun z => ?_) | with_reducible refine c_ne ?_ ?_ (fun z => ?_) (fun z => ?_)
      · omega
      · omega
      · refine plans (wks ^ i) 0 (by omega) G _ _ _ cG h72 (fun j hj => ?_) ⟨h18, fun y => absurd rfl y⟩ hF
        rw [h82 j hj]
        unfold wkV
        simp
      · omega
    | succ cc ih =>
      intro i hi G cG h72 h18 h82 hF
      refine zX2_findPlan_37 ?_
      first | with_reducible refine c_lt ?_ ?_ (fun z => ?_) (fun z => ?_) | with_reducible refine c_le ?_ ?_ (fun z => ?_) (fun z => ?_) | with_reducible refine c_eq ?_ ?_ (fun z => ?_) (fun z => ?_) | with_reducible refine c_ne ?_ ?_ (fun z => ?_) (fun z => ?_)
      · omega
      · omega
      · omega
      · refine s_inN ?_ (fun ea => ?_)
        · omega
        try simp only [ea]
        clear ea
        intro G2 e2
        rw [show (i : Int) + 1 = ((i + 1 : Nat) : Int) by omega, show ((wks ^ i : Nat) : Int) * (wks : Int) = ((wks ^ (i + 1) : Nat) : Int) by rw [Nat.pow_succ]; exact (Int.natCast_mul _ _).symm]
        refine ih (i + 1) (by omega) G2 (by rw [e2]; exact cG.up (by decide) (by decide)) (fun p hp => by rw [e2, up_q (by decide)]; exact h72 p hp) (by rw [e2, up_q (by decide)]; exact h18) (fun j hj => by
          rw [e2]
          by_cases y : j = i
          · subst y; rw [up_s]
          · rw [up_i y]; exact h82 j (by omega)) (fun w w1 w2 p hp => by rw [e2, up_q (by decide)]; exact hF w w1 w2 p hp)
  -- the weeks
  have weeks : ∀ cc w : Nat, w + cc = wks + 1 → 1 ≤ w → ∀ G, Ch [84, 85] [] g G → (∀ v, 1 ≤ v → v < w → FtG G c co x m n v) → aX2_findPlan T (d + 3) Q X 3 [some (mx_R 72), some (mx_I (co : Int)), some (mx_I (n : Int)), some (mx_I (wks : Int)), some (mx_I (w : Int)), none, none, none, none, none] [] G (0, 0) := by
    intro cc
    induction cc with
    | zero =>
      intro w hw1 hw2 G cG hF
      refine zX2_findPlan_3 ?_
      first | with_reducible refine c_lt ?_ ?_ (fun z => ?_) (fun z => ?_) | with_reducible refine c_le ?_ ?_ (fun z => ?_) (fun z => ?_) | with_reducible refine c_eq ?_ ?_ (fun z => ?_) (fun z => ?_) | with_reducible refine c_ne ?_ ?_ (fun z => ?_) (fun z => ?_)
      · omega
      · omega
      · intro G2 e2
        refine ones n 0 (by omega) G2 (by rw [e2]; exact (cG.sub (by decide) (by decide)).up (by decide) (by decide)) (fun p hp => by rw [e2, up_i hp, cG.1 72 (by decide) (by decide)]) (by rw [e2, up_s]) (fun j hj => absurd hj (Nat.not_lt_zero _)) (fun v v1 v2 p hp => by rw [e2, up_q (by decide)]; exact hF v v1 (by omega) p hp)
      · omega
    | succ cc ih =>
      intro w hw1 hw2 G cG hF
      refine zX2_findPlan_3 ?_
      first | with_reducible refine c_lt ?_ ?_ (fun z => ?_) (fun z => ?_) | with_reducible refine c_le ?_ ?_ (fun z => ?_) (fun z => ?_) | with_reducible refine c_eq ?_ ?_ (fun z => ?_) (fun z => ?_) | with_reducible refine c_ne ?_ ?_ (fun z => ?_) (fun z => ?_)
      · omega
      · omega
      · omega
      · refine sX2_foreseeWeek (d := d) (c := c) (m := m) (x := x) wl wb wx wg em hm (by omega) hco (by omega) ok ((cg.sub (by decide) (by decide)).tr (cG.sub (by decide) (by decide))) (h.fr cG (by decide)) (fun G2 c2 f2 low => ?_)
        rw [show (w : Int) + 1 = ((w + 1 : Nat) : Int) by omega]
        refine ih (w + 1) (by omega) (by omega) G2 (cG.tr c2) (fun v v1 v2 p hp => ?_)
        by_cases y : v = w
        · subst y; exact f2 p hp
        · have l := p2 n (by omega)
          rw [low (v * 64 + p) (by omega)]
          exact hF v v1 (by omega) p hp
  exact weeks wks 1 (by omega) (by omega) g (Ch.rf g) (fun v v1 v2 => by omega)
