/-! dry -/
def exV (g : mz_S) (x3 : Int) (k : Nat) : Int := if w32 x3 = w32 0 then g 76 k else g 77 k
def eC (g : mz_S) (b co x3 : Int) (d : Nat) (k : Nat) : Int := if g 73 k = b ∧ g 74 k = co ∧ g 75 k = (d : Int) then exV g x3 k else 0
def eX (g : mz_S) (b co x3 : Int) (d : Nat) (k : Nat) : Int := if g 73 k = b ∧ g 74 k = co ∧ g 1 0 ≤ g 75 k ∧ g 75 k < (d : Int) then exV g x3 k else 0
abbrev dueP (g : mz_S) (b co : Int) (w : Nat) : Prop := g 50 w = b ∧ g 51 w = co ∧ g 56 w = -1 ∧ g 1 0 < w32 (g 55 w) ∧ g 54 w < w32 (g 55 w)
def wC (g : mz_S) (b co : Int) (d : Nat) (w : Nat) : Int := if dueP g b co w ∧ max (g 54 w) (g 1 0) = (d : Int) then g 52 w else 0
def wX (g : mz_S) (b co : Int) (d : Nat) (w : Nat) : Int := if dueP g b co w ∧ max (g 54 w) (g 1 0) < (d : Int) then g 52 w else 0
def wS (g : mz_S) (b co x3 : Int) (f : Nat → Int) : Int := if w32 x3 = w32 0 then sumN f (g 48 4).toNat else 0
def dryX (g : mz_S) (b co x3 : Int) (d : Nat) : Int := g 14 (b * 4 + co).toNat + sumN (eX g b co x3 d) (g 72 4).toNat - wS g b co x3 (wX g b co d)
def dryF (V : Nat → Int) : Nat → Nat → Int
  | 0, _ => -1
  | n + 1, d => if V (d + 1) < 0 then (d : Int) else dryF V n (d + 1)
theorem dryX_0 {g : mz_S} {b co x3 : Int} {d : Nat} (h : g 1 0 = (d : Int)) : dryX g b co x3 d = g 14 (b * 4 + co).toNat := by
  have e1 : sumN (eX g b co x3 d) (g 72 4).toNat = 0 := sumN_zero (fun k _ => by unfold eX; rw [if_neg (by omega)])
  have e2 : wS g b co x3 (wX g b co d) = 0 := by
    unfold wS
    split
    · exact sumN_zero (fun k _ => by unfold wX; rw [if_neg (fun z => by have := z.2; omega)])
    · rfl
  unfold dryX
  rw [e1, e2]
  omega
theorem dryX_s {g : mz_S} {b co x3 : Int} {d : Nat} (h : g 1 0 ≤ (d : Int)) : dryX g b co x3 (d + 1) = dryX g b co x3 d + (sumN (eC g b co x3 d) (g 72 4).toNat - wS g b co x3 (wC g b co d)) := by
  have e1 : sumN (eX g b co x3 (d + 1)) (g 72 4).toNat = sumN (eX g b co x3 d) (g 72 4).toNat + sumN (eC g b co x3 d) (g 72 4).toNat := by
    rw [← sumN_add]
    refine sumN_congr (fun k _ => ?_)
    unfold eX eC
    by_cases z : g 73 k = b ∧ g 74 k = co
    · rcases Int.lt_trichotomy (g 75 k) (d : Int) with y | y | y
      · by_cases x : g 1 0 ≤ g 75 k
        · rw [if_pos ⟨z.1, z.2, x, by omega⟩, if_pos ⟨z.1, z.2, x, y⟩, if_neg (by omega)]; omega
        · rw [if_neg (by omega), if_neg (by omega), if_neg (by omega)]; rfl
      · rw [if_pos ⟨z.1, z.2, by omega, by omega⟩, if_neg (by omega), if_pos ⟨z.1, z.2, y⟩]; omega
      · rw [if_neg (by omega), if_neg (by omega), if_neg (by omega)]; rfl
    · rw [if_neg (fun x => z ⟨x.1, x.2.1⟩), if_neg (fun x => z ⟨x.1, x.2.1⟩), if_neg (fun x => z ⟨x.1, x.2.1⟩)]; rfl
  have e2 : wS g b co x3 (wX g b co (d + 1)) = wS g b co x3 (wX g b co d) + wS g b co x3 (wC g b co d) := by
    unfold wS
    split
    · rw [← sumN_add]
      refine sumN_congr (fun k _ => ?_)
      unfold wX wC
      by_cases z : dueP g b co k
      · rcases Int.lt_trichotomy (max (g 54 k) (g 1 0)) (d : Int) with y | y | y
        · rw [if_pos ⟨z, by omega⟩, if_pos ⟨z, y⟩, if_neg (fun x => by have := x.2; omega)]; omega
        · rw [if_pos ⟨z, by omega⟩, if_neg (fun x => by have := x.2; omega), if_pos ⟨z, y⟩]; omega
        · rw [if_neg (fun x => by have := x.2; omega), if_neg (fun x => by have := x.2; omega), if_neg (fun x => by have := x.2; omega)]; rfl
      · rw [if_neg (fun x => z x.1), if_neg (fun x => z x.1), if_neg (fun x => z x.1)]; rfl
    · rfl
  unfold dryX
  rw [e1, e2]
  omega
theorem exV_bnd {g : mz_S} (w : WfX g) (x3 : Int) {k : Nat} (hk : k < 80) : -1000000 ≤ exV g x3 k ∧ exV g x3 k ≤ 1000000 := by
  have := w.2 k hk
  unfold exV
  split <;> omega
theorem eX_bnd {g : mz_S} (w : WfX g) (b co x3 : Int) (d : Nat) : -80000000 ≤ sumN (eX g b co x3 d) (g 72 4).toNat ∧ sumN (eX g b co x3 d) (g 72 4).toNat ≤ 80000000 := by
  have w1 := w.1
  have h : ∀ k, k < (g 72 4).toNat → -1000000 ≤ eX g b co x3 d k ∧ eX g b co x3 d k ≤ 1000000 := fun k hk => by
    have := exV_bnd w x3 (k := k) (by omega)
    unfold eX
    split <;> omega
  have l := sumN_le (c := 1000000) (fun k hk => (h k hk).2)
  have u := sumN_ge (c := -1000000) (fun k hk => (h k hk).1)
  omega
theorem eC_bnd {g : mz_S} (w : WfX g) (b co x3 : Int) (d : Nat) {n : Nat} (hn : (n : Int) ≤ g 72 4) : -80000000 ≤ sumN (eC g b co x3 d) n ∧ sumN (eC g b co x3 d) n ≤ 80000000 := by
  have w1 := w.1
  have h : ∀ k, k < n → -1000000 ≤ eC g b co x3 d k ∧ eC g b co x3 d k ≤ 1000000 := fun k hk => by
    have := exV_bnd w x3 (k := k) (by omega)
    unfold eC
    split <;> omega
  have l := sumN_le (c := 1000000) (fun k hk => (h k hk).2)
  have u := sumN_ge (c := -1000000) (fun k hk => (h k hk).1)
  omega
theorem wC_bnd {g : mz_S} (w : WfW g) (b co : Int) (d : Nat) {n : Nat} (hn : (n : Int) ≤ g 48 4) : 0 ≤ sumN (wC g b co d) n ∧ sumN (wC g b co d) n ≤ 10000000 := by
  have w1 := w.1
  have h : ∀ k, k < n → 0 ≤ wC g b co d k ∧ wC g b co d k ≤ 100000 := fun k hk => by
    have := (w.2.1 k (by omega)).2.2.2.1
    unfold wC
    split <;> omega
  have l := sumN_le (c := 100000) (fun k hk => (h k hk).2)
  have u := sumN_ge (c := 0) (fun k hk => (h k hk).1)
  omega
theorem wX_bnd {g : mz_S} (w : WfW g) (b co x3 : Int) (d : Nat) : 0 ≤ wS g b co x3 (wX g b co d) ∧ wS g b co x3 (wX g b co d) ≤ 10000000 := by
  have w1 := w.1
  unfold wS
  split
  · have h : ∀ k, k < (g 48 4).toNat → 0 ≤ wX g b co d k ∧ wX g b co d k ≤ 100000 := fun k hk => by
      have := (w.2.1 k (by omega)).2.2.2.1
      unfold wX
      split <;> omega
    have l := sumN_le (c := 100000) (fun k hk => (h k hk).2)
    have u := sumN_ge (c := 0) (fun k hk => (h k hk).1)
    omega
  · omega
theorem dryX_bnd {g : mz_S} {b co : Int} (wb : WfB g) (wx : WfX g) (w : WfW g) (hb : 0 ≤ b ∧ b < 12) (hc : 0 ≤ co ∧ co < 4) (x3 : Int) (d : Nat) : -1000000000 ≤ dryX g b co x3 d ∧ dryX g b co x3 d ≤ 1000000000 := by
  have a1 := wb.2.2 (b * 4 + co).toNat (by omega)
  have a2 := eX_bnd wx b co x3 d
  have a3 := wX_bnd w b co x3 d
  unfold dryX
  omega
/-- what falls due -/
theorem sX10_takeDue {T : Nat × (Nat → Int32)} {d : Nat} {Q : mz_K} {X : mz_X} {g : mz_S} {c : mz_S} {b co : Int} {E : Nat → Int} (cc : Ch [78] [] c g) (wl : WfL0 c) (wb : WfB c) (w : WfW c) (hb : R32 b) (hc : R32 co) (h : ∀ d, d < 1000 → g 78 d = E d) (k : ∀ g', Ch [78] [] c g' → (∀ d, d < 1000 → g' 78 d = E d - sumN (wC c b co d) (c 48 4).toNat) → Q 0 g') : zC T (d + 2) 146 [mx_R 48, mx_I b, mx_I co, mx_R 78] g Q X := by
  have w0 := wl.1
  have w1 := w.1
  have wb1 := wb.1
  refine zX10_takeDue ?_
  have main : ∀ n i : Nat, (i : Int) + n = c 48 4 → ∀ G, Ch [78] [] c G → (∀ d, d < 1000 → G 78 d = E d - sumN (wC c b co d) i) → ∀ o5, aX10_takeDue T (d + 1) Q X 3 [some (mx_R 48), some (mx_I b), some (mx_I co), some (mx_R 78), some (mx_I (i : Int)), o5] [] G (0, 0) := by
    intro n
    induction n with
    | zero =>
      intro i hi G cG hG o5
      refine zX10_takeDue_3 ?_
      rw [cG.1 48 (by decide) (by decide)]
      first | with_reducible refine c_lt ?_ ?_ (fun z => ?_) (fun z => ?_) | with_reducible refine c_le ?_ ?_ (fun z => ?_) (fun z => ?_) | with_reducible refine c_eq ?_ ?_ (fun z => ?_) (fun z => ?_) | with_reducible refine c_ne ?_ ?_ (fun z => ?_) (fun z => ?_)
      · omega
      · omega
      · refine k G cG (fun d hd => ?_)
        rw [hG d hd, show (c 48 4).toNat = i by omega]
      · omega
    | succ n ih =>
      intro i hi G cG hG o5
      obtain ⟨a1, a2, a3, a4, a5, a6, a7, a8, a9⟩ := w.2.1 i (by omega)
      refine zX10_takeDue_3 ?_
      have e : ∀ q ∈ [1, 48, 50, 51, 52, 54, 55, 56], G q = c q := fun q hq => cG.1 q (by simp at hq ⊢; omega) (by intro z; subst z; revert hq; decide)
      rw [e 48 (by decide)]
      have nx : ∀ G2, Ch [78] [] c G2 → (∀ d, d < 1000 → G2 78 d = E d - sumN (wC c b co d) (i + 1)) → ∀ v, aX10_takeDue T (d + 1) Q X 118 [some (mx_R 48), some (mx_I b), some (mx_I co), some (mx_R 78), some (mx_I (i : Int)), some (mx_I v)] [] G2 (0, 0) := by
        intro G2 c2 h2 v
        refine zX10_takeDue_118 ?_
        rw [show (i : Int) + 1 = ((i + 1 : Nat) : Int) by omega]
        exact ih (i + 1) (by omega) G2 c2 h2 _
      have no : ¬ (dueP c b co i ∧ max (c 54 i) (c 1 0) < 1000) → ∀ v, aX10_takeDue T (d + 1) Q X 118 [some (mx_R 48), some (mx_I b), some (mx_I co), some (mx_R 78), some (mx_I (i : Int)), some (mx_I v)] [] G (0, 0) := by
        intro z v
        refine nx G cG (fun d hd => ?_) v
        rw [hG d hd]
        show _ = E d - (sumN (wC c b co d) i + wC c b co d i)
        have : wC c b co d i = 0 := by
          unfold wC
          rw [if_neg]
          rintro ⟨x1, x2⟩
          exact z ⟨x1, by omega⟩
        rw [this]; omega
      first | with_reducible refine c_lt ?_ ?_ (fun z => ?_) (fun z => ?_) | with_reducible refine c_le ?_ ?_ (fun z => ?_) (fun z => ?_) | with_reducible refine c_eq ?_ ?_ (fun z => ?_) (fun z => ?_) | with_reducible refine c_ne ?_ ?_ (fun z => ?_) (fun z => ?_)
      · omega
      · omega
      · omega
      · refine s_inN ?_ (fun ea => ?_)
        · omega
        try simp only [ea]
        clear ea
        rw [e 54 (by decide), e 1 (by decide)]
        refine sJ9_max (by omega) (by omega) ?_
        refine s_inN ?_ (fun ea => ?_)
        · omega
        try simp only [ea]
        clear ea
        rw [e 50 (by decide)]
        first | with_reducible refine c_lt ?_ ?_ (fun h1 => ?_) (fun h1 => ?_) | with_reducible refine c_le ?_ ?_ (fun h1 => ?_) (fun h1 => ?_) | with_reducible refine c_eq ?_ ?_ (fun h1 => ?_) (fun h1 => ?_) | with_reducible refine c_ne ?_ ?_ (fun h1 => ?_) (fun h1 => ?_)
        · omega
        · omega
        · exact no (fun z => h1 z.1.1) _
        · refine s_inN ?_ (fun ea => ?_)
          · omega
          try simp only [ea]
          clear ea
          rw [e 51 (by decide)]
          first | with_reducible refine c_lt ?_ ?_ (fun h2 => ?_) (fun h2 => ?_) | with_reducible refine c_le ?_ ?_ (fun h2 => ?_) (fun h2 => ?_) | with_reducible refine c_eq ?_ ?_ (fun h2 => ?_) (fun h2 => ?_) | with_reducible refine c_ne ?_ ?_ (fun h2 => ?_) (fun h2 => ?_)
          · omega
          · omega
          · exact no (fun z => h2 z.1.2.1) _
          · refine sX10_isPaid (by omega) (by rw [e 56 (by decide)]; exact a8) ?_
            rw [e 56 (by decide)]
            first | with_reducible refine b_eq (fun h3 => ?_) (fun h3 => ?_) | with_reducible refine b_ne (fun h3 => ?_) (fun h3 => ?_)
            · exact no (fun z => h3 z.1.2.2.1) _
            · refine s_inN ?_ (fun ea => ?_)
              · omega
              try simp only [ea]
              clear ea
              rw [e 55 (by decide), e 1 (by decide), w32_of (n := c 1 0) (by omega) (by omega)]
              refine ⟨fun h4 => no (fun z => by have := z.1.2.2.2.1; omega) _, fun h4 => ?_⟩
              refine s_inN ?_ (fun ea => ?_)
              · omega
              try simp only [ea]
              clear ea
              refine s_inN ?_ (fun ea => ?_)
              · omega
              try simp only [ea]
              clear ea
              rw [e 54 (by decide), w32_of (n := c 54 i) (by omega) (by omega)]
              refine ⟨fun h5 => no (fun z => by have := z.1.2.2.2.2; omega) _, fun h5 => ?_⟩
              first | with_reducible refine c_lt ?_ ?_ (fun h6 => ?_) (fun h6 => ?_) | with_reducible refine c_le ?_ ?_ (fun h6 => ?_) (fun h6 => ?_) | with_reducible refine c_eq ?_ ?_ (fun h6 => ?_) (fun h6 => ?_) | with_reducible refine c_ne ?_ ?_ (fun h6 => ?_) (fun h6 => ?_)
              · omega
              · omega
              · exact no (fun z => by have := z.2; omega) _
              · refine s_in (by omega) (fun ea => ?_)
                rw [ea]
                refine s_inN ?_ (fun ea => ?_)
                · omega
                try simp only [ea]
                clear ea
                rw [e 52 (by decide), w32_of (n := c 52 i) (by omega) (by omega)]
                refine s_in (by omega) (fun _ => ?_)
                intro G2 e2
                have du : dueP c b co i := ⟨by omega, by omega, by omega, by omega, by omega⟩
                refine nx G2 (by rw [e2]; exact cG.up (by decide) (by decide)) (fun d hd => ?_) _
                show _ = E d - (sumN (wC c b co d) i + wC c b co d i)
                unfold wC
                rw [e2]
                by_cases y : d = (max (c 54 i) (c 1 0)).toNat
                · rw [← y, up_s, hG d hd, if_pos ⟨du, by omega⟩]
                  unfold wC
                  omega
                · rw [up_i y, hG d hd, if_neg (fun x => by have := x.2; omega)]
                  unfold wC
                  omega
  exact main (c 48 4).toNat 0 (by omega) g cc (fun d hd => by rw [h d hd]; show E d = E d - 0; omega) none
theorem sX2_dryDay {T : Nat × (Nat → Int32)} {d : Nat} {Q : mz_K} {X : mz_X} {g : mz_S} {b co x3 : Int} {dy : Nat} (wl : WfL0 g) (wb : WfB g) (wx : WfX g) (w : WfW g) (hd : g 1 0 = (dy : Int)) (hb : 0 ≤ b ∧ b < 12) (hc : 0 ≤ co ∧ co < 4) (k : ∀ g', Ch [78] [] g g' → Q (dryF (dryX g b co x3) (1000 - dy) dy) g') : zC T (d + 3) 25 [mx_R 72, mx_I b, mx_I co, mx_I x3] g Q X := by
  have w0 := wl.1
  have w1 := wx.1
  have lp2 : ∀ n t : Nat, t + n = 1000 → g 1 0 ≤ (t : Int) → ∀ G, Ch [78] [] g G → (∀ d, d < 1000 → G 78 d = sumN (eC g b co x3 d) (g 72 4).toNat - wS g b co x3 (wC g b co d)) → (∀ g', Ch [78] [] g g' → Q (dryF (dryX g b co x3) n t) g') → aX2_dryDay T (d + 2) Q X 124 [some (mx_R 72), some (mx_I b), some (mx_I co), some (mx_I x3), some (mx_J (dryX g b co x3 t)), none, some (mx_I (t : Int))] [] G (0, 0) := by
    intro n
    induction n with
    | zero =>
      intro t ht h0 G cG hG kk
      refine zX2_dryDay_124 ?_
      first | with_reducible refine c_lt ?_ ?_ (fun z => ?_) (fun z => ?_) | with_reducible refine c_le ?_ ?_ (fun z => ?_) (fun z => ?_) | with_reducible refine c_eq ?_ ?_ (fun z => ?_) (fun z => ?_) | with_reducible refine c_ne ?_ ?_ (fun z => ?_) (fun z => ?_)
      · omega
      · omega
      · exact kk G cG
      · omega
    | succ n ih =>
      intro t ht h0 G cG hG kk
      refine zX2_dryDay_124 ?_
      first | with_reducible refine c_lt ?_ ?_ (fun z => ?_) (fun z => ?_) | with_reducible refine c_le ?_ ?_ (fun z => ?_) (fun z => ?_) | with_reducible refine c_eq ?_ ?_ (fun z => ?_) (fun z => ?_) | with_reducible refine c_ne ?_ ?_ (fun z => ?_) (fun z => ?_)
      · omega
      · omega
      · omega
      · refine s_inN ?_ (fun ea => ?_)
        · omega
        try simp only [ea]
        clear ea
        have s := dryX_s (g := g) (b := b) (co := co) (x3 := x3) h0
        have bd := dryX_bnd wb wx w hb hc x3 (t + 1)
        rw [hG t (by omega), ← s]
        first | with_reducible refine l_gt ?_ ?_ (fun z2 => ?_) (fun z2 => ?_) | with_reducible refine l_lt ?_ ?_ (fun z2 => ?_) (fun z2 => ?_) | with_reducible refine l_ge ?_ ?_ (fun z2 => ?_) (fun z2 => ?_) | with_reducible refine l_le ?_ ?_ (fun z2 => ?_) (fun z2 => ?_) | with_reducible refine l_eq ?_ ?_ (fun z2 => ?_) (fun z2 => ?_) | with_reducible refine l_ne ?_ ?_ (fun z2 => ?_) (fun z2 => ?_)
        · omega
        · omega
        · rw [show (t : Int) + 1 = ((t + 1 : Nat) : Int) by omega]
          refine ih (t + 1) (by omega) (by omega) G cG hG (fun g' c' => ?_)
          have := kk g' c'
          unfold dryF at this
          rw [if_neg (by omega)] at this
          exact this
        · have := kk G cG
          unfold dryF at this
          rw [if_pos (by omega)] at this
          exact this
  have mid : ∀ G, Ch [78] [] g G → (∀ d, d < 1000 → G 78 d = sumN (eC g b co x3 d) (g 72 4).toNat - wS g b co x3 (wC g b co d)) → ∀ x4, aX2_dryDay T (d + 2) Q X 103 [some (mx_R 72), some (mx_I b), some (mx_I co), some (mx_I x3), some (mx_I x4), none, none] [] G (0, 0) := by
    intro G cG hG x4
    refine zX2_dryDay_103 (sX0_has hb hc ?_)
    rw [cG.1 14 (by decide) (by decide), cG.1 1 (by decide) (by decide), hd]
    have o14 := wb.2.2 (b * 4 + co).toNat (by omega)
    rw [w32_of (n := g 14 (b * 4 + co).toNat) (by omega) (by omega), ← dryX_0 (b := b) (co := co) (x3 := x3) hd]
    exact lp2 (1000 - dy) dy (by omega) (by omega) G cG hG k
  refine zX2_dryDay (sJ7_fill_d0a16 ?_)
  have main : ∀ n i : Nat, (i : Int) + n = g 72 4 → ∀ G, Ch [78] [] g G → (∀ d, d < 1000 → G 78 d = sumN (eC g b co x3 d) i) → aX2_dryDay T (d + 2) Q X 11 [some (mx_R 72), some (mx_I b), some (mx_I co), some (mx_I x3), some (mx_I (i : Int)), none, none] [] G (0, 0) := by
    intro n
    induction n with
    | zero =>
      intro i hi G cG hG
      refine zX2_dryDay_11 ?_
      rw [cG.1 72 (by decide) (by decide)]
      first | with_reducible refine c_lt ?_ ?_ (fun z => ?_) (fun z => ?_) | with_reducible refine c_le ?_ ?_ (fun z => ?_) (fun z => ?_) | with_reducible refine c_eq ?_ ?_ (fun z => ?_) (fun z => ?_) | with_reducible refine c_ne ?_ ?_ (fun z => ?_) (fun z => ?_)
      · omega
      · omega
      · refine ⟨fun h => mid G cG (fun d hd => ?_) _, fun h => ?_⟩
        · unfold wS
          rw [hG d hd, if_neg h, show (g 72 4).toNat = i by omega]
          omega
        · refine sX10_takeDue (c := g) (E := fun d => sumN (eC g b co x3 d) i) (d := d) cG wl wb w (by omega) (by omega) hG (fun g' c' h' => mid g' c' (fun d hd => ?_) _)
          unfold wS
          rw [h' d hd, if_pos (Decidable.not_not.mp h), show (g 72 4).toNat = i by omega]
      · omega
    | succ n ih =>
      intro i hi G cG hG
      have wi := wx.2 i (by omega)
      refine zX2_dryDay_11 ?_
      have e : ∀ q ∈ [72, 73, 74, 75, 76, 77], G q = g q := fun q hq => cG.1 q (by simp at hq ⊢; omega) (by intro z; subst z; revert hq; decide)
      rw [e 72 (by decide)]
      have nx : ∀ G2, Ch [78] [] g G2 → (∀ d, d < 1000 → G2 78 d = sumN (eC g b co x3 d) (i + 1)) → aX2_dryDay T (d + 2) Q X 80 [some (mx_R 72), some (mx_I b), some (mx_I co), some (mx_I x3), some (mx_I (i : Int)), none, none] [] G2 (0, 0) := by
        intro G2 c2 h2
        refine zX2_dryDay_80 ?_
        rw [show (i : Int) + 1 = ((i + 1 : Nat) : Int) by omega]
        exact ih (i + 1) (by omega) G2 c2 h2
      have no : ¬ (g 73 i = b ∧ g 74 i = co) → aX2_dryDay T (d + 2) Q X 80 [some (mx_R 72), some (mx_I b), some (mx_I co), some (mx_I x3), some (mx_I (i : Int)), none, none] [] G (0, 0) := by
        intro z
        refine nx G cG (fun d hd => ?_)
        rw [hG d hd]
        show _ = sumN (eC g b co x3 d) i + eC g b co x3 d i
        have : eC g b co x3 d i = 0 := by unfold eC; rw [if_neg (fun x => z ⟨x.1, x.2.1⟩)]
        rw [this]; omega
      first | with_reducible refine c_lt ?_ ?_ (fun z => ?_) (fun z => ?_) | with_reducible refine c_le ?_ ?_ (fun z => ?_) (fun z => ?_) | with_reducible refine c_eq ?_ ?_ (fun z => ?_) (fun z => ?_) | with_reducible refine c_ne ?_ ?_ (fun z => ?_) (fun z => ?_)
      · omega
      · omega
      · omega
      · refine s_inN ?_ (fun ea => ?_)
        · omega
        try simp only [ea]
        clear ea
        rw [e 73 (by decide)]
        first | with_reducible refine c_lt ?_ ?_ (fun h1 => ?_) (fun h1 => ?_) | with_reducible refine c_le ?_ ?_ (fun h1 => ?_) (fun h1 => ?_) | with_reducible refine c_eq ?_ ?_ (fun h1 => ?_) (fun h1 => ?_) | with_reducible refine c_ne ?_ ?_ (fun h1 => ?_) (fun h1 => ?_)
        · omega
        · omega
        · exact no (fun z => h1 z.1)
        · refine s_inN ?_ (fun ea => ?_)
          · omega
          try simp only [ea]
          clear ea
          rw [e 74 (by decide)]
          first | with_reducible refine c_lt ?_ ?_ (fun h2 => ?_) (fun h2 => ?_) | with_reducible refine c_le ?_ ?_ (fun h2 => ?_) (fun h2 => ?_) | with_reducible refine c_eq ?_ ?_ (fun h2 => ?_) (fun h2 => ?_) | with_reducible refine c_ne ?_ ?_ (fun h2 => ?_) (fun h2 => ?_)
          · omega
          · omega
          · exact no (fun z => h2 z.2)
          · refine s_inN ?_ (fun ea => ?_)
            · omega
            try simp only [ea]
            clear ea
            rw [e 75 (by decide)]
            refine s_in (by omega) (fun ea => ?_)
            rw [ea]
            have add : ∀ v, v = exV g x3 i → aX2_dryDay T (d + 2) Q X 78 [some (mx_R 72), some (mx_I b), some (mx_I co), some (mx_I x3), some (mx_I (i : Int)), none, none] [mx_J v, mx_J (G 78 (g 75 i).toNat), mx_I (g 75 i), mx_R 78] G (0, 0) := by
              intro v hv
              refine zX2_dryDay_78 ?_
              refine s_in (by omega) (fun eb => ?_)
              intro G2 e2
              refine nx G2 (by rw [e2]; exact cG.up (by decide) (by decide)) (fun d hd => ?_)
              show _ = sumN (eC g b co x3 d) i + eC g b co x3 d i
              rw [e2, eb, hv]
              by_cases y : d = (g 75 i).toNat
              · rw [← y, up_s, hG d hd]
                have : eC g b co x3 d i = exV g x3 i := by unfold eC; rw [if_pos ⟨by omega, by omega, by omega⟩]
                rw [this]
              · rw [up_i y, hG d hd]
                have : eC g b co x3 d i = 0 := by unfold eC; rw [if_neg (by omega)]
                rw [this]; omega
            refine ⟨fun h => ?_, fun h => ?_⟩
            · refine s_inN ?_ (fun ea => ?_)
              · omega
              try simp only [ea]
              clear ea
              rw [e 76 (by decide), w32_of (n := g 76 i) (by omega) (by omega)]
              exact add _ (by unfold exV; rw [if_pos h])
            · refine s_inN ?_ (fun ea => ?_)
              · omega
              try simp only [ea]
              clear ea
              rw [e 77 (by decide), w32_of (n := g 77 i) (by omega) (by omega)]
              exact add _ (by unfold exV; rw [if_neg h])
  refine main (g 72 4).toNat 0 (by omega) _ ((Ch.rf g).fill (by decide) (by decide)) (fun d hd => ?_)
  show (if 78 = 78 ∧ d < 1000 then (0 : Int) else g 78 d) = 0
  rw [if_pos ⟨rfl, hd⟩]
