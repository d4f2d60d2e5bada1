/-! fewest settlings: the reference settles -/
theorem sX12_isGroup {T : Nat × (Nat → Int32)} {d : Nat} {Q : mz_K} {X : mz_X} {g : mz_S} {n P p q : Nat} {bal G : Nat → Int} (hn : n ≤ 9) (hP : P = 2 ^ n) (h156 : ∀ j, j < P → g 156 j = sbS n bal j) (h154 : ∀ j, j < P → g 154 j = G j) (hB : ∀ i, i < n → -24000000000 ≤ bal i ∧ bal i ≤ 24000000000) (hG : GT (sbS n bal) G P) (hp : p < P) (hs : sbS n bal p = 0) (hq : q &&& p = q) (hl : ¬ q &&& lb p = 0) (k1 : PG (sbS n bal) G p q → Q 1 g) (k2 : ¬ PG (sbS n bal) G p q → Q 0 g) : zC T (d + 1) 298 [mx_R 99, mx_I (p : Int), mx_I (q : Int)] g Q X := by
  have p2 : P ≤ 512 := by rw [hP]; exact Nat.pow_le_pow_right (n := 2) (by decide) hn
  have rng := GT_rng hG (sbS_0 n bal)
  have qp : q ≤ p := by rw [← hq]; exact Nat.and_le_right
  have xs := xor_sub hq
  have xle : p ^^^ q ≤ p := by rw [← xs.1]; exact Nat.and_le_right
  have xl := ixor_nat (show p < 512 by omega) (show q < 512 by omega)
  have bq := sbS_bnd (B := 24000000000) hB (by omega) q
  have r1 := rng (p ^^^ q) (by omega)
  have r2 := rng p hp
  have no : ¬ PG (sbS n bal) G p q → aX12_isGroup T d Q X 46 [some (mx_R 99), some (mx_I (p : Int)), some (mx_I (q : Int))] [] g (0, 0) := fun y => zX12_isGroup_46 (zX12_isGroup_47 ⟨zb0, k2 y⟩)
  refine zX12_isGroup ?_
  rw [xl.1]
  refine s_inN ?_ (fun ea => ?_)
  · omega
  try simp only [ea]
  clear ea
  rw [h156 q (by omega)]
  first | with_reducible refine l_gt ?_ ?_ (fun z => ?_) (fun z => ?_) | with_reducible refine l_lt ?_ ?_ (fun z => ?_) (fun z => ?_) | with_reducible refine l_ge ?_ ?_ (fun z => ?_) (fun z => ?_) | with_reducible refine l_le ?_ ?_ (fun z => ?_) (fun z => ?_) | with_reducible refine l_eq ?_ ?_ (fun z => ?_) (fun z => ?_) | with_reducible refine l_ne ?_ ?_ (fun z => ?_) (fun z => ?_)
  · omega
  · omega
  · exact no (fun y => z y.2.2.1)
  · refine s_inN ?_ (fun ea => ?_)
    · omega
    try simp only [ea]
    clear ea
    rw [h154 (p ^^^ q) (by omega)]
    first | with_reducible refine c_lt ?_ ?_ (fun z2 => ?_) (fun z2 => ?_) | with_reducible refine c_le ?_ ?_ (fun z2 => ?_) (fun z2 => ?_) | with_reducible refine c_eq ?_ ?_ (fun z2 => ?_) (fun z2 => ?_) | with_reducible refine c_ne ?_ ?_ (fun z2 => ?_) (fun z2 => ?_)
    · omega
    · omega
    · refine no (fun y => ?_)
      have y4 := y.2.2.2
      have := r2.2.2 hs
      have sx := sbS_dif (n := n) (bal := bal) hq
      have := r1.2.2 (by omega)
      omega
    · refine s_inN ?_ (fun ea => ?_)
      · omega
      try simp only [ea]
      clear ea
      refine s_inN ?_ (fun ea => ?_)
      · omega
      try simp only [ea]
      clear ea
      try rw [h154 (p ^^^ q) (by omega)]
      rw [h154 p hp]
      first | with_reducible refine c_lt ?_ ?_ (fun z3 => ?_) (fun z3 => ?_) | with_reducible refine c_le ?_ ?_ (fun z3 => ?_) (fun z3 => ?_) | with_reducible refine c_eq ?_ ?_ (fun z3 => ?_) (fun z3 => ?_) | with_reducible refine c_ne ?_ ?_ (fun z3 => ?_) (fun z3 => ?_)
      · omega
      · omega
      · exact no (fun y => z3 (by have := y.2.2.2; omega))
      · exact zX12_isGroup_47 ⟨zb1, k1 ⟨hq, hl, z, by omega⟩⟩
theorem sX12_nextSub {T : Nat × (Nat → Int32)} {d : Nat} {Q : mz_K} {X : mz_X} {g : mz_S} {p q t : Nat} (hp : p < 512) (ht : t < 512) (htp : t &&& p = t) (htl : ¬ t &&& lb p = 0) (hqt : q < t) (k : ∀ v : Nat, q < v → v ≤ t → v &&& p = v → (¬ v &&& lb p = 0) → (∀ j, q < j → j < v → ¬ (j &&& p = j ∧ ¬ j &&& lb p = 0)) → Q (v : Int) g) : zC T (d + 1) 299 [mx_I (p : Int), mx_I (q : Int), mx_I (lb p : Nat)] g Q X := by
  have hl := lb_lt hp
  refine zX12_next ?_
  have main : ∀ c v : Nat, v + c = t → q < v → (∀ j, q < j → j < v → ¬ (j &&& p = j ∧ ¬ j &&& lb p = 0)) → aX12_next T d Q X 4 [some (mx_I (p : Int)), some (mx_I (q : Int)), some (mx_I (lb p : Nat)), some (mx_I (v : Int))] [] g (0, 0) := by
    intro c
    induction c with
    | zero =>
      intro v hv hq hno
      have ev : v = t := by omega
      have nt := inot_nat (show v < 512 by omega) hp
      have n0 : v ^^^ (v &&& p) = 0 := inot_0.mpr (by rw [ev]; exact htp)
      have al : v &&& lb p ≤ v := Nat.and_le_left
      have hv2 : ¬ v &&& lb p = 0 := by rw [ev]; exact htl
      refine zX12_next_4 ?_
      rw [nt.1, n0, iand_nat (by omega) (by omega)]
      first | with_reducible refine c_lt ?_ ?_ (fun z => ?_) (fun z => ?_) | with_reducible refine c_le ?_ ?_ (fun z => ?_) (fun z => ?_) | with_reducible refine c_eq ?_ ?_ (fun z => ?_) (fun z => ?_) | with_reducible refine c_ne ?_ ?_ (fun z => ?_) (fun z => ?_)
      · omega
      · omega
      · omega
      · first | with_reducible refine c_lt ?_ ?_ (fun z2 => ?_) (fun z2 => ?_) | with_reducible refine c_le ?_ ?_ (fun z2 => ?_) (fun z2 => ?_) | with_reducible refine c_eq ?_ ?_ (fun z2 => ?_) (fun z2 => ?_) | with_reducible refine c_ne ?_ ?_ (fun z2 => ?_) (fun z2 => ?_)
        · omega
        · omega
        · exact k v hq (by omega) (inot_0.mp n0) hv2 hno
        · omega
    | succ c ih =>
      intro v hv hq hno
      have nt := inot_nat (show v < 512 by omega) hp
      have al : v &&& lb p ≤ v := Nat.and_le_left
      have nx : ¬ (v &&& p = v ∧ ¬ v &&& lb p = 0) → aX12_next T d Q X 18 [some (mx_I (p : Int)), some (mx_I (q : Int)), some (mx_I (lb p : Nat)), some (mx_I (v : Int))] [] g (0, 0) := by
        intro y
        refine zX12_next_18 ?_
        rw [show (v : Int) + 1 = ((v + 1 : Nat) : Int) by omega]
        refine ih (v + 1) (by omega) (by omega) (fun j h1 h2 => ?_)
        by_cases w : j = v
        · rw [w]; exact y
        · exact hno j h1 (by omega)
      refine zX12_next_4 ?_
      rw [nt.1, iand_nat (a := v) (b := lb p) (by omega) (by omega)]
      first | with_reducible refine c_lt ?_ ?_ (fun z => ?_) (fun z => ?_) | with_reducible refine c_le ?_ ?_ (fun z => ?_) (fun z => ?_) | with_reducible refine c_eq ?_ ?_ (fun z => ?_) (fun z => ?_) | with_reducible refine c_ne ?_ ?_ (fun z => ?_) (fun z => ?_)
      · omega
      · omega
      · exact nx (fun y => z (by rw [inot_0.mpr y.1]; rfl))
      · have n0 : v ^^^ (v &&& p) = 0 := by omega
        first | with_reducible refine c_lt ?_ ?_ (fun z2 => ?_) (fun z2 => ?_) | with_reducible refine c_le ?_ ?_ (fun z2 => ?_) (fun z2 => ?_) | with_reducible refine c_eq ?_ ?_ (fun z2 => ?_) (fun z2 => ?_) | with_reducible refine c_ne ?_ ?_ (fun z2 => ?_) (fun z2 => ?_)
        · omega
        · omega
        · exact k v hq (by omega) (inot_0.mp n0) (fun y => z2 (by rw [y]; rfl)) hno
        · exact nx (fun y => y.2 (by omega))
  have := main (t - (q + 1)) (q + 1) (by omega) (by omega) (fun j h1 h2 => by omega)
  rw [show (q : Int) + 1 = ((q + 1 : Nat) : Int) by omega]
  exact this
/-- the least member from k on, as a loop downwards has it -/
def enF (f : Nat → Bool) (k n : Nat) (v : Int) : Prop := (v = -1 ∧ ∀ j, k ≤ j → j < n → f j = false) ∨ ∃ j : Nat, v = (j : Int) ∧ k ≤ j ∧ j < n ∧ f j = true ∧ ∀ i, k ≤ i → i < j → f i = false
theorem enF_keep {f : Nat → Bool} {k n : Nat} {v : Int} (h : enF f (k + 1) n v) (hf : f k = false) : enF f k n v := by
  rcases h with ⟨a, b⟩ | ⟨j, a, b, c, e, i⟩
  · refine Or.inl ⟨a, fun j h1 h2 => ?_⟩
    by_cases y : j = k
    · rw [y]; exact hf
    · exact b j (by omega) h2
  · refine Or.inr ⟨j, a, by omega, c, e, fun i' h1 h2 => ?_⟩
    by_cases y : i' = k
    · rw [y]; exact hf
    · exact i i' (by omega) h2
theorem enF_set {f : Nat → Bool} {k n : Nat} (hk : k < n) (hf : f k = true) : enF f k n (k : Int) := Or.inr ⟨k, rfl, Nat.le_refl k, hk, hf, fun i h1 h2 => by omega⟩
theorem enF_0 {f : Nat → Bool} {n : Nat} {v : Int} (h : enF f 0 n v) : (v = -1 ∧ fstN f n = n) ∨ (v = (fstN f n : Nat) ∧ fstN f n < n) := by
  rcases h with ⟨a, b⟩ | ⟨j, a, b, c, e, i⟩
  · exact Or.inl ⟨a, fstN_none (fun k hk => b k (Nat.zero_le k) hk)⟩
  · have := fstN_eq c e (fun i' h => i i' (Nat.zero_le i') h)
    rw [this]
    exact Or.inr ⟨a, c⟩
theorem sX12_pays {T : Nat × (Nat → Int32)} {d : Nat} {Q : mz_K} {X : mz_X} {g : mz_S} {n q : Nat} {M : List Nat} {s : stS} (hn : n ≤ 9) (hq : q < 512) (h82 : g 99 82 = (n : Int)) (hM : ∀ i, i < n → g 151 i = (M.getD i 0 : Nat)) (I : StI n 24000000000 q s) (h : SsG g 155 99 83 152 153 157 n M s) (k : ∀ g', Ch [152, 153, 155, 157] [83] g g' → SsG g' 155 99 83 152 153 157 n M (syR n q 9 s) → Q 0 g') : zC T (d + 2) 296 [mx_R 99, mx_I (q : Int)] g Q X := by
  have scan : ∀ (s : stS) G, (∀ i, i < n → G 155 i = s.1 i) → (∀ i, i < n → -24000000000 ≤ s.1 i ∧ s.1 i ≤ 24000000000) → G 99 82 = (n : Int) → (∀ x3 x4 x5 v, enF (fun k => q.testBit k && decide (s.1 k < 0)) 0 n x3 → enF (fun k => q.testBit k && decide (0 < s.1 k)) 0 n x4 → (x3 = -1 → v = 0) → (¬ x3 = -1 → v = 1) → aX12_pays T (d + 1) Q X 92 [some (mx_R 99), some (mx_I (q : Int)), some (mx_I 1), some (mx_I x3), some (mx_I x4), some (mx_I x5), none] [mx_I v] G (0, 0)) → ∀ o3 o4 o5, aX12_pays T (d + 1) Q X 2 [some (mx_R 99), some (mx_I (q : Int)), some (mx_I 1), o3, o4, o5, none] [] G (0, 0) := by
    intro s G hb hB h8 fin o3 o4 o5
    have down : ∀ k : Nat, k ≤ n → ∀ x3 x4, enF (fun k => q.testBit k && decide (s.1 k < 0)) k n x3 → enF (fun k => q.testBit k && decide (0 < s.1 k)) k n x4 → aX12_pays T (d + 1) Q X 19 [some (mx_R 99), some (mx_I (q : Int)), some (mx_I 1), some (mx_I x3), some (mx_I x4), some (mx_I ((k : Int) - 1)), none] [] G (0, 0) := by
      intro k
      induction k with
      | zero =>
        intro _ x3 x4 e3 e4
        have r3 : -1 ≤ x3 ∧ x3 ≤ 9 := by rcases e3 with ⟨y, _⟩ | ⟨j, y, _, y2, _⟩ <;> omega
        refine zX12_pays_19 ?_
        first | with_reducible refine c_lt ?_ ?_ (fun z => ?_) (fun z => ?_) | with_reducible refine c_le ?_ ?_ (fun z => ?_) (fun z => ?_) | with_reducible refine c_eq ?_ ?_ (fun z => ?_) (fun z => ?_) | with_reducible refine c_ne ?_ ?_ (fun z => ?_) (fun z => ?_)
        · omega
        · omega
        · first | with_reducible refine c_lt ?_ ?_ (fun z2 => ?_) (fun z2 => ?_) | with_reducible refine c_le ?_ ?_ (fun z2 => ?_) (fun z2 => ?_) | with_reducible refine c_eq ?_ ?_ (fun z2 => ?_) (fun z2 => ?_) | with_reducible refine c_ne ?_ ?_ (fun z2 => ?_) (fun z2 => ?_)
          · omega
          · omega
          · exact fin x3 x4 _ 0 e3 e4 (fun _ => rfl) (fun y => absurd z2 y)
          · exact fin x3 x4 _ 1 e3 e4 (fun y => absurd y z2) (fun _ => rfl)
        · omega
      | succ k ih =>
        intro hk x3 x4 e3 e4
        have bk := hB k (by omega)
        have nx : ∀ y3 y4, enF (fun k => q.testBit k && decide (s.1 k < 0)) k n y3 → enF (fun k => q.testBit k && decide (0 < s.1 k)) k n y4 → aX12_pays T (d + 1) Q X 76 [some (mx_R 99), some (mx_I (q : Int)), some (mx_I 1), some (mx_I y3), some (mx_I y4), some (mx_I (k : Int)), none] [] G (0, 0) := by
          intro y3 y4 a3 a4
          refine zX12_pays_76 ?_
          rw [show (k : Int) + -1 = (k : Int) - 1 by omega]
          exact ih (by omega) y3 y4 a3 a4
        refine zX12_pays_19 ?_
        rw [show ((k + 1 : Nat) : Int) - 1 = (k : Int) by omega]
        first | with_reducible refine c_lt ?_ ?_ (fun z => ?_) (fun z => ?_) | with_reducible refine c_le ?_ ?_ (fun z => ?_) (fun z => ?_) | with_reducible refine c_eq ?_ ?_ (fun z => ?_) (fun z => ?_) | with_reducible refine c_ne ?_ ?_ (fun z => ?_) (fun z => ?_)
        · omega
        · omega
        · omega
        · rw [zb_holds (by omega), zb_nat (by omega)]
          by_cases sb : q.testBit k = true
          · rw [sb, show bI true = 1 from rfl]
            first | with_reducible refine c_lt ?_ ?_ (fun z2 => ?_) (fun z2 => ?_) | with_reducible refine c_le ?_ ?_ (fun z2 => ?_) (fun z2 => ?_) | with_reducible refine c_eq ?_ ?_ (fun z2 => ?_) (fun z2 => ?_) | with_reducible refine c_ne ?_ ?_ (fun z2 => ?_) (fun z2 => ?_)
            · omega
            · omega
            · have mid : ∀ y3, enF (fun k => q.testBit k && decide (s.1 k < 0)) k n y3 → aX12_pays T (d + 1) Q X 54 [some (mx_R 99), some (mx_I (q : Int)), some (mx_I 1), some (mx_I x3), some (mx_I x4), some (mx_I (k : Int)), none] [mx_I y3] G (0, 0) := by
                intro y3 a3
                refine zX12_pays_54 ?_
                refine s_inN ?_ (fun ea => ?_)
                · omega
                try simp only [ea]
                clear ea
                rw [hb k (by omega)]
                first | with_reducible refine l_gt ?_ ?_ (fun z4 => ?_) (fun z4 => ?_) | with_reducible refine l_lt ?_ ?_ (fun z4 => ?_) (fun z4 => ?_) | with_reducible refine l_ge ?_ ?_ (fun z4 => ?_) (fun z4 => ?_) | with_reducible refine l_le ?_ ?_ (fun z4 => ?_) (fun z4 => ?_) | with_reducible refine l_eq ?_ ?_ (fun z4 => ?_) (fun z4 => ?_) | with_reducible refine l_ne ?_ ?_ (fun z4 => ?_) (fun z4 => ?_)
                · omega
                · omega
                · exact zX12_pays_74 (nx y3 x4 a3 (enF_keep e4 (by show (q.testBit k && decide (0 < s.1 k)) = false; rw [decide_eq_false (by omega), Bool.and_false])))
                · exact zX12_pays_74 (nx y3 k a3 (enF_set (by omega) (by show (q.testBit k && decide (0 < s.1 k)) = true; rw [sb, decide_eq_true (by omega)]; rfl)))
              refine s_inN ?_ (fun ea => ?_)
              · omega
              try simp only [ea]
              clear ea
              rw [hb k (by omega)]
              first | with_reducible refine l_gt ?_ ?_ (fun z3 => ?_) (fun z3 => ?_) | with_reducible refine l_lt ?_ ?_ (fun z3 => ?_) (fun z3 => ?_) | with_reducible refine l_ge ?_ ?_ (fun z3 => ?_) (fun z3 => ?_) | with_reducible refine l_le ?_ ?_ (fun z3 => ?_) (fun z3 => ?_) | with_reducible refine l_eq ?_ ?_ (fun z3 => ?_) (fun z3 => ?_) | with_reducible refine l_ne ?_ ?_ (fun z3 => ?_) (fun z3 => ?_)
              · omega
              · omega
              · exact mid x3 (enF_keep e3 (by show (q.testBit k && decide (s.1 k < 0)) = false; rw [decide_eq_false (by omega), Bool.and_false]))
              · exact mid k (enF_set (by omega) (by show (q.testBit k && decide (s.1 k < 0)) = true; rw [sb, decide_eq_true (by omega)]; rfl))
            · omega
          · have sf := Bool.eq_false_iff.mpr sb
            rw [sf, show bI false = 0 from rfl]
            first | with_reducible refine c_lt ?_ ?_ (fun z2 => ?_) (fun z2 => ?_) | with_reducible refine c_le ?_ ?_ (fun z2 => ?_) (fun z2 => ?_) | with_reducible refine c_eq ?_ ?_ (fun z2 => ?_) (fun z2 => ?_) | with_reducible refine c_ne ?_ ?_ (fun z2 => ?_) (fun z2 => ?_)
            · omega
            · omega
            · omega
            · exact nx x3 x4 (enF_keep e3 (by show (q.testBit k && decide (s.1 k < 0)) = false; rw [sf]; rfl)) (enF_keep e4 (by show (q.testBit k && decide (0 < s.1 k)) = false; rw [sf]; rfl))
    refine zX12_pays_2 ?_
    rw [h8]
    first | with_reducible refine c_lt ?_ ?_ (fun z => ?_) (fun z => ?_) | with_reducible refine c_le ?_ ?_ (fun z => ?_) (fun z => ?_) | with_reducible refine c_eq ?_ ?_ (fun z => ?_) (fun z => ?_) | with_reducible refine c_ne ?_ ?_ (fun z => ?_) (fun z => ?_)
    · omega
    · omega
    · omega
    · exact down n (Nat.le_refl n) (-1) (-1) (Or.inl ⟨rfl, fun j h1 h2 => by omega⟩) (Or.inl ⟨rfl, fun j h1 h2 => by omega⟩)
  have halt : ∀ G x3 x4 x5, Q 0 G → aX12_pays T (d + 1) Q X 92 [some (mx_R 99), some (mx_I (q : Int)), some (mx_I 1), some (mx_I x3), some (mx_I x4), some (mx_I x5), none] [mx_I 0] G (0, 0) := by
    intro G x3 x4 x5 hQ
    refine zX12_pays_92 ?_
    first | with_reducible refine c_lt ?_ ?_ (fun z => ?_) (fun z => ?_) | with_reducible refine c_le ?_ ?_ (fun z => ?_) (fun z => ?_) | with_reducible refine c_eq ?_ ?_ (fun z => ?_) (fun z => ?_) | with_reducible refine c_ne ?_ ?_ (fun z => ?_) (fun z => ?_)
    · omega
    · omega
    · omega
    · refine zX12_pays_2 ?_
      first | with_reducible refine c_lt ?_ ?_ (fun z2 => ?_) (fun z2 => ?_) | with_reducible refine c_le ?_ ?_ (fun z2 => ?_) (fun z2 => ?_) | with_reducible refine c_eq ?_ ?_ (fun z2 => ?_) (fun z2 => ?_) | with_reducible refine c_ne ?_ ?_ (fun z2 => ?_) (fun z2 => ?_)
      · omega
      · omega
      · exact hQ
      · omega
  refine zX12_pays ?_
  have main : ∀ f : Nat, ∀ (s : stS) G o3 o4 o5, nzQ n q s ≤ f → StI n 24000000000 q s → Ch [152, 153, 155, 157] [83] g G → SsG G 155 99 83 152 153 157 n M s → (∀ g', Ch [152, 153, 155, 157] [83] g g' → SsG g' 155 99 83 152 153 157 n M (syR n q f s) → Q 0 g') → aX12_pays T (d + 1) Q X 2 [some (mx_R 99), some (mx_I (q : Int)), some (mx_I 1), o3, o4, o5, none] [] G (0, 0) := by
    intro f
    induction f with
    | zero =>
      intro s G o3 o4 o5 hz I cG hS kk
      refine scan s G hS.1 I.1 (by rw [cG.2 82 (by decide)]; exact h82) (fun x3 x4 x5 v e3 e4 v0 v1 => ?_) o3 o4 o5
      rcases enF_0 e3 with ⟨y, y2⟩ | ⟨y, y2⟩
      · rw [v0 y]
        exact halt G _ _ _ (kk G cG hS)
      · have t : syA n q s = n := nzQ_0 (by omega)
        have y2 : syA n q s < n := y2
        omega
    | succ f ih =>
      intro s G o3 o4 o5 hz I cG hS kk
      refine scan s G hS.1 I.1 (by rw [cG.2 82 (by decide)]; exact h82) (fun x3 x4 x5 v e3 e4 v0 v1 => ?_) o3 o4 o5
      rcases enF_0 e3 with ⟨y, y2⟩ | ⟨y, y2⟩
      · rw [v0 y]
        have y2 : syA n q s = n := y2
        refine halt G _ _ _ (kk G cG ?_)
        show SsG G 155 99 83 152 153 157 n M (if syA n q s < n ∧ syB n q s < n then syR n q f (syN n q s) else s)
        rw [if_neg (by omega)]
        exact hS
      · have ha : syA n q s < n := y2
        have y : x3 = ((syA n q s : Nat) : Int) := y
        have hb := st_both I ha
        have y4 : x4 = ((syB n q s : Nat) : Int) := by
          rcases enF_0 e4 with ⟨_, w⟩ | ⟨w, _⟩
          · have w : syB n q s = n := w
            omega
          · exact w
        rw [v1 (by omega), y, y4]
        obtain ⟨h1, h2, h3⟩ := hS
        obtain ⟨n1, n2, n3, n4, n5⟩ := syN_inv I ha hb
        have ba := I.1 _ ha
        have bb := I.1 _ hb
        have la := (syA_t ha).2
        have lb2 := (syB_t hb).2
        have nab : syB n q s ≠ syA n q s := fun y => by rw [y] at lb2; omega
        have eR : syR n q (f + 1) s = syR n q f (syN n q s) := if_pos ⟨ha, hb⟩
        rw [eR] at kk
        have e1 : (syN n q s).1 = fun k => if k = syA n q s then s.1 k + syV n q s else if k = syB n q s then s.1 k - syV n q s else s.1 k := rfl
        have e2 : (syN n q s).2 = s.2 ++ [(syA n q s, syB n q s, syV n q s)] := rfl
        have vd : syV n q s = min (-(s.1 (syA n q s))) (s.1 (syB n q s)) := rfl
        have n6 := n1.2.2
        rw [e2, List.length_append] at n6
        have l1 : [(syA n q s, syB n q s, syV n q s)].length = 1 := rfl
        clear y y2 y4 e3 e4 v0 v1 scan halt
        generalize hA : syA n q s = a at *
        generalize hBB : syB n q s = b at *
        generalize hV : syV n q s = v at *
        refine zX12_pays_92 ?_
        first | with_reducible refine c_lt ?_ ?_ (fun z3 => ?_) (fun z3 => ?_) | with_reducible refine c_le ?_ ?_ (fun z3 => ?_) (fun z3 => ?_) | with_reducible refine c_eq ?_ ?_ (fun z3 => ?_) (fun z3 => ?_) | with_reducible refine c_ne ?_ ?_ (fun z3 => ?_) (fun z3 => ?_)
        · omega
        · omega
        · refine s_inN ?_ (fun ea => ?_)
          · omega
          try simp only [ea]
          clear ea
          refine s_inN ?_ (fun ea => ?_)
          · omega
          try simp only [ea]
          clear ea
          rw [h1 a ha, h1 b hb]
          refine sJ9_minL (by omega) (by omega) ?_
          rw [← vd]
          refine s_inN ?_ (fun ea => ?_)
          · omega
          try simp only [ea]
          clear ea
          rw [h2]
          refine s_inN ?_ (fun ea => ?_)
          · omega
          try simp only [ea]
          clear ea
          intro g2 f2
          have q2 : g2 99 83 = (s.2.length : Int) := by rw [f2, up_q (by decide)]; exact h2
          refine s_inN ?_ (fun ea => ?_)
          · omega
          try simp only [ea]
          clear ea
          rw [q2]
          refine s_inN ?_ (fun ea => ?_)
          · omega
          try simp only [ea]
          clear ea
          intro g3 f3
          have q3 : g3 99 83 = (s.2.length : Int) := by rw [f3, up_q (by decide)]; exact q2
          rw [q3]
          refine s_inN ?_ (fun ea => ?_)
          · omega
          try simp only [ea]
          clear ea
          intro g4 f4
          refine s_inN ?_ (fun ea => ?_)
          · omega
          try simp only [ea]
          clear ea
          refine s_inN ?_ (fun ea => ?_)
          · omega
          try simp only [ea]
          clear ea
          intro g5 f5
          refine s_inN ?_ (fun ea => ?_)
          · omega
          try simp only [ea]
          clear ea
          refine s_inN ?_ (fun ea => ?_)
          · omega
          try simp only [ea]
          clear ea
          intro g6 f6
          intro g7 f7
          have c7 : Ch [152, 153, 155, 157] [83] g g7 := by
            rw [f7, f6, f5, f4, f3, f2]
            exact (((((cG.up (by decide) (by decide)).up (by decide) (by decide)).up (by decide) (by decide)).up (by decide) (by decide)).up (by decide) (by decide)).up9 (by decide)
          have m2 : g2 151 = G 151 := by rw [f2]; funext i; rw [up_q (by decide)]
          refine ih (syN n q s) g7 _ _ _ (by omega) n1 c7 ⟨fun i hi => ?_, ?_, fun i hi => ?_⟩ kk
          · rw [f7, up_q (by decide), f6, e1]
            show mx_up g5 155 b (g5 155 b - v) 155 i = (if i = a then s.1 i + v else if i = b then s.1 i - v else s.1 i)
            have g4i : ∀ i, i < n → g4 155 i = s.1 i := fun i hi => by rw [f4, up_q (by decide), f3, up_q (by decide), f2, up_q (by decide)]; exact h1 i hi
            by_cases y : i = a
            · rw [if_pos y, y, up_i (fun w => nab w.symm), f5, up_s, g4i a ha]
            · rw [if_neg y]
              by_cases y2 : i = b
              · rw [if_pos y2, y2, up_s, f5, up_i nab, g4i b hb]
              · rw [if_neg y2, up_i y2, f5, up_i y]
                exact g4i i hi
          · rw [f7, up_s, f6, up_q (by decide), f5, up_q (by decide), f4, up_q (by decide), q3, e2, List.length_append]
            rfl
          · rw [e2, List.length_append] at hi
            rw [e2, getD_apS]
            rw [f7, up_q (by decide), up_q (by decide), up_q (by decide), f6, up_q (by decide), up_q (by decide), up_q (by decide), f5, up_q (by decide), up_q (by decide), up_q (by decide)]
            by_cases y : i < s.2.length
            · rw [if_pos y, f4, up_q (by decide), up_q (by decide), up_i (by omega), f3, up_q (by decide), up_i (by omega), up_q (by decide), f2, up_i (by omega), up_q (by decide), up_q (by decide)]
              exact h3 i y
            · have y2 : i = s.2.length := by omega
              rw [if_neg y, if_pos y2, y2, f4, up_q (by decide), up_q (by decide), up_s, f3, up_q (by decide), up_s, m2, f2, up_s, cG.1 151 (by decide) (by decide), hM a ha, hM b hb]
              exact ⟨rfl, rfl, rfl⟩
        · omega
  exact main 9 s g none none none (Nat.le_trans (nzN_n _ n) hn) I (Ch.rf g) h k
