/-! fewest settlings: the reference's tables -/
theorem inot_nat {v p : Nat} (hv : v < 512) (hp : p < 512) : mx_iand (v : Int) (mx_ixor (p : Int) (-1)) = ((v ^^^ (v &&& p) : Nat) : Int) ∧ v ^^^ (v &&& p) < 512 := by
  have hl : v ^^^ (v &&& p) < 512 := Nat.xor_lt_two_pow (n := 9) hv (Nat.lt_of_le_of_lt Nat.and_le_left hv)
  have h : w32 (mx_iand (v : Int) (mx_ixor (p : Int) (-1))) = w32 ((v ^^^ (v &&& p) : Nat) : Int) := zb_ext (fun i hi => by
    rw [zb_iand, zb_not hi, zb_nat (by omega), zb_nat (by omega), zb_nat (by omega), Nat.testBit_xor, Nat.testBit_and]
    cases p.testBit i <;> cases v.testBit i <;> decide)
  rw [w32_iand, w32_of (by omega) (by omega)] at h
  exact ⟨h, hl⟩
theorem inot_0 {v p : Nat} : v ^^^ (v &&& p) = 0 ↔ v &&& p = v := by
  constructor
  · intro h
    refine sub_bit.mpr (fun i hi => ?_)
    have t : (v ^^^ (v &&& p)).testBit i = false := by rw [h, Nat.zero_testBit]
    rw [Nat.testBit_xor, Nat.testBit_and, hi] at t
    cases hp : p.testBit i with
    | true => rfl
    | false => rw [hp] at t; exact absurd t (by decide)
  · intro h
    rw [h]
    exact Nat.xor_self v
theorem sX12_parted {T : Nat × (Nat → Int32)} {d : Nat} {Q : mz_K} {X : mz_X} {g : mz_S} {p : Nat} {S : Nat → Int} (hp : p < 512) (hS0 : S 0 = 0) (h156 : ∀ q, q ≤ p → g 156 q = S q) (hB : ∀ q, q ≤ p → R64 (S q)) (hx : ∀ q, q &&& p = q → S (p ^^^ q) = S p - S q) (hG : GT S (g 154) p) (k : ∀ g', Ch [154] [] g g' → GT S (g' 154) (p + 1) → Q 0 g') : zC T (d + 2) 295 [mx_R 99, mx_I (p : Int)] g Q X := by
  have fin : ∀ G, Ch [154] [] g G → (∀ q, q ≠ p → G 154 q = g 154 q) → ((S p ≠ 0 → G 154 p = -1) ∧ (S p = 0 → p = 0 → G 154 p = 0) ∧ (S p = 0 → p ≠ 0 → (∀ r, gV S p r → g 154 r + 1 ≤ G 154 p) ∧ ∃ r, gV S p r ∧ g 154 r + 1 = G 154 p)) → Q 0 G := by
    intro G cG hq hv
    have lo : ∀ q, q < p → g 154 q = G 154 q := fun q h => (hq q (by omega)).symm
    refine k G cG (GT_succ (GT_cg hG lo) ⟨hv.1, hv.2.1, fun y z => ?_⟩)
    obtain ⟨t1, r, t2, t3⟩ := hv.2.2 y z
    exact ⟨fun r' h' => by rw [← lo r' (gV_lt z h')]; exact t1 r' h', r, t2, by rw [← lo r (gV_lt z t2)]; exact t3⟩
  refine zX12_parted ?_
  first | with_reducible refine c_lt ?_ ?_ (fun z => ?_) (fun z => ?_) | with_reducible refine c_le ?_ ?_ (fun z => ?_) (fun z => ?_) | with_reducible refine c_eq ?_ ?_ (fun z => ?_) (fun z => ?_) | with_reducible refine c_ne ?_ ?_ (fun z => ?_) (fun z => ?_)
  · omega
  · omega
  · have h0 : p ≠ 0 := by omega
    obtain ⟨a, b, c, e, f, hb⟩ := lw_get hp h0
    have rng := GT_rng hG hS0
    have hl := lb_lt hp
    have g0 : g 154 0 = 0 := (hG 0 (by omega)).2.1 hS0 rfl
    have Bp := hB p (Nat.le_refl p)
    refine zX12_parted_14 ?_
    refine s_inN ?_ (fun ea => ?_)
    · omega
    try simp only [ea]
    clear ea
    intro g1 f1
    have c1 : Ch [154] [] g g1 := by rw [f1]; exact (Ch.rf g).up (by decide) (by decide)
    have q1 : ∀ q, q ≠ p → g1 154 q = g 154 q := fun q hq => by rw [f1, up_i hq]
    have p1 : g1 154 p = -1 := by rw [f1, up_s]
    have e156 : ∀ G, Ch [154] [] g G → ∀ q, q ≤ p → G 156 q = S q := fun G cG q hq => by rw [cG.1 156 (by decide) (by decide)]; exact h156 q hq
    first | with_reducible refine c_lt ?_ ?_ (fun z2 => ?_) (fun z2 => ?_) | with_reducible refine c_le ?_ ?_ (fun z2 => ?_) (fun z2 => ?_) | with_reducible refine c_eq ?_ ?_ (fun z2 => ?_) (fun z2 => ?_) | with_reducible refine c_ne ?_ ?_ (fun z2 => ?_) (fun z2 => ?_)
    · omega
    · omega
    · omega
    · refine s_inN ?_ (fun ea => ?_)
      · omega
      try simp only [ea]
      clear ea
      rw [e156 g1 c1 p (Nat.le_refl p), e]
      first | with_reducible refine l_gt ?_ ?_ (fun z3 => ?_) (fun z3 => ?_) | with_reducible refine l_lt ?_ ?_ (fun z3 => ?_) (fun z3 => ?_) | with_reducible refine l_ge ?_ ?_ (fun z3 => ?_) (fun z3 => ?_) | with_reducible refine l_le ?_ ?_ (fun z3 => ?_) (fun z3 => ?_) | with_reducible refine l_eq ?_ ?_ (fun z3 => ?_) (fun z3 => ?_) | with_reducible refine l_ne ?_ ?_ (fun z3 => ?_) (fun z3 => ?_)
      · omega
      · omega
      · have main : ∀ t : Nat, t ≤ p → t &&& p = t → ∀ (v : Int) G, Ch [154] [] g G → (∀ q, q ≠ p → G 154 q = g 154 q) → G 154 p = v → (∀ t', t' &&& p = t' → t < t' → gV S p (p ^^^ t') → g 154 (p ^^^ t') + 1 ≤ v) → (v = -1 ∧ t = p) ∨ ((0 ≤ v ∧ v ≤ 600) ∧ ∃ r, gV S p r ∧ g 154 r + 1 = v) → aX12_parted T (d + 1) Q X 38 [some (mx_R 99), some (mx_I (p : Int)), some (mx_I (lb p : Nat)), some (mx_I (t : Int))] [] G (0, 0) := by
          intro t
          induction t using Nat.strongRecOn with
          | ind t ih =>
            intro ht hs v G cG hq hv hall hex
            refine zX12_parted_38 ?_
            first | with_reducible refine c_lt ?_ ?_ (fun y0 => ?_) (fun y0 => ?_) | with_reducible refine c_le ?_ ?_ (fun y0 => ?_) (fun y0 => ?_) | with_reducible refine c_eq ?_ ?_ (fun y0 => ?_) (fun y0 => ?_) | with_reducible refine c_ne ?_ ?_ (fun y0 => ?_) (fun y0 => ?_)
            · omega
            · omega
            · have hex2 : (0 ≤ v ∧ v ≤ 600) ∧ ∃ r, gV S p r ∧ g 154 r + 1 = v := by
                rcases hex with y | y
                · omega
                · exact y
              refine fin G cG hq ⟨fun y => absurd z3 y, fun _ y => absurd y h0, fun _ _ => ⟨fun r hr => ?_, ?_⟩⟩
              · have rs := gV_sub hr
                have xs := xor_sub rs
                have lt := gV_lt h0 hr
                have nz : p ^^^ r ≠ 0 := fun y => by
                  have y2 := xs.2
                  rw [y, Nat.xor_zero] at y2
                  omega
                have := hall (p ^^^ r) xs.1 (by omega)
                rw [xs.2] at this
                rw [hv]
                exact this hr
              · rw [hv]; exact hex2.2
            · have nx : ∀ (w : Int) G2, Ch [154] [] g G2 → (∀ q, q ≠ p → G2 154 q = g 154 q) → G2 154 p = w → (∀ t', t' &&& p = t' → t ≤ t' → gV S p (p ^^^ t') → g 154 (p ^^^ t') + 1 ≤ w) → ((0 ≤ w ∧ w ≤ 600) ∧ ∃ r, gV S p r ∧ g 154 r + 1 = w) → aX12_parted T (d + 1) Q X 105 [some (mx_R 99), some (mx_I (p : Int)), some (mx_I (lb p : Nat)), some (mx_I (t : Int))] [] G2 (0, 0) := by
                intro w G2 c2 q2 v2 hall2 hex2
                refine zX12_parted_105 ?_
                rw [show (t : Int) - 1 = ((t - 1 : Nat) : Int) by omega, iand_nat (by omega) (by omega)]
                have lt : (t - 1) &&& p < t := Nat.lt_of_le_of_lt Nat.and_le_left (by omega)
                refine ih _ lt (by omega) ?_ w G2 c2 q2 v2 (fun t' h' h2 h3 => ?_) (Or.inr hex2)
                · exact sub_bit.mpr (fun i hi => by rw [Nat.testBit_and] at hi; exact ((Bool.and_eq_true _ _).mp hi).2)
                · rcases Nat.lt_or_ge t' t with y | y
                  · have := (sub_down 9 p t t' (by omega) h' hs y).1
                    omega
                  · exact hall2 t' h' y h3
              have skip : ¬ gV S p (p ^^^ t) → aX12_parted T (d + 1) Q X 105 [some (mx_R 99), some (mx_I (p : Int)), some (mx_I (lb p : Nat)), some (mx_I (t : Int))] [] G (0, 0) := by
                intro ng
                refine nx v G cG hq hv (fun t' h' h2 h3 => ?_) ?_
                · by_cases y : t' = t
                  · rw [y] at h3; exact absurd h3 ng
                  · exact hall t' h' (by omega) h3
                · rcases hex with y | y
                  · exact absurd ⟨by rw [y.2, Nat.xor_self]; exact Nat.zero_and _, by rw [y.2, Nat.xor_self]; exact hS0⟩ ng
                  · exact y
              have al : t &&& lb p ≤ t := Nat.and_le_left
              have xl := ixor_nat hp (show t < 512 by omega)
              have xs := xor_sub hs
              have lx := low_xor hp h0 hs
              have dx := hx t hs
              have xle : p ^^^ t ≤ p := by rw [← xs.1]; exact Nat.and_le_right
              have xlt : p ^^^ t < p := by
                rcases Nat.lt_or_ge (p ^^^ t) p with y | y
                · exact y
                · have y2 := xs.2
                  rw [show p ^^^ t = p by omega, Nat.xor_self] at y2
                  omega
              have rr := rng (p ^^^ t) xlt
              have Bt := hB t ht
              rw [iand_nat (by omega) (by omega), xl.1]
              first | with_reducible refine c_lt ?_ ?_ (fun y1 => ?_) (fun y1 => ?_) | with_reducible refine c_le ?_ ?_ (fun y1 => ?_) (fun y1 => ?_) | with_reducible refine c_eq ?_ ?_ (fun y1 => ?_) (fun y1 => ?_) | with_reducible refine c_ne ?_ ?_ (fun y1 => ?_) (fun y1 => ?_)
              · omega
              · omega
              · exact skip (fun y => lx.mpr y.1 (by omega))
              · refine s_inN ?_ (fun ea => ?_)
                · omega
                try simp only [ea]
                clear ea
                rw [e156 G cG t ht]
                first | with_reducible refine l_gt ?_ ?_ (fun y2 => ?_) (fun y2 => ?_) | with_reducible refine l_lt ?_ ?_ (fun y2 => ?_) (fun y2 => ?_) | with_reducible refine l_ge ?_ ?_ (fun y2 => ?_) (fun y2 => ?_) | with_reducible refine l_le ?_ ?_ (fun y2 => ?_) (fun y2 => ?_) | with_reducible refine l_eq ?_ ?_ (fun y2 => ?_) (fun y2 => ?_) | with_reducible refine l_ne ?_ ?_ (fun y2 => ?_) (fun y2 => ?_)
                · omega
                · omega
                · exact skip (fun y => y2 (by have := y.2; omega))
                · have gv : gV S p (p ^^^ t) := ⟨lx.mp (by omega), by omega⟩
                  refine s_inN ?_ (fun ea => ?_)
                  · omega
                  try simp only [ea]
                  clear ea
                  rw [hq (p ^^^ t) (by omega)]
                  first | with_reducible refine c_lt ?_ ?_ (fun y3 => ?_) (fun y3 => ?_) | with_reducible refine c_le ?_ ?_ (fun y3 => ?_) (fun y3 => ?_) | with_reducible refine c_eq ?_ ?_ (fun y3 => ?_) (fun y3 => ?_) | with_reducible refine c_ne ?_ ?_ (fun y3 => ?_) (fun y3 => ?_)
                  · omega
                  · omega
                  · have := rr.2.2 gv.2
                    omega
                  · have up : ∀ w, w = 1 + g 154 (p ^^^ t) → aX12_parted T (d + 1) Q X 101 [some (mx_R 99), some (mx_I (p : Int)), some (mx_I (lb p : Nat)), some (mx_I (t : Int))] [mx_I w, mx_I (G 154 p), mx_I (p : Int), mx_R 154] G (0, 0) := by
                      intro w hw
                      rw [hv]
                      have vr : -1 ≤ v ∧ v ≤ 600 := by rcases hex with y | y <;> omega
                      have r0 := rr.2.2 gv.2
                      refine zX12_parted_101 (sJ9_max (by omega) (by omega) ?_)
                      refine s_inN ?_ (fun ea => ?_)
                      · omega
                      try simp only [ea]
                      clear ea
                      intro G2 f2
                      refine nx (max v w) G2 (by rw [f2]; exact cG.up (by decide) (by decide)) (fun q h => by rw [f2, up_i h]; exact hq q h) (by rw [f2, up_s]) (fun t' h' h2 h3 => ?_) ⟨by omega, ?_⟩
                      · by_cases y : t' = t
                        · rw [y]; omega
                        · have := hall t' h' (by omega) h3
                          omega
                      · by_cases y : v ≤ w
                        · exact ⟨p ^^^ t, gv, by omega⟩
                        · rcases hex with y' | ⟨_, r, y3, y4⟩
                          · omega
                          · exact ⟨r, y3, by omega⟩
                    refine s_inN ?_ (fun ea => ?_)
                    · omega
                    try simp only [ea]
                    clear ea
                    first | with_reducible refine c_lt ?_ ?_ (fun y4 => ?_) (fun y4 => ?_) | with_reducible refine c_le ?_ ?_ (fun y4 => ?_) (fun y4 => ?_) | with_reducible refine c_eq ?_ ?_ (fun y4 => ?_) (fun y4 => ?_) | with_reducible refine c_ne ?_ ?_ (fun y4 => ?_) (fun y4 => ?_)
                    · omega
                    · omega
                    · refine s_inN ?_ (fun ea => ?_)
                      · omega
                      try simp only [ea]
                      clear ea
                      try rw [hq (p ^^^ t) (by omega)]
                      exact up _ rfl
                    · have et : p ^^^ t = 0 := by rw [show t = p by omega]; exact Nat.xor_self p
                      exact up 1 (by rw [et, g0]; rfl)
        refine main p (Nat.le_refl p) (Nat.and_self p) (-1) g1 c1 q1 p1 (fun t' h' h2 _ => ?_) (Or.inl ⟨rfl, rfl⟩)
        have : t' ≤ p := by rw [← h']; exact Nat.and_le_right
        omega
      · exact zX12_parted_30 (fin g1 c1 q1 ⟨fun _ => p1, fun y => absurd y z3, fun y => absurd y z3⟩)
  · have h0 : p = 0 := by omega
    refine zX12_parted_14 ?_
    refine s_inN ?_ (fun ea => ?_)
    · omega
    try simp only [ea]
    clear ea
    intro g1 f1
    first | with_reducible refine c_lt ?_ ?_ (fun z2 => ?_) (fun z2 => ?_) | with_reducible refine c_le ?_ ?_ (fun z2 => ?_) (fun z2 => ?_) | with_reducible refine c_eq ?_ ?_ (fun z2 => ?_) (fun z2 => ?_) | with_reducible refine c_ne ?_ ?_ (fun z2 => ?_) (fun z2 => ?_)
    · omega
    · omega
    · refine zX12_parted_30 (fin g1 (by rw [f1]; exact (Ch.rf g).up (by decide) (by decide)) (fun q hq => by rw [f1, up_i hq]) ⟨fun y => absurd (by rw [h0]; exact hS0) y, fun _ _ => by rw [f1, up_s], fun _ y => absurd h0 y⟩)
    · omega
theorem sX12_fwMembers {T : Nat × (Nat → Int32)} {d : Nat} {Q : mz_K} {X : mz_X} {g : mz_S} {co m s : Nat} {N : Nat → Nat → Int} {M : List Nat} {O : Nat → Int} {o4 o6 : Option mx_v} (eM : M = fwM N m s.testBit m) (eO : O = fwO N m s.testBit) (hm : m ≤ 12) (hs : s < 4096) (hpop : popN 12 s ≤ 9) (hb : ∀ a b, a < 12 → b < 12 → -2000000000 ≤ N a b ∧ N a b ≤ 2000000000) (h148 : NtR g N m) (h10 : g 99 10 = (m : Int)) (h82 : g 99 82 = 0) (kk : ∀ g' o6, Ch [151, 155] [82] g g' → MbG g' 151 155 M O → g' 99 82 = (M.length : Int) → aX12_seekFewest T d Q X 138 [some (mx_R 99), some (mx_I (co : Int)), some (mx_I (s : Int)), some (mx_I (((2 ^ M.length : Nat) : Int) - 1)), some (mx_I 0), none, o6] [] g' (0, 0)) : aX12_seekFewest T d Q X 12 [some (mx_R 99), some (mx_I (co : Int)), some (mx_I (s : Int)), some (mx_I 0), o4, none, o6] [] g (0, 0) := by
  have hl : M.length ≤ 9 := by rw [eM]; exact Nat.le_trans (fwM_len m) (Nat.le_trans (popN_le hm) hpop)
  have main : ∀ n a : Nat, a + n = m → ∀ G o4 o6, Ch [151, 155] [82] g G → MbG G 151 155 (fwM N m s.testBit a) (fwO N m s.testBit) → G 99 82 = ((fwM N m s.testBit a).length : Int) → aX12_seekFewest T d Q X 12 [some (mx_R 99), some (mx_I (co : Int)), some (mx_I (s : Int)), some (mx_I (a : Int)), o4, none, o6] [] G (0, 0) := by
    intro n
    induction n with
    | zero =>
      intro a ha G o4 o6 cG hG h8
      refine zX12_seekFewest_12 ?_
      rw [cG.2 10 (by decide), h10]
      rw [show a = m by omega, ← eM] at h8
      rw [show a = m by omega, ← eM, ← eO] at hG
      first | with_reducible refine c_lt ?_ ?_ (fun z => ?_) (fun z => ?_) | with_reducible refine c_le ?_ ?_ (fun z => ?_) (fun z => ?_) | with_reducible refine c_eq ?_ ?_ (fun z => ?_) (fun z => ?_) | with_reducible refine c_ne ?_ ?_ (fun z => ?_) (fun z => ?_)
      · omega
      · omega
      · rw [h8, pow13 _ (by omega)]
        exact kk G _ cG hG h8
      · omega
    | succ n ih =>
      intro a ha G o4 o6 cG hG h8
      have l1 := fwM_len (N := N) (m := m) (s := s) (a + 1)
      have l2 := popN_le (s := s) (show a + 1 ≤ 12 by omega)
      have next : ∀ G2 o4 o6, Ch [151, 155] [82] g G2 → MbG G2 151 155 (fwM N m s.testBit (a + 1)) (fwO N m s.testBit) → G2 99 82 = ((fwM N m s.testBit (a + 1)).length : Int) → aX12_seekFewest T d Q X 120 [some (mx_R 99), some (mx_I (co : Int)), some (mx_I (s : Int)), some (mx_I (a : Int)), o4, none, o6] [] G2 (0, 0) := by
        intro G2 o4 o6 c2 h2 h3
        refine zX12_seekFewest_120 ?_
        rw [show (a : Int) + 1 = ((a + 1 : Nat) : Int) by omega]
        exact ih (a + 1) (by omega) G2 _ _ c2 h2 h3
      have inner : ∀ nn b : Nat, b + nn = m → s.testBit a = true → aX12_seekFewest T d Q X 37 [some (mx_R 99), some (mx_I (co : Int)), some (mx_I (s : Int)), some (mx_I (a : Int)), some (mx_J (sumN (fun b => if s.testBit b = true then N b a else 0) b)), none, some (mx_I (b : Int))] [] G (0, 0) := by
        intro nn
        induction nn with
        | zero =>
          intro b hb2 sa
          have wo : -24000000000 ≤ fwO N m s.testBit a ∧ fwO N m s.testBit a ≤ 24000000000 := fwO_bnd hm hb (by omega) m (Nat.le_refl m)
          have ew : sumN (fun b => if s.testBit b = true then N b a else 0) b = fwO N m s.testBit a := by rw [show b = m by omega]; rfl
          rw [ew]
          refine zX12_seekFewest_37 ?_
          rw [cG.2 10 (by decide), h10]
          first | with_reducible refine c_lt ?_ ?_ (fun z => ?_) (fun z => ?_) | with_reducible refine c_le ?_ ?_ (fun z => ?_) (fun z => ?_) | with_reducible refine c_eq ?_ ?_ (fun z => ?_) (fun z => ?_) | with_reducible refine c_ne ?_ ?_ (fun z => ?_) (fun z => ?_)
          · omega
          · omega
          · first | with_reducible refine l_gt ?_ ?_ (fun z2 => ?_) (fun z2 => ?_) | with_reducible refine l_lt ?_ ?_ (fun z2 => ?_) (fun z2 => ?_) | with_reducible refine l_ge ?_ ?_ (fun z2 => ?_) (fun z2 => ?_) | with_reducible refine l_le ?_ ?_ (fun z2 => ?_) (fun z2 => ?_) | with_reducible refine l_eq ?_ ?_ (fun z2 => ?_) (fun z2 => ?_) | with_reducible refine l_ne ?_ ?_ (fun z2 => ?_) (fun z2 => ?_)
            · omega
            · omega
            · have e : fwM N m s.testBit (a + 1) = fwM N m s.testBit a ++ [a] := if_pos ⟨sa, z2⟩
              have e1 : (fwM N m s.testBit (a + 1)).length = (fwM N m s.testBit a).length + 1 := by rw [e, List.length_append]; rfl
              rw [h8]
              refine s_inN ?_ (fun ea => ?_)
              · omega
              try simp only [ea]
              clear ea
              intro G1 f1
              have h81 : G1 99 82 = ((fwM N m s.testBit a).length : Int) := by rw [f1, up_q (by decide)]; exact h8
              rw [h81]
              refine s_inN ?_ (fun ea => ?_)
              · omega
              try simp only [ea]
              clear ea
              intro G2 f2
              have h82 : G2 99 82 = ((fwM N m s.testBit a).length : Int) := by rw [f2, up_q (by decide)]; exact h81
              rw [h82]
              intro G3 f3
              refine next G3 _ _ (by rw [f3, f2, f1]; exact ((cG.up (by decide) (by decide)).up (by decide) (by decide)).up9 (by decide)) (fun i hi => ?_) (by rw [f3, up_s, e1]; omega)
              rw [e1] at hi
              rw [e, getD_app, f3, up_q (by decide), up_q (by decide)]
              by_cases y : i < (fwM N m s.testBit a).length
              · rw [if_pos y, f2, up_q (by decide), up_i (by omega), f1, up_i (by omega), up_q (by decide)]
                exact hG i y
              · have y2 : i = (fwM N m s.testBit a).length := by omega
                rw [if_neg y, if_pos y2, f2, up_q (by decide), y2, up_s, f1, up_s]
                exact ⟨rfl, rfl⟩
            · have e : fwM N m s.testBit (a + 1) = fwM N m s.testBit a := if_neg (fun y => y.2 z2)
              exact next G _ _ cG (by rw [e]; exact hG) (by rw [e]; exact h8)
          · omega
        | succ nn ih2 =>
          intro b hb2 sa
          refine zX12_seekFewest_37 ?_
          rw [cG.2 10 (by decide), h10]
          have nx : ∀ v, v = sumN (fun b => if s.testBit b = true then N b a else 0) (b + 1) → aX12_seekFewest T d Q X 73 [some (mx_R 99), some (mx_I (co : Int)), some (mx_I (s : Int)), some (mx_I (a : Int)), some (mx_J v), none, some (mx_I (b : Int))] [] G (0, 0) := by
            intro v hv
            refine zX12_seekFewest_73 ?_
            rw [show (b : Int) + 1 = ((b + 1 : Nat) : Int) by omega, hv]
            exact ih2 (b + 1) (by omega) sa
          have es : sumN (fun b => if s.testBit b = true then N b a else 0) (b + 1) = sumN (fun b => if s.testBit b = true then N b a else 0) b + (if s.testBit b = true then N b a else 0) := rfl
          first | with_reducible refine c_lt ?_ ?_ (fun z => ?_) (fun z => ?_) | with_reducible refine c_le ?_ ?_ (fun z => ?_) (fun z => ?_) | with_reducible refine c_eq ?_ ?_ (fun z => ?_) (fun z => ?_) | with_reducible refine c_ne ?_ ?_ (fun z => ?_) (fun z => ?_)
          · omega
          · omega
          · omega
          · rw [zb_holds (by omega), zb_nat (by omega)]
            by_cases sb : s.testBit b = true
            · rw [sb, show bI true = 1 from rfl]
              first | with_reducible refine c_lt ?_ ?_ (fun z2 => ?_) (fun z2 => ?_) | with_reducible refine c_le ?_ ?_ (fun z2 => ?_) (fun z2 => ?_) | with_reducible refine c_eq ?_ ?_ (fun z2 => ?_) (fun z2 => ?_) | with_reducible refine c_ne ?_ ?_ (fun z2 => ?_) (fun z2 => ?_)
              · omega
              · omega
              · omega
              · rw [show 12 * (b : Int) + (a : Int) = ((b * 12 + a : Nat) : Int) by omega]
                refine s_inN ?_ (fun ea => ?_)
                · omega
                try simp only [ea]
                clear ea
                rw [cG.1 148 (by decide) (by decide), h148 b a (by omega) (by omega)]
                exact nx _ (by rw [es, if_pos sb])
            · rw [Bool.eq_false_iff.mpr sb, show bI false = 0 from rfl]
              first | with_reducible refine c_lt ?_ ?_ (fun z2 => ?_) (fun z2 => ?_) | with_reducible refine c_le ?_ ?_ (fun z2 => ?_) (fun z2 => ?_) | with_reducible refine c_eq ?_ ?_ (fun z2 => ?_) (fun z2 => ?_) | with_reducible refine c_ne ?_ ?_ (fun z2 => ?_) (fun z2 => ?_)
              · omega
              · omega
              · exact nx _ (by rw [es, if_neg sb, Int.add_zero])
              · omega
      refine zX12_seekFewest_12 ?_
      rw [cG.2 10 (by decide), h10]
      first | with_reducible refine c_lt ?_ ?_ (fun z => ?_) (fun z => ?_) | with_reducible refine c_le ?_ ?_ (fun z => ?_) (fun z => ?_) | with_reducible refine c_eq ?_ ?_ (fun z => ?_) (fun z => ?_) | with_reducible refine c_ne ?_ ?_ (fun z => ?_) (fun z => ?_)
      · omega
      · omega
      · omega
      · rw [zb_holds (by omega), zb_nat (by omega)]
        by_cases sa : s.testBit a = true
        · rw [sa, show bI true = 1 from rfl]
          first | with_reducible refine c_lt ?_ ?_ (fun z2 => ?_) (fun z2 => ?_) | with_reducible refine c_le ?_ ?_ (fun z2 => ?_) (fun z2 => ?_) | with_reducible refine c_eq ?_ ?_ (fun z2 => ?_) (fun z2 => ?_) | with_reducible refine c_ne ?_ ?_ (fun z2 => ?_) (fun z2 => ?_)
          · omega
          · omega
          · exact inner m 0 (by omega) sa
          · omega
        · rw [Bool.eq_false_iff.mpr sa, show bI false = 0 from rfl]
          have e : fwM N m s.testBit (a + 1) = fwM N m s.testBit a := if_neg (fun y => sa y.1)
          first | with_reducible refine c_lt ?_ ?_ (fun z2 => ?_) (fun z2 => ?_) | with_reducible refine c_le ?_ ?_ (fun z2 => ?_) (fun z2 => ?_) | with_reducible refine c_eq ?_ ?_ (fun z2 => ?_) (fun z2 => ?_) | with_reducible refine c_ne ?_ ?_ (fun z2 => ?_) (fun z2 => ?_)
          · omega
          · omega
          · omega
          · exact next G _ _ cG (by rw [e]; exact hG) (by rw [e]; exact h8)
  exact main m 0 (by omega) g o4 o6 (Ch.rf g) (fun i hi => absurd hi (Nat.not_lt_zero i)) h82
theorem sX12_fwTables {T : Nat × (Nat → Int32)} {d : Nat} {Q : mz_K} {X : mz_X} {g : mz_S} {n P : Nat} {x1 x2 : Int} {bal : Nat → Int} {o5 o6 : Option mx_v} (hn : n ≤ 9) (hP : P = 2 ^ n) (h82 : g 99 82 = (n : Int)) (h155 : ∀ i, i < n → g 155 i = bal i) (hB : ∀ i, i < n → -24000000000 ≤ bal i ∧ bal i ≤ 24000000000) (kk : ∀ g' o5 o6, Ch [154, 156] [83] g g' → (∀ q, q < P → g' 156 q = sbS n bal q) → GT (sbS n bal) (g' 154) P → g' 99 83 = 0 → aX12_seekFewest T (d + 2) Q X 222 [some (mx_R 99), some (mx_I x1), some (mx_I x2), some (mx_I ((P : Int) - 1)), some (mx_I ((P : Int) - 1)), o5, o6] [] g' (0, 0)) : aX12_seekFewest T (d + 2) Q X 138 [some (mx_R 99), some (mx_I x1), some (mx_I x2), some (mx_I ((P : Int) - 1)), some (mx_I 0), o5, o6] [] g (0, 0) := by
  have p1 : 1 ≤ P := by rw [hP]; exact Nat.two_pow_pos n
  have p2 : P ≤ 512 := by rw [hP]; exact Nat.pow_le_pow_right (n := 2) (by decide) hn
  have main : ∀ c p : Nat, p + c = P → ∀ G o5 o6, Ch [154, 156] [83] g G → (∀ q, q < p → G 156 q = sbS n bal q) → GT (sbS n bal) (G 154) p → aX12_seekFewest T (d + 2) Q X 138 [some (mx_R 99), some (mx_I x1), some (mx_I x2), some (mx_I ((P : Int) - 1)), some (mx_I (p : Int)), o5, o6] [] G (0, 0) := by
    intro c
    induction c with
    | zero =>
      intro p hp G o5 o6 cG hS hG
      refine zX12_seekFewest_138 ?_
      rw [show p = P by omega] at hS hG
      first | with_reducible refine c_lt ?_ ?_ (fun z => ?_) (fun z => ?_) | with_reducible refine c_le ?_ ?_ (fun z => ?_) (fun z => ?_) | with_reducible refine c_eq ?_ ?_ (fun z => ?_) (fun z => ?_) | with_reducible refine c_ne ?_ ?_ (fun z => ?_) (fun z => ?_)
      · omega
      · omega
      · intro G1 f1
        refine kk G1 _ _ (by rw [f1]; exact cG.up9 (by decide)) (fun q hq => by rw [f1, up_q (by decide)]; exact hS q hq) ?_ (by rw [f1, up_s])
        have : G1 154 = G 154 := by rw [f1]; funext j; exact up_q (by decide)
        rw [this]; exact hG
      · omega
    | succ c ih =>
      intro p hp G o5 o6 cG hS hG
      refine zX12_seekFewest_138 ?_
      first | with_reducible refine c_lt ?_ ?_ (fun z => ?_) (fun z => ?_) | with_reducible refine c_le ?_ ?_ (fun z => ?_) (fun z => ?_) | with_reducible refine c_eq ?_ ?_ (fun z => ?_) (fun z => ?_) | with_reducible refine c_ne ?_ ?_ (fun z => ?_) (fun z => ?_)
      · omega
      · omega
      · omega
      · refine s_inN ?_ (fun ea => ?_)
        · omega
        try simp only [ea]
        clear ea
        intro G0 f0
        have c0 : Ch [154, 156] [83] g G0 := by rw [f0]; exact cG.up (by decide) (by decide)
        have q0 : ∀ q, q < p → G0 156 q = sbS n bal q := fun q hq => by rw [f0, up_i (by omega)]; exact hS q hq
        have e0 : G0 154 = G 154 := by rw [f0]; funext j; exact up_q (by decide)
        have inner : ∀ cc i : Nat, i + cc = n → ∀ G1, Ch [154, 156] [83] g G1 → (∀ q, q < p → G1 156 q = sbS n bal q) → G1 154 = G 154 → G1 156 p = sumN (fun k => if p.testBit k = true then bal k else 0) i → aX12_seekFewest T (d + 2) Q X 155 [some (mx_R 99), some (mx_I x1), some (mx_I x2), some (mx_I ((P : Int) - 1)), some (mx_I (p : Int)), some (mx_I (i : Int)), o6] [] G1 (0, 0) := by
          intro cc
          induction cc with
          | zero =>
            intro i hi G1 c1 q1 e1 s1
            refine zX12_seekFewest_155 ?_
            rw [c1.2 82 (by decide), h82]
            first | with_reducible refine c_lt ?_ ?_ (fun z2 => ?_) (fun z2 => ?_) | with_reducible refine c_le ?_ ?_ (fun z2 => ?_) (fun z2 => ?_) | with_reducible refine c_eq ?_ ?_ (fun z2 => ?_) (fun z2 => ?_) | with_reducible refine c_ne ?_ ?_ (fun z2 => ?_) (fun z2 => ?_)
            · omega
            · omega
            · rw [show i = n by omega] at s1
              have all : ∀ q, q ≤ p → G1 156 q = sbS n bal q := fun q hq => by
                by_cases y : q = p
                · rw [y, s1]; rfl
                · exact q1 q (by omega)
              refine sX12_parted (d := d) (S := sbS n bal) (by omega) (sbS_0 n bal) all (fun q _ => ?_) (fun q hq => sbS_dif hq) (by rw [e1]; exact hG) (fun G2 c2 h2 => ?_)
              · have := sbS_bnd (B := 24000000000) hB (by omega) q
                omega
              · rw [show (p : Int) + 1 = ((p + 1 : Nat) : Int) by omega]
                exact ih (p + 1) (by omega) G2 _ _ (c1.tr (c2.sub (by decide) (by decide))) (fun q hq => by rw [c2.1 156 (by decide) (by decide)]; exact all q (by omega)) h2
            · omega
          | succ cc ih2 =>
            intro i hi G1 c1 q1 e1 s1
            have nx : ∀ v, v = (if p.testBit i = true then bal i else 0) → aX12_seekFewest T (d + 2) Q X 194 [some (mx_R 99), some (mx_I x1), some (mx_I x2), some (mx_I ((P : Int) - 1)), some (mx_I (p : Int)), some (mx_I (i : Int)), o6] [mx_J v, mx_J (G1 156 p), mx_I (p : Int), mx_R 156] G1 (0, 0) := by
              intro v hv
              refine zX12_seekFewest_194 ?_
              refine s_inN ?_ (fun ea => ?_)
              · omega
              try simp only [ea]
              clear ea
              intro G2 f2
              rw [show (i : Int) + 1 = ((i + 1 : Nat) : Int) by omega]
              refine ih2 (i + 1) (by omega) G2 (by rw [f2]; exact c1.up (by decide) (by decide)) (fun q hq => by rw [f2, up_i (by omega)]; exact q1 q hq) ?_ ?_
              · rw [← e1, f2]; funext j; exact up_q (by decide)
              · rw [f2, up_s, s1, hv]; rfl
            refine zX12_seekFewest_155 ?_
            rw [c1.2 82 (by decide), h82]
            first | with_reducible refine c_lt ?_ ?_ (fun z2 => ?_) (fun z2 => ?_) | with_reducible refine c_le ?_ ?_ (fun z2 => ?_) (fun z2 => ?_) | with_reducible refine c_eq ?_ ?_ (fun z2 => ?_) (fun z2 => ?_) | with_reducible refine c_ne ?_ ?_ (fun z2 => ?_) (fun z2 => ?_)
            · omega
            · omega
            · omega
            · refine s_inN ?_ (fun ea => ?_)
              · omega
              try simp only [ea]
              clear ea
              rw [zb_holds (by omega), zb_nat (by omega)]
              by_cases sb : p.testBit i = true
              · rw [sb, show bI true = 1 from rfl]
                first | with_reducible refine c_lt ?_ ?_ (fun z3 => ?_) (fun z3 => ?_) | with_reducible refine c_le ?_ ?_ (fun z3 => ?_) (fun z3 => ?_) | with_reducible refine c_eq ?_ ?_ (fun z3 => ?_) (fun z3 => ?_) | with_reducible refine c_ne ?_ ?_ (fun z3 => ?_) (fun z3 => ?_)
                · omega
                · omega
                · omega
                · refine s_inN ?_ (fun ea => ?_)
                  · omega
                  try simp only [ea]
                  clear ea
                  rw [c1.1 155 (by decide) (by decide), h155 i (by omega)]
                  exact nx _ (by rw [if_pos sb])
              · rw [Bool.eq_false_iff.mpr sb, show bI false = 0 from rfl]
                first | with_reducible refine c_lt ?_ ?_ (fun z3 => ?_) (fun z3 => ?_) | with_reducible refine c_le ?_ ?_ (fun z3 => ?_) (fun z3 => ?_) | with_reducible refine c_eq ?_ ?_ (fun z3 => ?_) (fun z3 => ?_) | with_reducible refine c_ne ?_ ?_ (fun z3 => ?_) (fun z3 => ?_)
                · omega
                · omega
                · exact nx _ (by rw [if_neg sb])
                · omega
        exact inner n 0 (by omega) G0 c0 q0 e0 (by rw [f0, up_s]; rfl)
  exact main P 0 (by omega) g o5 o6 (Ch.rf g) (fun q hq => absurd hq (Nat.not_lt_zero q)) (fun q hq => absurd hq (Nat.not_lt_zero q))
