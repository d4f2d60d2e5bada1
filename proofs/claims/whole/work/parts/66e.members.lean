/-! fewest settlings: the class's members and groups -/
abbrev nzP1 (j : Nat) (y : Int) : Prop := (0 ≤ y ∧ y ≤ 255) ∧ (j = 0 → y = 0) ∧ (y = 0 → j = 0)
abbrev nzP2 (y : Int) : Prop := (0 ≤ mx_iushr y 4 ∧ mx_iushr y 4 ≤ 255) ∧ (0 ≤ mx_iushr y 2 ∧ mx_iushr y 2 ≤ 255) ∧ (0 ≤ mx_iushr (mx_iushr y 4) 2 ∧ mx_iushr (mx_iushr y 4) 2 ≤ 255)
abbrev nzP3 (j : Nat) (y : Int) : Prop := (0 < y → y ≤ 16 → y ≤ 4 → 1 + mx_iushr y 1 = (j : Int)) ∧ (0 < y → y ≤ 16 → ¬ y ≤ 4 → 1 + 2 + mx_iushr (mx_iushr y 2) 1 = (j : Int))
abbrev nzP4 (j : Nat) (y : Int) : Prop := (¬ y ≤ 16 → mx_iushr y 4 ≤ 4 → 1 + 4 + mx_iushr (mx_iushr y 4) 1 = (j : Int)) ∧ (¬ y ≤ 16 → ¬ mx_iushr y 4 ≤ 4 → 1 + 4 + 2 + mx_iushr (mx_iushr (mx_iushr y 4) 2) 1 = (j : Int))
theorem nz_1 : ∀ j, j < 9 → nzP1 j ((2 ^ j - 1 : Nat) : Int) := by decide +kernel
theorem nz_2 : ∀ j, j < 9 → nzP2 ((2 ^ j - 1 : Nat) : Int) := by decide +kernel
theorem nz_3 : ∀ j, j < 9 → nzP3 j ((2 ^ j - 1 : Nat) : Int) := by decide +kernel
theorem nz_4 : ∀ j, j < 9 → nzP4 j ((2 ^ j - 1 : Nat) : Int) := by decide +kernel
theorem nz_5 : mx_iand 0 32 = 0 := by decide +kernel
theorem nz_all (j : Nat) (h : j < 9) : (fun y => nzP1 j y ∧ nzP2 y ∧ nzP3 j y ∧ nzP4 j y) ((2 ^ j - 1 : Nat) : Int) := ⟨nz_1 j h, nz_2 j h, nz_3 j h, nz_4 j h⟩
theorem sJ6_ntz {T : Nat × (Nat → Int32)} {d : Nat} {Q : mz_K} {X : mz_X} {g : mz_S} {p : Nat} (hp : p < 512) (h0 : p ≠ 0) (k : Q ((lwK p : Nat) : Int) g) : zC T (d + 1) 342 [mx_I (p : Int)] g Q X := by
  obtain ⟨a, b, c, e, f, hb⟩ := lw_get hp h0
  have n := nz_all (lwK p) a
  refine zJ6_numberOfTrailingZeros_0f7a4 ?_
  rw [f]
  generalize ((2 ^ lwK p - 1 : Nat) : Int) = y at n
  generalize lwK p = j at n k
  obtain ⟨⟨n1, n2, n3⟩, ⟨n5, n6, n7⟩, ⟨n8, n9⟩, ⟨n10, n11⟩⟩ := n
  have n4 := nz_5
  first | with_reducible refine c_lt ?_ ?_ (fun z => ?_) (fun z => ?_) | with_reducible refine c_le ?_ ?_ (fun z => ?_) (fun z => ?_) | with_reducible refine c_eq ?_ ?_ (fun z => ?_) (fun z => ?_) | with_reducible refine c_ne ?_ ?_ (fun z => ?_) (fun z => ?_)
  · omega
  · omega
  · first | with_reducible refine c_lt ?_ ?_ (fun z2 => ?_) (fun z2 => ?_) | with_reducible refine c_le ?_ ?_ (fun z2 => ?_) (fun z2 => ?_) | with_reducible refine c_eq ?_ ?_ (fun z2 => ?_) (fun z2 => ?_) | with_reducible refine c_ne ?_ ?_ (fun z2 => ?_) (fun z2 => ?_)
    · omega
    · omega
    · refine zJ6_numberOfTrailingZeros_0f7a4_34 ?_
      first | with_reducible refine c_lt ?_ ?_ (fun z3 => ?_) (fun z3 => ?_) | with_reducible refine c_le ?_ ?_ (fun z3 => ?_) (fun z3 => ?_) | with_reducible refine c_eq ?_ ?_ (fun z3 => ?_) (fun z3 => ?_) | with_reducible refine c_ne ?_ ?_ (fun z3 => ?_) (fun z3 => ?_)
      · omega
      · omega
      · refine zJ6_numberOfTrailingZeros_0f7a4_49 ?_
        first | with_reducible refine c_lt ?_ ?_ (fun z4 => ?_) (fun z4 => ?_) | with_reducible refine c_le ?_ ?_ (fun z4 => ?_) (fun z4 => ?_) | with_reducible refine c_eq ?_ ?_ (fun z4 => ?_) (fun z4 => ?_) | with_reducible refine c_ne ?_ ?_ (fun z4 => ?_) (fun z4 => ?_)
        · omega
        · omega
        · refine zJ6_numberOfTrailingZeros_0f7a4_62 ?_
          first | with_reducible refine c_lt ?_ ?_ (fun z5 => ?_) (fun z5 => ?_) | with_reducible refine c_le ?_ ?_ (fun z5 => ?_) (fun z5 => ?_) | with_reducible refine c_eq ?_ ?_ (fun z5 => ?_) (fun z5 => ?_) | with_reducible refine c_ne ?_ ?_ (fun z5 => ?_) (fun z5 => ?_)
          · omega
          · omega
          · refine zJ6_numberOfTrailingZeros_0f7a4_74 ?_
            rw [n8 z z4 z5]; exact k
          · refine zJ6_numberOfTrailingZeros_0f7a4_74 ?_
            rw [n9 z z4 z5]; exact k
        · refine zJ6_numberOfTrailingZeros_0f7a4_62 ?_
          first | with_reducible refine c_lt ?_ ?_ (fun z5 => ?_) (fun z5 => ?_) | with_reducible refine c_le ?_ ?_ (fun z5 => ?_) (fun z5 => ?_) | with_reducible refine c_eq ?_ ?_ (fun z5 => ?_) (fun z5 => ?_) | with_reducible refine c_ne ?_ ?_ (fun z5 => ?_) (fun z5 => ?_)
          · omega
          · omega
          · refine zJ6_numberOfTrailingZeros_0f7a4_74 ?_
            rw [n10 z4 z5]; exact k
          · refine zJ6_numberOfTrailingZeros_0f7a4_74 ?_
            rw [n11 z4 z5]; exact k
      · omega
    · omega
  · have y0 : y = 0 := by omega
    rw [y0, n4]
    rw [n3 y0] at k
    exact k
def MbG (g : mz_S) (a b : Nat) (L : List Nat) (O : Nat → Int) : Prop := ∀ i, i < L.length → g a i = (L.getD i 0 : Nat) ∧ g b i = O (L.getD i 0)
def fwO (N : Nat → Nat → Int) (m : Nat) (st : Nat → Bool) (a : Nat) : Int := sumN (fun b => if st b = true then N b a else 0) m
def fwM (N : Nat → Nat → Int) (m : Nat) (st : Nat → Bool) : Nat → List Nat
  | 0 => []
  | a + 1 => if st a = true ∧ fwO N m st a ≠ 0 then fwM N m st a ++ [a] else fwM N m st a
theorem popN_le {s : Nat} {a b : Nat} (h : a ≤ b) : popN a s ≤ popN b s := by
  induction b with
  | zero => rw [show a = 0 by omega]; exact Nat.le_refl _
  | succ b ih =>
    by_cases z : a = b + 1
    · rw [z]; exact Nat.le_refl _
    · have := ih (by omega)
      show popN a s ≤ popN b s + (if s.testBit b then 1 else 0)
      exact Nat.le_trans this (Nat.le_add_right _ _)
theorem fwM_len {N : Nat → Nat → Int} {m s : Nat} : ∀ a, (fwM N m s.testBit a).length ≤ popN a s := by
  intro a
  induction a with
  | zero => exact Nat.le_refl 0
  | succ a ih =>
    show (if s.testBit a = true ∧ fwO N m s.testBit a ≠ 0 then fwM N m s.testBit a ++ [a] else fwM N m s.testBit a).length ≤ popN a s + (if s.testBit a then 1 else 0)
    by_cases z : s.testBit a = true ∧ fwO N m s.testBit a ≠ 0
    · rw [if_pos z, if_pos z.1, List.length_append]
      show (fwM N m s.testBit a).length + 1 ≤ _
      omega
    · rw [if_neg z]; exact Nat.le_trans ih (Nat.le_add_right _ _)
theorem fwM_lt {N : Nat → Nat → Int} {m : Nat} {st : Nat → Bool} : ∀ a, ∀ x ∈ fwM N m st a, x < a := by
  intro a
  induction a with
  | zero => intro x h; exact absurd h (List.not_mem_nil)
  | succ a ih =>
    intro x
    show x ∈ (if st a = true ∧ fwO N m st a ≠ 0 then fwM N m st a ++ [a] else fwM N m st a) → _
    by_cases z : st a = true ∧ fwO N m st a ≠ 0
    · rw [if_pos z]
      intro h
      rcases List.mem_append.mp h with y | y
      · have := ih x y; omega
      · rw [List.mem_singleton] at y; omega
    · rw [if_neg z]
      intro h
      have := ih x h; omega
theorem fwO_bnd {N : Nat → Nat → Int} {m : Nat} {st : Nat → Bool} (hm : m ≤ 12) (hb : ∀ a b, a < 12 → b < 12 → -2000000000 ≤ N a b ∧ N a b ≤ 2000000000) {a : Nat} (ha : a < 12) (c : Nat) (hc : c ≤ m) : -24000000000 ≤ sumN (fun b => if st b = true then N b a else 0) c ∧ sumN (fun b => if st b = true then N b a else 0) c ≤ 24000000000 := by
  have h : ∀ b, b < c → -2000000000 ≤ (if st b = true then N b a else 0) ∧ (if st b = true then N b a else 0) ≤ 2000000000 := fun b hb2 => by
    have := hb b a (by omega) ha
    split <;> omega
  have u := sumN_le (c := 2000000000) (fun b hb2 => (h b hb2).2)
  have l := sumN_ge (c := -2000000000) (fun b hb2 => (h b hb2).1)
  omega
theorem sX1_takeMembers {T : Nat × (Nat → Int32)} {d : Nat} {Q : mz_K} {X : mz_X} {g : mz_S} {co m s : Nat} (wg : WfG g) (em : g 9 1 = (m : Int)) (hm : m ≤ 12) (hco : co < 4) (hs : s < 4096) (hpop : popN 12 s ≤ 9) (k : ∀ g', Ch [65, 66] [] g g' → MbG g' 65 66 (fwM (fun a b => netC g a b co) m s.testBit m) (fwO (fun a b => netC g a b co) m s.testBit) → Q ((fwM (fun a b => netC g a b co) m s.testBit m).length : Int) g') : zC T (d + 3) 17 [mx_R 62, mx_I (co : Int), mx_I (s : Int)] g Q X := by
  obtain ⟨N, hN⟩ : ∃ N : Nat → Nat → Int, N = fun a b => netC g a b co := ⟨_, rfl⟩
  rw [← hN] at k
  have hb : ∀ a b, a < 12 → b < 12 → -2000000000 ≤ N a b ∧ N a b ≤ 2000000000 := fun a b ha hb => by rw [hN]; exact wg.2.2.1 ((a * 12 + b) * 4 + co) (by omega)
  have nN : ∀ G, Ch [65, 66] [] g G → ∀ a b, netC G a b co = N a b := fun G cG a b => by rw [hN]; unfold netC; rw [cG.1 23 (by decide) (by decide)]
  have mm : ∀ G, Ch [65, 66] [] g G → G 9 1 = (m : Int) := fun G cG => by rw [cG.1 9 (by decide) (by decide)]; exact em
  refine zX1_takeMembers ?_
  have main : ∀ n a : Nat, a + n = m → ∀ G o5 o7, Ch [65, 66] [] g G → MbG G 65 66 (fwM N m s.testBit a) (fwO N m s.testBit) → aX1_takeMembers T (d + 2) Q X 5 [some (mx_R 62), some (mx_I (co : Int)), some (mx_I (s : Int)), some (mx_I ((fwM N m s.testBit a).length : Int)), some (mx_I (a : Int)), o5, none, o7] [] G (0, 0) := by
    intro n
    induction n with
    | zero =>
      intro a ha G o5 o7 cG hG
      refine zX1_takeMembers_5 ?_
      rw [mm G cG]
      have ea : a = m := by omega
      rw [ea] at hG ⊢
      first | with_reducible refine c_lt ?_ ?_ (fun z => ?_) (fun z => ?_) | with_reducible refine c_le ?_ ?_ (fun z => ?_) (fun z => ?_) | with_reducible refine c_eq ?_ ?_ (fun z => ?_) (fun z => ?_) | with_reducible refine c_ne ?_ ?_ (fun z => ?_) (fun z => ?_)
      · omega
      · omega
      · exact k G cG hG
      · omega
    | succ n ih =>
      intro a ha G o5 o7 cG hG
      have l1 := fwM_len (N := N) (m := m) (s := s) (a + 1)
      have l0 := fwM_len (N := N) (m := m) (s := s) a
      have l2 := popN_le (s := s) (show a + 1 ≤ 12 by omega)
      have l3 := popN_le (s := s) (show a ≤ 12 by omega)
      have next : ∀ G2 x5 x7, Ch [65, 66] [] g G2 → MbG G2 65 66 (fwM N m s.testBit (a + 1)) (fwO N m s.testBit) → aX1_takeMembers T (d + 2) Q X 112 [some (mx_R 62), some (mx_I (co : Int)), some (mx_I (s : Int)), some (mx_I ((fwM N m s.testBit (a + 1)).length : Int)), some (mx_I (a : Int)), some (mx_J x5), none, some (mx_I x7)] [] G2 (0, 0) := by
        intro G2 x5 x7 c2 h2
        refine zX1_takeMembers_112 ?_
        rw [show (a : Int) + 1 = ((a + 1 : Nat) : Int) by omega]
        exact ih (a + 1) (by omega) G2 _ _ c2 h2
      have store : ∀ x7, s.testBit a = true → aX1_takeMembers T (d + 2) Q X 80 [some (mx_R 62), some (mx_I (co : Int)), some (mx_I (s : Int)), some (mx_I ((fwM N m s.testBit a).length : Int)), some (mx_I (a : Int)), some (mx_J (fwO N m s.testBit a)), none, some (mx_I x7)] [] G (0, 0) := by
        intro x7 sa
        have wo : -24000000000 ≤ fwO N m s.testBit a ∧ fwO N m s.testBit a ≤ 24000000000 := fwO_bnd hm hb (by omega) m (Nat.le_refl m)
        refine zX1_takeMembers_80 ?_
        first | with_reducible refine l_gt ?_ ?_ (fun z => ?_) (fun z => ?_) | with_reducible refine l_lt ?_ ?_ (fun z => ?_) (fun z => ?_) | with_reducible refine l_ge ?_ ?_ (fun z => ?_) (fun z => ?_) | with_reducible refine l_le ?_ ?_ (fun z => ?_) (fun z => ?_) | with_reducible refine l_eq ?_ ?_ (fun z => ?_) (fun z => ?_) | with_reducible refine l_ne ?_ ?_ (fun z => ?_) (fun z => ?_)
        · omega
        · omega
        · have e : fwM N m s.testBit (a + 1) = fwM N m s.testBit a := if_neg (fun y => y.2 z)
          have t := next G (fwO N m s.testBit a) x7 cG (by rw [e]; exact hG)
          rw [e] at t
          exact t
        · have e : fwM N m s.testBit (a + 1) = fwM N m s.testBit a ++ [a] := if_pos ⟨sa, z⟩
          have e1 : (fwM N m s.testBit (a + 1)).length = (fwM N m s.testBit a).length + 1 := by rw [e, List.length_append]; rfl
          first | with_reducible refine c_lt ?_ ?_ (fun z2 => ?_) (fun z2 => ?_) | with_reducible refine c_le ?_ ?_ (fun z2 => ?_) (fun z2 => ?_) | with_reducible refine c_eq ?_ ?_ (fun z2 => ?_) (fun z2 => ?_) | with_reducible refine c_ne ?_ ?_ (fun z2 => ?_) (fun z2 => ?_)
          · omega
          · omega
          · omega
          · refine s_inN ?_ (fun ea => ?_)
            · omega
            try simp only [ea]
            clear ea
            intro G1 f1
            refine s_inN ?_ (fun ea => ?_)
            · omega
            try simp only [ea]
            clear ea
            intro G2 f2
            have h2 : MbG G2 65 66 (fwM N m s.testBit (a + 1)) (fwO N m s.testBit) := by
              intro i hi
              rw [e1] at hi
              rw [e, getD_app]
              by_cases y : i < (fwM N m s.testBit a).length
              · rw [if_pos y, f2, up_q (by decide), up_i (by omega), f1, up_i (by omega), up_q (by decide)]
                exact hG i y
              · have y2 : i = (fwM N m s.testBit a).length := by omega
                rw [if_neg y, if_pos y2, f2, up_q (by decide), y2, up_s, f1, up_s]
                exact ⟨rfl, rfl⟩
            have t := next G2 (fwO N m s.testBit a) x7 (by rw [f2, f1]; exact (cG.up (by decide) (by decide)).up (by decide) (by decide)) h2
            rw [e1, show (((fwM N m s.testBit a).length + 1 : Nat) : Int) = ((fwM N m s.testBit a).length : Int) + 1 by omega] at t
            exact t
      have inner : ∀ nn b : Nat, b + nn = m → s.testBit a = true → aX1_takeMembers T (d + 2) Q X 23 [some (mx_R 62), some (mx_I (co : Int)), some (mx_I (s : Int)), some (mx_I ((fwM N m s.testBit a).length : Int)), some (mx_I (a : Int)), some (mx_J (sumN (fun b => if s.testBit b = true then N b a else 0) b)), none, some (mx_I (b : Int))] [] G (0, 0) := by
        intro nn
        induction nn with
        | zero =>
          intro b hb2 sa
          refine zX1_takeMembers_23 ?_
          rw [mm G cG, show b = m by omega]
          first | with_reducible refine c_lt ?_ ?_ (fun z => ?_) (fun z => ?_) | with_reducible refine c_le ?_ ?_ (fun z => ?_) (fun z => ?_) | with_reducible refine c_eq ?_ ?_ (fun z => ?_) (fun z => ?_) | with_reducible refine c_ne ?_ ?_ (fun z => ?_) (fun z => ?_)
          · omega
          · omega
          · exact store _ sa
          · omega
        | succ nn ih2 =>
          intro b hb2 sa
          refine zX1_takeMembers_23 ?_
          rw [mm G cG]
          have nx : ∀ v, v = (if s.testBit b = true then N b a else 0) → aX1_takeMembers T (d + 2) Q X 71 [some (mx_R 62), some (mx_I (co : Int)), some (mx_I (s : Int)), some (mx_I ((fwM N m s.testBit a).length : Int)), some (mx_I (a : Int)), some (mx_J (sumN (fun b => if s.testBit b = true then N b a else 0) b)), none, some (mx_I (b : Int))] [mx_J v, mx_J (sumN (fun b => if s.testBit b = true then N b a else 0) b)] G (0, 0) := by
            intro v hv
            refine zX1_takeMembers_71 ?_
            rw [show (b : Int) + 1 = ((b + 1 : Nat) : Int) by omega, hv]
            exact ih2 (b + 1) (by omega) sa
          first | with_reducible refine c_lt ?_ ?_ (fun z => ?_) (fun z => ?_) | with_reducible refine c_le ?_ ?_ (fun z => ?_) (fun z => ?_) | with_reducible refine c_eq ?_ ?_ (fun z => ?_) (fun z => ?_) | with_reducible refine c_ne ?_ ?_ (fun z => ?_) (fun z => ?_)
          · omega
          · omega
          · omega
          · refine sX11_holds (n := a) (by omega) ?_
            rw [zb_nat (by omega)]
            first | with_reducible refine b_eq (fun z2 => ?_) (fun z2 => ?_) | with_reducible refine b_ne (fun z2 => ?_) (fun z2 => ?_)
            · exact absurd sa z2
            · refine sX11_holds (n := b) (by omega) ?_
              rw [zb_nat (by omega)]
              first | with_reducible refine b_eq (fun z3 => ?_) (fun z3 => ?_) | with_reducible refine b_ne (fun z3 => ?_) (fun z3 => ?_)
              · exact nx 0 (by rw [if_neg z3])
              · refine sX6_net (d := d) (by omega) (by omega) hco ?_
                rw [nN G cG]
                exact nx _ (by rw [if_pos z3])
      refine zX1_takeMembers_5 ?_
      rw [mm G cG]
      first | with_reducible refine c_lt ?_ ?_ (fun z => ?_) (fun z => ?_) | with_reducible refine c_le ?_ ?_ (fun z => ?_) (fun z => ?_) | with_reducible refine c_eq ?_ ?_ (fun z => ?_) (fun z => ?_) | with_reducible refine c_ne ?_ ?_ (fun z => ?_) (fun z => ?_)
      · omega
      · omega
      · omega
      · by_cases sa : s.testBit a = true
        · exact inner m 0 (by omega) sa
        · refine zX1_takeMembers_23 ?_
          rw [mm G cG]
          first | with_reducible refine c_lt ?_ ?_ (fun z2 => ?_) (fun z2 => ?_) | with_reducible refine c_le ?_ ?_ (fun z2 => ?_) (fun z2 => ?_) | with_reducible refine c_eq ?_ ?_ (fun z2 => ?_) (fun z2 => ?_) | with_reducible refine c_ne ?_ ?_ (fun z2 => ?_) (fun z2 => ?_)
          · omega
          · omega
          · omega
          · refine sX11_holds (n := a) (by omega) ?_
            rw [zb_nat (by omega)]
            first | with_reducible refine b_eq (fun z3 => ?_) (fun z3 => ?_) | with_reducible refine b_ne (fun z3 => ?_) (fun z3 => ?_)
            · refine zX1_takeMembers_80 ?_
              have e : fwM N m s.testBit (a + 1) = fwM N m s.testBit a := if_neg (fun y => sa y.1)
              have t := fun x5 x7 => next G x5 x7 cG (by rw [e]; exact hG)
              rw [e] at t
              first | with_reducible refine l_gt ?_ ?_ (fun z4 => ?_) (fun z4 => ?_) | with_reducible refine l_lt ?_ ?_ (fun z4 => ?_) (fun z4 => ?_) | with_reducible refine l_ge ?_ ?_ (fun z4 => ?_) (fun z4 => ?_) | with_reducible refine l_le ?_ ?_ (fun z4 => ?_) (fun z4 => ?_) | with_reducible refine l_eq ?_ ?_ (fun z4 => ?_) (fun z4 => ?_) | with_reducible refine l_ne ?_ ?_ (fun z4 => ?_) (fun z4 => ?_)
              · omega
              · omega
              · exact t _ _
              · omega
            · exact absurd z3 sa
  exact main m 0 (by omega) g none none (Ch.rf g) (fun i hi => absurd hi (Nat.not_lt_zero i))
theorem sbS_bnd {n : Nat} {bal : Nat → Int} {B : Int} (hB : ∀ i, i < n → -B ≤ bal i ∧ bal i ≤ B) (h0 : 0 ≤ B) (p : Nat) : -(n * B) ≤ sbS n bal p ∧ sbS n bal p ≤ n * B := by
  have h : ∀ k, k < n → -B ≤ (if p.testBit k = true then bal k else 0) ∧ (if p.testBit k = true then bal k else 0) ≤ B := fun k hk => by
    have := hB k hk
    split <;> omega
  have u := sumN_le (c := B) (fun k hk => (h k hk).2)
  have l := sumN_ge (c := -B) (fun k hk => (h k hk).1)
  unfold sbS
  rw [Int.mul_neg] at l
  exact ⟨l, u⟩
theorem lb_lt {p : Nat} (hp : p < 512) : lb p < 512 := Nat.xor_lt_two_pow (n := 9) hp (Nat.lt_of_le_of_lt Nat.and_le_left hp)
theorem gV_sub {S : Nat → Int} {p r : Nat} (hr : gV S p r) : r &&& p = r := sub_bit.mpr (fun i hi => by
  have := sub_bit.mp hr.1 i hi
  rw [Nat.testBit_and] at this
  exact ((Bool.and_eq_true _ _).mp this).1)
theorem sX1_mostGroups {T : Nat × (Nat → Int32)} {d : Nat} {Q : mz_K} {X : mz_X} {g : mz_S} {p : Nat} {S : Nat → Int} (hp : p < 512) (h0 : p ≠ 0) (hG : GT S (g 68) p) (hS : S 0 = 0) (k : ∀ v, (∀ r, gV S p r → g 68 r + 1 ≤ v) → (∃ r, gV S p r ∧ g 68 r + 1 = v) → Q v g) : zC T (d + 2) 19 [mx_R 62, mx_I (p : Int)] g Q X := by
  obtain ⟨a, b, c, e, f, hb⟩ := lw_get hp h0
  have rng := GT_rng hG hS
  have hl := lb_lt hp
  have g0 : g 68 0 = 0 := (hG 0 (by omega)).2.1 hS rfl
  refine zX1_mostGroups ?_
  rw [e, show (p : Int) - 1 = ((p - 1 : Nat) : Int) by omega, iand_nat (by omega) (by omega)]
  have main : ∀ r : Nat, r < p → r &&& p = r → ∀ v : Int, 1 ≤ v → v ≤ 600 → (∀ r', gV S p r' → r < r' → g 68 r' + 1 ≤ v) → (∃ r', gV S p r' ∧ g 68 r' + 1 = v) → aX1_mostGroups T (d + 1) Q X 14 [some (mx_R 62), some (mx_I (p : Int)), some (mx_I (lb p : Nat)), some (mx_I v), some (mx_I (r : Int))] [] g (0, 0) := by
    intro r
    induction r using Nat.strongRecOn with
    | ind r ih =>
      intro hr hs v v1 v2 hv he
      refine zX1_mostGroups_14 ?_
      first | with_reducible refine c_lt ?_ ?_ (fun z => ?_) (fun z => ?_) | with_reducible refine c_le ?_ ?_ (fun z => ?_) (fun z => ?_) | with_reducible refine c_eq ?_ ?_ (fun z => ?_) (fun z => ?_) | with_reducible refine c_ne ?_ ?_ (fun z => ?_) (fun z => ?_)
      · omega
      · omega
      · refine k v (fun r' h' => ?_) he
        rcases Nat.lt_or_ge r r' with y | y
        · exact hv r' h' y
        · rw [show r' = 0 by omega, g0]; omega
      · have nx : ∀ w : Int, 1 ≤ w → w ≤ 600 → (∀ r', gV S p r' → r ≤ r' → g 68 r' + 1 ≤ w) → (∃ r', gV S p r' ∧ g 68 r' + 1 = w) → aX1_mostGroups T (d + 1) Q X 51 [some (mx_R 62), some (mx_I (p : Int)), some (mx_I (lb p : Nat)), some (mx_I w), some (mx_I (r : Int))] [] g (0, 0) := by
          intro w w1 w2 hw he2
          refine zX1_mostGroups_51 ?_
          rw [show (r : Int) - 1 = ((r - 1 : Nat) : Int) by omega, iand_nat (by omega) (by omega)]
          have lt : (r - 1) &&& p < r := Nat.lt_of_le_of_lt Nat.and_le_left (by omega)
          refine ih _ lt (by omega) ?_ w w1 w2 (fun r' h' h2 => ?_) he2
          · exact sub_bit.mpr (fun i hi => by rw [Nat.testBit_and] at hi; exact ((Bool.and_eq_true _ _).mp hi).2)
          · rcases Nat.lt_or_ge r' r with y | y
            · have := (sub_down 9 p r r' (by omega) (gV_sub h') hs y).1
              omega
            · exact hw r' h' y
        have al : r &&& lb p ≤ r := Nat.and_le_left
        rw [iand_nat (by omega) (by omega)]
        first | with_reducible refine c_lt ?_ ?_ (fun z2 => ?_) (fun z2 => ?_) | with_reducible refine c_le ?_ ?_ (fun z2 => ?_) (fun z2 => ?_) | with_reducible refine c_eq ?_ ?_ (fun z2 => ?_) (fun z2 => ?_) | with_reducible refine c_ne ?_ ?_ (fun z2 => ?_) (fun z2 => ?_)
        · omega
        · omega
        · refine nx v v1 v2 (fun r' h' h2 => ?_) he
          by_cases y : r' = r
          · exfalso
            rw [y] at h'
            have := (low_no hp h0 hs).mpr h'.1
            omega
          · exact hv r' h' (by omega)
        · have rv : r &&& (p &&& (p - 1)) = r := (low_no hp h0 hs).mp (by omega)
          have rr := rng r hr
          refine s_inN ?_ (fun ea => ?_)
          · omega
          try simp only [ea]
          clear ea
          first | with_reducible refine c_lt ?_ ?_ (fun z3 => ?_) (fun z3 => ?_) | with_reducible refine c_le ?_ ?_ (fun z3 => ?_) (fun z3 => ?_) | with_reducible refine c_eq ?_ ?_ (fun z3 => ?_) (fun z3 => ?_) | with_reducible refine c_ne ?_ ?_ (fun z3 => ?_) (fun z3 => ?_)
          · omega
          · omega
          · refine nx v v1 v2 (fun r' h' h2 => ?_) he
            by_cases y : r' = r
            · rw [y] at h'
              have := rr.2.2 h'.2
              omega
            · exact hv r' h' (by omega)
          · have sr : S r = 0 := Decidable.byContradiction (fun y => z3 ((hG r hr).1 y))
            refine s_inN ?_ (fun ea => ?_)
            · omega
            try simp only [ea]
            clear ea
            refine sJ9_max (by omega) (by omega) ?_
            refine nx _ (by omega) (by omega) (fun r' h' h2 => ?_) ?_
            · by_cases y : r' = r
              · rw [y]; omega
              · have := hv r' h' (by omega); omega
            · by_cases y : v ≤ g 68 r + 1
              · exact ⟨r, ⟨rv, sr⟩, by omega⟩
              · obtain ⟨q, q1, q2⟩ := he
                exact ⟨q, q1, by omega⟩
  refine main (p &&& (p - 1)) b ?_ 1 (by omega) (by omega) (fun r' h' h2 => ?_) ⟨0, ⟨Nat.zero_and _, hS⟩, by rw [g0]; rfl⟩
  · exact sub_bit.mpr (fun i hi => by rw [Nat.testBit_and] at hi; exact ((Bool.and_eq_true _ _).mp hi).1)
  · have : r' ≤ p &&& (p - 1) := by rw [← h'.1]; exact Nat.and_le_right
    omega
theorem sX1_countGroups {T : Nat × (Nat → Int32)} {d : Nat} {Q : mz_K} {X : mz_X} {g : mz_S} {n P : Nat} {bal : Nat → Int} (hn : n ≤ 9) (hP : P = 2 ^ n) (hb : ∀ i, i < n → g 66 i = bal i) (hB : ∀ i, i < n → -24000000000 ≤ bal i ∧ bal i ≤ 24000000000) (k : ∀ g', Ch [67, 68] [] g g' → (∀ q, q < P → g' 67 q = sbS n bal q) → GT (sbS n bal) (g' 68) P → Q 0 g') : zC T (d + 3) 18 [mx_R 62, mx_I ((P : Int) - 1)] g Q X := by
  have p1 : 1 ≤ P := by rw [hP]; exact Nat.two_pow_pos n
  have p2 : P ≤ 512 := by rw [hP]; exact Nat.pow_le_pow_right (n := 2) (by decide) hn
  refine zX1_countGroups ?_
  refine s_inE 0 rfl (by omega) (fun ea => ?_)
  rw [ea]
  intro g1 f1
  refine s_inE 0 rfl (by omega) (fun ea => ?_)
  try rw [ea]
  intro g2 f2
  have main : ∀ c p : Nat, p + c = P → 1 ≤ p → ∀ G o3, Ch [67, 68] [] g G → (∀ q, q < p → G 67 q = sbS n bal q) → GT (sbS n bal) (G 68) p → aX1_countGroups T (d + 2) Q X 16 [some (mx_R 62), some (mx_I ((P : Int) - 1)), some (mx_I (p : Int)), o3] [] G (0, 0) := by
    intro c
    induction c with
    | zero =>
      intro p hp h1 G o3 cG h67 hG
      refine zX1_countGroups_16 ?_
      first | with_reducible refine c_lt ?_ ?_ (fun z => ?_) (fun z => ?_) | with_reducible refine c_le ?_ ?_ (fun z => ?_) (fun z => ?_) | with_reducible refine c_eq ?_ ?_ (fun z => ?_) (fun z => ?_) | with_reducible refine c_ne ?_ ?_ (fun z => ?_) (fun z => ?_)
      · omega
      · omega
      · rw [show p = P by omega] at h67 hG
        exact k G cG h67 hG
      · omega
    | succ c ih =>
      intro p hp h1 G o3 cG h67 hG
      have h0 : p ≠ 0 := by omega
      have low := sbS_low (bal := bal) (show p < 512 by omega) h0 (by rw [← hP]; omega)
      obtain ⟨a, b, c2, e, f, hb2⟩ := lw_get (show p < 512 by omega) h0
      have bnd := sbS_bnd (B := 24000000000) hB (by omega) p
      refine zX1_countGroups_16 ?_
      first | with_reducible refine c_lt ?_ ?_ (fun z => ?_) (fun z => ?_) | with_reducible refine c_le ?_ ?_ (fun z => ?_) (fun z => ?_) | with_reducible refine c_eq ?_ ?_ (fun z => ?_) (fun z => ?_) | with_reducible refine c_ne ?_ ?_ (fun z => ?_) (fun z => ?_)
      · omega
      · omega
      · omega
      · refine sJ6_ntz (d := d + 1) (by omega) h0 ?_
        rw [show (p : Int) - 1 = ((p - 1 : Nat) : Int) by omega, iand_nat (by omega) (by omega)]
        refine s_inN ?_ (fun ea => ?_)
        · omega
        try simp only [ea]
        clear ea
        refine s_inN ?_ (fun ea => ?_)
        · omega
        try simp only [ea]
        clear ea
        refine s_inN ?_ (fun ea => ?_)
        · omega
        try simp only [ea]
        clear ea
        intro G2 e2
        have s2 : G2 67 p = sbS n bal p := by
          rw [e2, up_s, h67 _ b, cG.1 66 (by decide) (by decide), hb _ low.1]
          exact low.2.symm
        have e68 : G2 68 = G 68 := by
          rw [e2]; funext j; exact up_q (by decide)
        have cG2 : Ch [67, 68] [] g G2 := by rw [e2]; exact cG.up (by decide) (by decide)
        have nx : ∀ v x3, ((sbS n bal p ≠ 0 → v = -1) ∧ (sbS n bal p = 0 → (∀ r, gV (sbS n bal) p r → G 68 r + 1 ≤ v) ∧ ∃ r, gV (sbS n bal) p r ∧ G 68 r + 1 = v)) → aX1_countGroups T (d + 2) Q X 74 [some (mx_R 62), some (mx_I ((P : Int) - 1)), some (mx_I (p : Int)), some (mx_I x3)] [mx_I v, mx_I (p : Int), mx_R 68] G2 (0, 0) := by
          intro v x3 hv
          refine zX1_countGroups_74 ?_
          refine s_inN ?_ (fun ea => ?_)
          · omega
          try simp only [ea]
          clear ea
          intro G3 e3
          have lo : ∀ q, q < p → G 68 q = G3 68 q := fun q hq => by rw [e3, up_i (by omega), e68]
          rw [show (p : Int) + 1 = ((p + 1 : Nat) : Int) by omega]
          refine ih (p + 1) (by omega) (by omega) G3 _ (by rw [e3]; exact cG2.up (by decide) (by decide)) (fun q hq => ?_) (GT_succ (GT_cg hG lo) ⟨fun y => ?_, fun _ y => absurd y h0, fun y _ => ?_⟩)
          · rw [e3, up_q (by decide)]
            by_cases y : q = p
            · rw [y]; exact s2
            · rw [e2, up_i y]; exact h67 q (by omega)
          · rw [e3, up_s]; exact hv.1 y
          · obtain ⟨t1, r, t2, t3⟩ := hv.2 y
            have vp : G3 68 p = v := by rw [e3, up_s]
            rw [vp]
            exact ⟨fun r' h' => by rw [← lo r' (gV_lt h0 h')]; exact t1 r' h', r, t2, by rw [← lo r (gV_lt h0 t2)]; exact t3⟩
        refine s_inN ?_ (fun ea => ?_)
        · omega
        try simp only [ea]
        clear ea
        rw [s2]
        first | with_reducible refine l_gt ?_ ?_ (fun z2 => ?_) (fun z2 => ?_) | with_reducible refine l_lt ?_ ?_ (fun z2 => ?_) (fun z2 => ?_) | with_reducible refine l_ge ?_ ?_ (fun z2 => ?_) (fun z2 => ?_) | with_reducible refine l_le ?_ ?_ (fun z2 => ?_) (fun z2 => ?_) | with_reducible refine l_eq ?_ ?_ (fun z2 => ?_) (fun z2 => ?_) | with_reducible refine l_ne ?_ ?_ (fun z2 => ?_) (fun z2 => ?_)
        · omega
        · omega
        · exact nx (-1) _ ⟨fun _ => rfl, fun y => absurd y z2⟩
        · refine sX1_mostGroups (d := d) (S := sbS n bal) (by omega) h0 (by rw [e68]; exact hG) (sbS_0 n bal) (fun v v1 v2 => ?_)
          rw [e68] at v1 v2
          exact nx v _ ⟨fun y => absurd z2 y, fun _ => ⟨v1, v2⟩⟩
  refine main (P - 1) 1 (by omega) (by omega) g2 none (by rw [f2, f1]; exact ((Ch.rf g).up (by decide) (by decide)).up (by decide) (by decide)) (fun q hq => ?_) (fun q hq => ?_)
  · rw [show q = 0 by omega, f2, up_q (by decide), f1, up_s, sbS_0]
  · rw [show q = 0 by omega, sbS_0]
    exact ⟨fun y => absurd rfl y, fun _ _ => by rw [f2, up_s], fun _ y => absurd rfl y⟩
