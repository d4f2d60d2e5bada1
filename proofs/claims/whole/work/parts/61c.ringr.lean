/-! rings: the reference -/
def RgR (g : mz_S) (B : rgR) : Prop := g 99 73 = (B.1 : Int) ∧ g 99 74 = B.2.1 ∧ ∀ i, i < B.1 → g 150 i = (B.2.2.getD i 0 : Nat)
def RwP (g : mz_S) (p : List Nat) : Prop := ∀ i, i < p.length → g 149 i = (p.getD i 0 : Nat)
theorem RgR.fr {g g' : mz_S} {B : rgR} (h : RgR g B) (c1 : g' 150 = g 150) (c2 : g' 99 73 = g 99 73) (c3 : g' 99 74 = g 99 74) : RgR g' B := by
  unfold RgR at h ⊢
  rw [c1, c2, c3]
  exact h
def NtR (g : mz_S) (N : Nat → Nat → Int) (m : Nat) : Prop := ∀ a b, a < m → b < m → g 148 (a * 12 + b) = N a b
theorem sX12_layNets {T : Nat × (Nat → Int32)} {d : Nat} {Q : mz_K} {X : mz_X} {g : mz_S} {c : mz_S} {co m : Nat} (w : WfG c) (wn : WfN c) (re : ReE c g) (h10 : g 99 10 = (m : Int)) (hm2 : m ≤ 12) (hco : co < 4) (k : ∀ g', Ch [148] [] g g' → NtR g' (fun a b => netC c a b co) m → Q 0 g') : zC T (d + 3) 289 [mx_R 99, mx_I (co : Int)] g Q X := by
  refine zX12_layNets ?_
  have inner : ∀ n a b : Nat, b + n = m → a < m → ∀ G, Ch [148] [] g G → (∀ x y, (x < a ∧ y < m) ∨ (x = a ∧ y < b) → G 148 (x * 12 + y) = netC c x y co) → (∀ G2, Ch [148] [] g G2 → (∀ x y, x < a + 1 ∧ y < m → G2 148 (x * 12 + y) = netC c x y co) → ∀ x3, aX12_layNets T (d + 2) Q X 2 [some (mx_R 99), some (mx_I (co : Int)), some (mx_I ((a + 1 : Nat) : Int)), x3] [] G2 (0, 0)) → aX12_layNets T (d + 2) Q X 12 [some (mx_R 99), some (mx_I (co : Int)), some (mx_I (a : Int)), some (mx_I (b : Int))] [] G (0, 0) := by
    intro n
    induction n with
    | zero =>
      intro a b hb ha G cG hG kk
      refine zX12_layNets_12 ?_
      rw [cG.2 10 (by decide), h10]
      first | with_reducible refine c_lt ?_ ?_ (fun z => ?_) (fun z => ?_) | with_reducible refine c_le ?_ ?_ (fun z => ?_) (fun z => ?_) | with_reducible refine c_eq ?_ ?_ (fun z => ?_) (fun z => ?_) | with_reducible refine c_ne ?_ ?_ (fun z => ?_) (fun z => ?_)
      · omega
      · omega
      · rw [show (a : Int) + 1 = ((a + 1 : Nat) : Int) by omega]
        refine kk G cG (fun x y hxy => hG x y ?_) _
        by_cases e : x = a
        · exact Or.inr ⟨e, by omega⟩
        · exact Or.inl ⟨by omega, hxy.2⟩
      · omega
    | succ n ih =>
      intro a b hb ha G cG hG kk
      refine zX12_layNets_12 ?_
      rw [cG.2 10 (by decide), h10]
      first | with_reducible refine c_lt ?_ ?_ (fun z => ?_) (fun z => ?_) | with_reducible refine c_le ?_ ?_ (fun z => ?_) (fun z => ?_) | with_reducible refine c_eq ?_ ?_ (fun z => ?_) (fun z => ?_) | with_reducible refine c_ne ?_ ?_ (fun z => ?_) (fun z => ?_)
      · omega
      · omega
      · omega
      · refine sX12_net (d := d) (c := c) w wn (re.fr cG (by decide) (by decide)) (by omega) (by omega) hco ?_
        rw [show 12 * (a : Int) + (b : Int) = ((a * 12 + b : Nat) : Int) by omega]
        refine s_inN ?_ (fun ea => ?_)
        · omega
        try simp only [ea]
        clear ea
        intro G2 e2
        rw [show (b : Int) + 1 = ((b + 1 : Nat) : Int) by omega]
        refine ih a (b + 1) (by omega) ha G2 (by rw [e2]; exact cG.up (by decide) (by decide)) (fun x y hxy => ?_) kk
        rw [e2]
        by_cases e : x = a ∧ y = b
        · rw [e.1, e.2, up_s]
        · rw [up_i (by omega)]
          exact hG x y (by omega)
  have outer : ∀ n a : Nat, a + n = m → ∀ G o3, Ch [148] [] g G → (∀ x y, x < a ∧ y < m → G 148 (x * 12 + y) = netC c x y co) → aX12_layNets T (d + 2) Q X 2 [some (mx_R 99), some (mx_I (co : Int)), some (mx_I (a : Int)), o3] [] G (0, 0) := by
    intro n
    induction n with
    | zero =>
      intro a ha G o3 cG hG
      refine zX12_layNets_2 ?_
      rw [cG.2 10 (by decide), h10]
      first | with_reducible refine c_lt ?_ ?_ (fun z => ?_) (fun z => ?_) | with_reducible refine c_le ?_ ?_ (fun z => ?_) (fun z => ?_) | with_reducible refine c_eq ?_ ?_ (fun z => ?_) (fun z => ?_) | with_reducible refine c_ne ?_ ?_ (fun z => ?_) (fun z => ?_)
      · omega
      · omega
      · exact k G cG (fun x y hx hy => hG x y ⟨by omega, hy⟩)
      · omega
    | succ n ih =>
      intro a ha G o3 cG hG
      refine zX12_layNets_2 ?_
      rw [cG.2 10 (by decide), h10]
      first | with_reducible refine c_lt ?_ ?_ (fun z => ?_) (fun z => ?_) | with_reducible refine c_le ?_ ?_ (fun z => ?_) (fun z => ?_) | with_reducible refine c_eq ?_ ?_ (fun z => ?_) (fun z => ?_) | with_reducible refine c_ne ?_ ?_ (fun z => ?_) (fun z => ?_)
      · omega
      · omega
      · omega
      · exact inner m a 0 (by omega) (by omega) G cG (fun x y hxy => hG x y (by omega)) (fun G2 c2 h2 x3 => ih (a + 1) (by omega) G2 x3 c2 h2)
  exact outer m 0 (by omega) g none (Ch.rf g) (fun x y h => absurd h.1 (Nat.not_lt_zero _))
theorem rgG_B {m : Nat} {b r : rgR} (hb : RgB m b) (hr : RgB m r) : RgB m (rgG b r) := by
  unfold rgG
  split <;> assumption
theorem foldG_B {m : Nat} : ∀ (l : List rgR) (b : rgR), RgB m b → (∀ r ∈ l, RgB m r) → RgB m (l.foldl rgG b) := by
  intro l
  induction l with
  | nil => intro b h _; exact h
  | cons r l ih => intro b h hl; exact ih _ (rgG_B h (hl r (List.mem_cons_self ..))) (fun z hz => hl z (List.mem_cons_of_mem _ hz))
theorem rndL_B {N : Nat → Nat → Int} {m : Nat} (hN : ∀ a b, a < m → b < m → N a b ≤ 2000000000) {r : rgR} : ∀ n p least, 1 ≤ p.length → p.length + n ≤ 5 → (∀ x ∈ p, x < m) → r ∈ rndL N m n p least → RgB m r := by
  intro n
  have fl : ∀ (F : Nat → List rgR) (c t : Nat), t + c ≤ m → r ∈ flF F t c → ∃ s, s < m ∧ r ∈ F s := by
    intro F c
    induction c with
    | zero => intro t _ h; exact absurd h (List.not_mem_nil)
    | succ c ih =>
      intro t ht h
      rcases List.mem_append.mp h with z | z
      · exact ⟨t, by omega, z⟩
      · exact ih (t + 1) (by omega) z
  induction n with
  | zero =>
    intro p least h1 h2 h3 h
    have h : r ∈ (if 0 < rgC N p least then [(p.length, rgC N p least, p)] else []) := h
    split at h
    · rename_i z
      rw [List.mem_singleton] at h
      have := hN (rgL p) (p.getD 0 0) (last_lt h3 h1) (getD_lt h3 (by omega))
      rw [h]
      unfold rgC at z ⊢
      exact ⟨by show p.length ≤ 5; omega, ⟨by show 0 ≤ min _ _; omega, by show min _ _ ≤ _; omega⟩, rfl, h3⟩
    · exact absurd h (List.not_mem_nil)
  | succ n ih =>
    intro p least h1 h2 h3 h
    have h : r ∈ flF _ _ _ := h
    by_cases y0 : p.getD 0 0 + 1 ≤ m
    · obtain ⟨s, hs, hr⟩ := fl _ _ _ (by omega) h
      by_cases y : rgO N p s
      · rw [if_pos y] at hr
        refine ih _ _ (by simp) (by simp; omega) (fun x hx => ?_) hr
        rcases List.mem_append.mp hx with w | w
        · exact h3 x w
        · rw [List.mem_singleton] at w; omega
      · rw [if_neg y] at hr; exact absurd hr (List.not_mem_nil)
    · rw [show m - (p.getD 0 0 + 1) = 0 by omega] at h; exact absurd h (List.not_mem_nil)
theorem sX12_rounds {T : Nat × (Nat → Int32)} {c : mz_S} {N : Nat → Nat → Int} {m many : Nat} (hN : ∀ a b, a < m → b < m → -2000000000 ≤ N a b ∧ N a b ≤ 2000000000) (h10 : c 99 10 = (m : Int)) (hn0 : NtR c N m) (hm2 : m ≤ 12) (hmany : 3 ≤ many ∧ many ≤ 5) : ∀ (n : Nat) {d : Nat} {Q : mz_K} {X : mz_X} {g : mz_S} (p : List Nat) (least : Int) (B : rgR), Ch [149, 150] [73, 74] c g → 1 ≤ p.length → p.length + n = many → (∀ x ∈ p, x < m) → (0 < least ∧ least ≤ 9223372036854775807) → RwP g p → RgR g B → RgB m B → (∀ g', Ch [149, 150] [73, 74] c g' → RwP g' p → RgR g' ((rndL N m n p least).foldl rgG B) → Q 0 g') → zC T (d + n + 2) 290 [mx_R 99, mx_I (p.length : Int), mx_I (many : Int), mx_J least] g Q X := by
  have nG : ∀ G, Ch [149, 150] [73, 74] c G → ∀ a b, a < m → b < m → G 148 (a * 12 + b) = N a b := fun G cG a b ha hb => by rw [cG.1 148 (by decide) (by decide)]; exact hn0 a b ha hb
  have mG : ∀ G, Ch [149, 150] [73, 74] c G → G 99 10 = (m : Int) := fun G cG => by rw [cG.2 10 (by decide)]; exact h10
  intro n
  induction n with
  | zero =>
    intro d Q X g p least B cg h1 hn hp hl hP hR hB k
    have l0 := getD_lt hp (i := 0) (by omega)
    have ll : rgL p < m := last_lt hp h1
    have nn := hN (rgL p) (p.getD 0 0) ll l0
    obtain ⟨b1, b2, b3, b4⟩ := hB
    refine zX12_rounds ?_
    rw [show (p.length : Int) - 1 = ((p.length - 1 : Nat) : Int) by omega]
    refine s_inN ?_ (fun ea => ?_)
    · omega
    try simp only [ea]
    clear ea
    first | with_reducible refine c_lt ?_ ?_ (fun z0 => ?_) (fun z0 => ?_) | with_reducible refine c_le ?_ ?_ (fun z0 => ?_) (fun z0 => ?_) | with_reducible refine c_eq ?_ ?_ (fun z0 => ?_) (fun z0 => ?_) | with_reducible refine c_ne ?_ ?_ (fun z0 => ?_) (fun z0 => ?_)
    · omega
    · omega
    · omega
    · refine s_inE 0 rfl (by omega) (fun ea => ?_)
      rw [ea, hP (p.length - 1) (by omega), hP 0 (by omega), show p.getD (p.length - 1) 0 = rgL p from rfl, show 12 * ((rgL p : Nat) : Int) + ((p.getD 0 0 : Nat) : Int) = ((rgL p * 12 + p.getD 0 0 : Nat) : Int) by omega]
      refine s_inN ?_ (fun ea => ?_)
      · omega
      try simp only [ea]
      clear ea
      rw [nG g cg _ _ ll l0]
      refine sJ9_minL (by omega) (by omega) ?_
      have ec : min least (N (rgL p) (p.getD 0 0)) = rgC N p least := rfl
      rw [ec]
      have rc : rgC N p least ≤ 2000000000 ∧ -2000000000 ≤ rgC N p least := by unfold rgC; omega
      have k : ∀ g', Ch [149, 150] [73, 74] c g' → RwP g' p → RgR g' ((if 0 < rgC N p least then [(p.length, rgC N p least, p)] else []).foldl rgG B) → Q 0 g' := k
      first | with_reducible refine l_gt ?_ ?_ (fun z1 => ?_) (fun z1 => ?_) | with_reducible refine l_lt ?_ ?_ (fun z1 => ?_) (fun z1 => ?_) | with_reducible refine l_ge ?_ ?_ (fun z1 => ?_) (fun z1 => ?_) | with_reducible refine l_le ?_ ?_ (fun z1 => ?_) (fun z1 => ?_) | with_reducible refine l_eq ?_ ?_ (fun z1 => ?_) (fun z1 => ?_) | with_reducible refine l_ne ?_ ?_ (fun z1 => ?_) (fun z1 => ?_)
      · omega
      · omega
      · refine zX12_rounds_64 (k g cg hP ?_)
        rw [if_neg (by omega)]
        exact hR
      · rw [if_pos (by omega)] at k
        have k : ∀ g', Ch [149, 150] [73, 74] c g' → RwP g' p → RgR g' (rgG B (p.length, rgC N p least, p)) → Q 0 g' := k
        obtain ⟨r1, r2, r3⟩ := hR
        rw [r1, r2, w32_of (n := (many : Int)) (by omega) (by omega), w32_of (n := (B.1 : Int)) (by omega) (by omega)]
        have p1 : 0 ≤ rgC N p least * (many : Int) ∧ rgC N p least * (many : Int) ≤ 10000000000 := by
          refine ⟨Int.mul_nonneg (by omega) (by omega), ?_⟩
          have : rgC N p least * (many : Int) ≤ 2000000000 * 5 := Int.mul_le_mul (by omega) (by omega) (by omega) (by omega)
          omega
        have p2 : 0 ≤ B.2.1 * (B.1 : Int) ∧ B.2.1 * (B.1 : Int) ≤ 10000000000 := by
          refine ⟨Int.mul_nonneg (by omega) (by omega), ?_⟩
          have : B.2.1 * (B.1 : Int) ≤ 2000000000 * 5 := Int.mul_le_mul (by omega) (by omega) (by omega) (by omega)
          omega
        have le : p.length = many := by omega
        first | with_reducible refine l_gt ?_ ?_ (fun z2 => ?_) (fun z2 => ?_) | with_reducible refine l_lt ?_ ?_ (fun z2 => ?_) (fun z2 => ?_) | with_reducible refine l_ge ?_ ?_ (fun z2 => ?_) (fun z2 => ?_) | with_reducible refine l_le ?_ ?_ (fun z2 => ?_) (fun z2 => ?_) | with_reducible refine l_eq ?_ ?_ (fun z2 => ?_) (fun z2 => ?_) | with_reducible refine l_ne ?_ ?_ (fun z2 => ?_) (fun z2 => ?_)
        · omega
        · omega
        · have kk : ∀ g', Ch [149, 150] [73, 74] c g' → RwP g' p → RgR g' (p.length, rgC N p least, p) → Q 0 g' := by
            intro g' x1 x2 x3
            refine k g' x1 x2 ?_
            unfold rgG
            rw [if_neg]
            · exact x3
            · show ¬ rgC N p least * (p.length : Int) ≤ B.2.1 * (B.1 : Int)
              rw [le]; omega
          intro G2 e2 G3 e3
          have c3 : Ch [149, 150] [73, 74] c G3 := by rw [e3, e2]; exact (cg.up9 (by decide)).up9 (by decide)
          have q149 : G3 149 = g 149 := by rw [e3, up_at, if_neg (by decide), e2, up_at, if_neg (by decide)]
          have q73 : G3 99 73 = (many : Int) := by rw [e3, up_s]
          have q74 : G3 99 74 = rgC N p least := by rw [e3, up_i (by decide), e2, up_s]
          have cp : ∀ n2 i : Nat, i + n2 = many → ∀ G, Ch [150] [] G3 G → (∀ j, j < i → G 150 j = (p.getD j 0 : Nat)) → aX12_rounds T (d + 0 + 1) Q X 79 [some (mx_R 99), some (mx_I (p.length : Int)), some (mx_I (many : Int)), some (mx_J least), none, some (mx_I (rgL p : Int)), some (mx_J (rgC N p least)), none, some (mx_I (i : Int))] [] G (0, 0) := by
            intro n2
            induction n2 with
            | zero =>
              intro i hi G cG hG
              refine zX12_rounds_79 ?_
              first | with_reducible refine c_lt ?_ ?_ (fun z => ?_) (fun z => ?_) | with_reducible refine c_le ?_ ?_ (fun z => ?_) (fun z => ?_) | with_reducible refine c_eq ?_ ?_ (fun z => ?_) (fun z => ?_) | with_reducible refine c_ne ?_ ?_ (fun z => ?_) (fun z => ?_)
              · omega
              · omega
              · refine kk G (c3.tr (cG.sub (by decide) (by decide))) (fun j hj => ?_) ⟨?_, ?_, fun j hj => ?_⟩
                · rw [cG.1 149 (by decide) (by decide), q149]; exact hP j hj
                · rw [cG.2 73 (by decide), q73, ← le]
                · rw [cG.2 74 (by decide), q74]
                · have hj : j < p.length := hj
                  exact hG j (by omega)
              · omega
            | succ n2 ih2 =>
              intro i hi G cG hG
              refine zX12_rounds_79 ?_
              first | with_reducible refine c_lt ?_ ?_ (fun z => ?_) (fun z => ?_) | with_reducible refine c_le ?_ ?_ (fun z => ?_) (fun z => ?_) | with_reducible refine c_eq ?_ ?_ (fun z => ?_) (fun z => ?_) | with_reducible refine c_ne ?_ ?_ (fun z => ?_) (fun z => ?_)
              · omega
              · omega
              · omega
              · refine s_inN ?_ (fun ea => ?_)
                · omega
                try simp only [ea]
                clear ea
                refine s_inN ?_ (fun ea => ?_)
                · omega
                try simp only [ea]
                clear ea
                intro G4 e4
                rw [show (i : Int) + 1 = ((i + 1 : Nat) : Int) by omega]
                refine ih2 (i + 1) (by omega) G4 (by rw [e4]; exact cG.up (by decide) (by decide)) (fun j hj => ?_)
                rw [e4]
                by_cases y : j = i
                · rw [y, up_s, cG.1 149 (by decide) (by decide), q149]
                  exact hP i (by omega)
                · rw [up_i y]
                  exact hG j (by omega)
          exact cp many 0 (by omega) G3 (Ch.rf G3) (fun j hj => absurd hj (Nat.not_lt_zero _))
        · refine zX12_rounds_64 (k g cg hP ?_)
          unfold rgG
          rw [if_pos]
          · exact ⟨r1, r2, r3⟩
          · show rgC N p least * (p.length : Int) ≤ B.2.1 * (B.1 : Int)
            rw [le]; omega
  | succ n ih =>
    intro d Q X g p least B cg h1 hn hp hl hP hR hB k
    have l0 := getD_lt hp (i := 0) (by omega)
    have ll : rgL p < m := last_lt hp h1
    refine zX12_rounds ?_
    rw [show (p.length : Int) - 1 = ((p.length - 1 : Nat) : Int) by omega]
    refine s_inN ?_ (fun ea => ?_)
    · omega
    try simp only [ea]
    clear ea
    rw [hP (p.length - 1) (by omega), show p.getD (p.length - 1) 0 = rgL p from rfl]
    first | with_reducible refine c_lt ?_ ?_ (fun z0 => ?_) (fun z0 => ?_) | with_reducible refine c_le ?_ ?_ (fun z0 => ?_) (fun z0 => ?_) | with_reducible refine c_eq ?_ ?_ (fun z0 => ?_) (fun z0 => ?_) | with_reducible refine c_ne ?_ ?_ (fun z0 => ?_) (fun z0 => ?_)
    · omega
    · omega
    · refine s_inE 0 rfl (by omega) (fun ea => ?_)
      rw [ea, hP 0 (by omega)]
      obtain ⟨F, eF⟩ : ∃ F : Nat → List rgR, F = fun to => if rgO N p to then rndL N m n (p ++ [to]) (min least (N (rgL p) to)) else [] := ⟨_, rfl⟩
      have FB : ∀ to, to < m → ∀ r ∈ F to, RgB m r := by
        intro to hto r hr
        rw [eF] at hr
        simp only [] at hr
        split at hr
        · refine rndL_B (N := N) (m := m) (fun a b ha hb => (hN a b ha hb).2) n _ _ (by simp) (by simp; omega) (fun x hx => ?_) hr
          rcases List.mem_append.mp hx with y | y
          · exact hp x y
          · rw [List.mem_singleton] at y; omega
        · exact absurd hr (List.not_mem_nil)
      have loop : ∀ c0 t : Nat, t + c0 = m → p.getD 0 0 < t → ∀ (B : rgR) G o7 o8, Ch [149, 150] [73, 74] c G → RwP G p → RgR G B → RgB m B → (∀ g', Ch [149, 150] [73, 74] c g' → RwP g' p → RgR g' ((flF F t c0).foldl rgG B) → Q 0 g') → aX12_rounds T (d + n + 2) Q X 116 [some (mx_R 99), some (mx_I (p.length : Int)), some (mx_I (many : Int)), some (mx_J least), none, some (mx_I (rgL p : Int)), some (mx_I (t : Int)), o7, o8] [] G (0, 0) := by
        intro c0
        induction c0 with
        | zero =>
          intro t ht h0t B G o7 o8 cG gP gR gB kk
          refine zX12_rounds_116 ?_
          rw [mG G cG]
          first | with_reducible refine c_lt ?_ ?_ (fun z1 => ?_) (fun z1 => ?_) | with_reducible refine c_le ?_ ?_ (fun z1 => ?_) (fun z1 => ?_) | with_reducible refine c_eq ?_ ?_ (fun z1 => ?_) (fun z1 => ?_) | with_reducible refine c_ne ?_ ?_ (fun z1 => ?_) (fun z1 => ?_)
          · omega
          · omega
          · exact kk G cG gP gR
          · omega
        | succ c0 ih2 =>
          intro t ht h0t B G o7 o8 cG gP gR gB kk
          have nt := hN (rgL p) t ll (by omega)
          have next : ∀ B2 G2 x7 x8, Ch [149, 150] [73, 74] c G2 → RwP G2 p → RgR G2 B2 → RgB m B2 → B2 = (F t).foldl rgG B → aX12_rounds T (d + n + 2) Q X 230 [some (mx_R 99), some (mx_I (p.length : Int)), some (mx_I (many : Int)), some (mx_J least), none, some (mx_I (rgL p : Int)), some (mx_I (t : Int)), some (mx_I x7), some (mx_I x8)] [] G2 (0, 0) := by
            intro B2 G2 x7 x8 c2 p2 r2 b2 e2
            refine zX12_rounds_230 ?_
            rw [show (t : Int) + 1 = ((t + 1 : Nat) : Int) by omega]
            refine ih2 (t + 1) (by omega) (by omega) B2 G2 _ _ c2 p2 r2 b2 (fun g' c' p' r' => kk g' c' p' ?_)
            show RgR g' ((F t ++ flF F (t + 1) c0).foldl rgG B)
            rw [List.foldl_append, ← e2]
            exact r'
          -- on the way?
          have onw : ∀ n2 i : Nat, i + n2 = p.length → 1 ≤ i → ∀ x7 : Int, ((x7 = 1 ∧ (0 < N (rgL p) t ∧ ∀ j, 1 ≤ j → j < i → p.getD j 0 ≠ t)) ∨ (x7 = 0 ∧ ¬ (0 < N (rgL p) t ∧ ∀ j, 1 ≤ j → j < i → p.getD j 0 ≠ t))) → aX12_rounds T (d + n + 2) Q X 153 [some (mx_R 99), some (mx_I (p.length : Int)), some (mx_I (many : Int)), some (mx_J least), none, some (mx_I (rgL p : Int)), some (mx_I (t : Int)), some (mx_I x7), some (mx_I (i : Int))] [] G (0, 0) := by
            intro n2
            induction n2 with
            | zero =>
              intro i hi h1i x7 h7
              refine zX12_rounds_153 ?_
              first | with_reducible refine c_lt ?_ ?_ (fun z1 => ?_) (fun z1 => ?_) | with_reducible refine c_le ?_ ?_ (fun z1 => ?_) (fun z1 => ?_) | with_reducible refine c_eq ?_ ?_ (fun z1 => ?_) (fun z1 => ?_) | with_reducible refine c_ne ?_ ?_ (fun z1 => ?_) (fun z1 => ?_)
              · omega
              · omega
              · refine ⟨fun y => ?_, fun y => ?_⟩
                · have ok : rgO N p t := by
                    rcases h7 with ⟨_, q⟩ | ⟨q, _⟩
                    · refine ⟨q.1, fun hm => ?_⟩
                      obtain ⟨j, hj, ej⟩ := getD_mem.mp hm
                      by_cases j0 : j = 0
                      · subst j0; omega
                      · exact q.2 j (by omega) (by omega) ej
                    · rw [q] at y; exact absurd rfl y
                  have eFt : F t = rndL N m n (p ++ [t]) (min least (N (rgL p) t)) := by rw [eF]; simp only []; rw [if_pos ok]
                  have ok1 := ok.1
                  refine s_inN ?_ (fun ea => ?_)
                  · omega
                  try simp only [ea]
                  clear ea
                  intro G3 e3
                  have c3 : Ch [149, 150] [73, 74] c G3 := by rw [e3]; exact cG.up (by decide) (by decide)
                  rw [show 12 * ((rgL p : Nat) : Int) + (t : Int) = ((rgL p * 12 + t : Nat) : Int) by omega]
                  refine s_inN ?_ (fun ea => ?_)
                  · omega
                  try simp only [ea]
                  clear ea
                  rw [nG G3 c3 _ _ ll (by omega)]
                  refine sJ9_minL (by omega) (by omega) ?_
                  have len : ((p ++ [t]).length : Int) = (p.length : Int) + 1 := by simp
                  rw [← len]
                  have p3 : RwP G3 (p ++ [t]) := by
                    intro i hi
                    rw [List.length_append] at hi
                    have e1 : [t].length = 1 := rfl
                    rw [getD_app, e3]
                    by_cases y : i < p.length
                    · rw [if_pos y, up_i (by omega)]
                      exact gP i y
                    · rw [if_neg y, if_pos (by omega), show i = p.length by omega, up_s]
                  refine ih (d := d) (p ++ [t]) _ B c3 (by simp) (by simp; omega) (fun x hx => ?_) (by omega) p3 (gR.fr (by rw [e3, up_at, if_neg (by decide)]) (by rw [e3, up_q (by decide)]) (by rw [e3, up_q (by decide)])) gB (fun g' c' p' r' => ?_)
                  · rcases List.mem_append.mp hx with y | y
                    · exact hp x y
                    · rw [List.mem_singleton] at y; omega
                  · refine next _ g' _ _ c' (fun i hi => ?_) r' (foldG_B _ _ gB (fun r hr => FB t (by omega) r (by rw [eFt]; exact hr))) (by rw [eFt])
                    have := p' i (by simp; omega)
                    rw [getD_app, if_pos hi] at this
                    exact this
                · refine next B G _ _ cG gP gR gB ?_
                  rw [eF]
                  simp only []
                  rw [if_neg]
                  · rfl
                  · rintro ⟨o1, o2⟩
                    rcases h7 with ⟨q, _⟩ | ⟨_, q⟩
                    · rw [q] at y; exact y (by decide)
                    · exact q ⟨o1, fun j h1 h2 e => o2 (getD_mem.mpr ⟨j, by omega, e⟩)⟩
              · omega
            | succ n2 ih3 =>
              intro i hi h1i x7 h7
              have hl := getD_lt hp (i := i) (by omega)
              refine zX12_rounds_153 ?_
              first | with_reducible refine c_lt ?_ ?_ (fun z1 => ?_) (fun z1 => ?_) | with_reducible refine c_le ?_ ?_ (fun z1 => ?_) (fun z1 => ?_) | with_reducible refine c_eq ?_ ?_ (fun z1 => ?_) (fun z1 => ?_) | with_reducible refine c_ne ?_ ?_ (fun z1 => ?_) (fun z1 => ?_)
              · omega
              · omega
              · omega
              · have nx : ∀ v : Int, ((v = 1 ∧ (0 < N (rgL p) t ∧ ∀ j, 1 ≤ j → j < i + 1 → p.getD j 0 ≠ t)) ∨ (v = 0 ∧ ¬ (0 < N (rgL p) t ∧ ∀ j, 1 ≤ j → j < i + 1 → p.getD j 0 ≠ t))) → aX12_rounds T (d + n + 2) Q X 181 [some (mx_R 99), some (mx_I (p.length : Int)), some (mx_I (many : Int)), some (mx_J least), none, some (mx_I (rgL p : Int)), some (mx_I (t : Int)), some (mx_I x7), some (mx_I (i : Int))] [mx_I v] G (0, 0) := by
                  intro v hv
                  refine zX12_rounds_181 ?_
                  rw [show (i : Int) + 1 = ((i + 1 : Nat) : Int) by omega]
                  exact ih3 (i + 1) (by omega) (by omega) v hv
                refine ⟨fun y => ?_, fun y => ?_⟩
                · refine zX12_rounds_180 (nx 0 (Or.inr ⟨rfl, fun q => ?_⟩))
                  rcases h7 with ⟨e, _⟩ | ⟨_, e⟩
                  · rw [e] at y; exact absurd y (by decide)
                  · exact e ⟨q.1, fun j h1 h2 => q.2 j h1 (by omega)⟩
                · have h7' : 0 < N (rgL p) t ∧ ∀ j, 1 ≤ j → j < i → p.getD j 0 ≠ t := by
                    rcases h7 with ⟨_, e⟩ | ⟨e, _⟩
                    · exact e
                    · rw [e] at y; exact absurd rfl y
                  refine s_inN ?_ (fun ea => ?_)
                  · omega
                  try simp only [ea]
                  clear ea
                  rw [gP i (by omega)]
                  first | with_reducible refine c_lt ?_ ?_ (fun z2 => ?_) (fun z2 => ?_) | with_reducible refine c_le ?_ ?_ (fun z2 => ?_) (fun z2 => ?_) | with_reducible refine c_eq ?_ ?_ (fun z2 => ?_) (fun z2 => ?_) | with_reducible refine c_ne ?_ ?_ (fun z2 => ?_) (fun z2 => ?_)
                  · omega
                  · omega
                  · refine zX12_rounds_180 (nx 0 (Or.inr ⟨rfl, fun q => q.2 i h1i (by omega) (by omega)⟩))
                  · refine nx 1 (Or.inl ⟨rfl, h7'.1, fun j h1 h2 => ?_⟩)
                    by_cases y : j = i
                    · subst y; omega
                    · exact h7'.2 j h1 (by omega)
          refine zX12_rounds_116 ?_
          rw [mG G cG]
          first | with_reducible refine c_lt ?_ ?_ (fun z1 => ?_) (fun z1 => ?_) | with_reducible refine c_le ?_ ?_ (fun z1 => ?_) (fun z1 => ?_) | with_reducible refine c_eq ?_ ?_ (fun z1 => ?_) (fun z1 => ?_) | with_reducible refine c_ne ?_ ?_ (fun z1 => ?_) (fun z1 => ?_)
          · omega
          · omega
          · omega
          · rw [show 12 * ((rgL p : Nat) : Int) + (t : Int) = ((rgL p * 12 + t : Nat) : Int) by omega]
            refine s_inN ?_ (fun ea => ?_)
            · omega
            try simp only [ea]
            clear ea
            rw [nG G cG _ _ ll (by omega)]
            first | with_reducible refine l_gt ?_ ?_ (fun z2 => ?_) (fun z2 => ?_) | with_reducible refine l_lt ?_ ?_ (fun z2 => ?_) (fun z2 => ?_) | with_reducible refine l_ge ?_ ?_ (fun z2 => ?_) (fun z2 => ?_) | with_reducible refine l_le ?_ ?_ (fun z2 => ?_) (fun z2 => ?_) | with_reducible refine l_eq ?_ ?_ (fun z2 => ?_) (fun z2 => ?_) | with_reducible refine l_ne ?_ ?_ (fun z2 => ?_) (fun z2 => ?_)
            · omega
            · omega
            · exact zX12_rounds_148 (onw (p.length - 1) 1 (by omega) (by omega) 0 (Or.inr ⟨rfl, fun q => by have := q.1; omega⟩))
            · exact zX12_rounds_148 (onw (p.length - 1) 1 (by omega) (by omega) 1 (Or.inl ⟨rfl, by omega, fun j h1 h2 => by omega⟩))
      have := loop (m - (p.getD 0 0 + 1)) (p.getD 0 0 + 1) (by omega) (by omega) B g none none cg hP hR hB (fun g2 c2 p2 r2 => k g2 c2 p2 ?_)
      · rw [show ((p.getD 0 0 : Nat) : Int) + 1 = ((p.getD 0 0 + 1 : Nat) : Int) by omega]
        exact this
      · rw [eF] at r2
        exact r2
    · omega
theorem sX12_seekRing {T : Nat × (Nat → Int32)} {d : Nat} {Q : mz_K} {X : mz_X} {g : mz_S} {c : mz_S} {co m most : Nat} (w : WfG c) (wn : WfN c) (re : ReE c g) (h10 : g 99 10 = (m : Int)) (hm2 : m ≤ 12) (hco : co < 4) (hmost : 3 ≤ most ∧ most ≤ 5) (k : ∀ g', Ch [148, 149, 150] [73, 74] g g' → RgR g' (rndM (fun a b => netC c a b co) m 9223372036854775807 3 (most - 2) (0, 0, [])) → RgB m (rndM (fun a b => netC c a b co) m 9223372036854775807 3 (most - 2) (0, 0, [])) → Q 0 g') : zC T (d + 8) 291 [mx_R 99, mx_I (co : Int), mx_I (most : Int)] g Q X := by
  have hN : ∀ a b, a < m → b < m → -2000000000 ≤ netC c a b co ∧ netC c a b co ≤ 2000000000 := fun a b ha hb => w.2.2.1 ((a * 12 + b) * 4 + co) (by omega)
  refine zX12_seekRing (sX12_layNets (d := d + 4) w wn re h10 hm2 hco (fun g1 c1 n1 => ?_))
  intro g2 e2 g3 e3
  have c3 : Ch [148, 149, 150] [73, 74] g g3 := by rw [e3, e2]; exact ((c1.sub (by decide) (by decide)).up9 (by decide)).up9 (by decide)
  have n3 : NtR g3 (fun a b => netC c a b co) m := fun a b ha hb => by rw [e3, up_q (by decide), e2, up_q (by decide)]; exact n1 a b ha hb
  have h3 : g3 99 10 = (m : Int) := by rw [c3.2 10 (by decide)]; exact h10
  have row : ∀ many, 3 ≤ many ∧ many ≤ 5 → ∀ c0 t : Nat, t + c0 = m → ∀ (B : rgR) G, Ch [149, 150] [73, 74] g3 G → RgR G B → RgB m B → (∀ g', Ch [149, 150] [73, 74] g3 g' → RgR g' ((flF (fun a => rndL (fun a b => netC c a b co) m (many - 1) [a] 9223372036854775807) t c0).foldl rgG B) → RgB m ((flF (fun a => rndL (fun a b => netC c a b co) m (many - 1) [a] 9223372036854775807) t c0).foldl rgG B) → ∀ x4, aX12_seekRing T (d + 7) Q X 17 [some (mx_R 99), some (mx_I (co : Int)), some (mx_I (most : Int)), some (mx_I ((many + 1 : Nat) : Int)), x4] [] g' (0, 0)) → aX12_seekRing T (d + 7) Q X 25 [some (mx_R 99), some (mx_I (co : Int)), some (mx_I (most : Int)), some (mx_I (many : Int)), some (mx_I (t : Int))] [] G (0, 0) := by
    intro many hmany c0
    induction c0 with
    | zero =>
      intro t ht B G cG gR gB kk
      refine zX12_seekRing_25 ?_
      rw [cG.2 10 (by decide), h3]
      first | with_reducible refine c_lt ?_ ?_ (fun z1 => ?_) (fun z1 => ?_) | with_reducible refine c_le ?_ ?_ (fun z1 => ?_) (fun z1 => ?_) | with_reducible refine c_eq ?_ ?_ (fun z1 => ?_) (fun z1 => ?_) | with_reducible refine c_ne ?_ ?_ (fun z1 => ?_) (fun z1 => ?_)
      · omega
      · omega
      · rw [show (many : Int) + 1 = ((many + 1 : Nat) : Int) by omega]
        exact kk G cG gR gB _
      · omega
    | succ c0 ih =>
      intro t ht B G cG gR gB kk
      refine zX12_seekRing_25 ?_
      rw [cG.2 10 (by decide), h3]
      first | with_reducible refine c_lt ?_ ?_ (fun z1 => ?_) (fun z1 => ?_) | with_reducible refine c_le ?_ ?_ (fun z1 => ?_) (fun z1 => ?_) | with_reducible refine c_eq ?_ ?_ (fun z1 => ?_) (fun z1 => ?_) | with_reducible refine c_ne ?_ ?_ (fun z1 => ?_) (fun z1 => ?_)
      · omega
      · omega
      · omega
      · refine s_inE 0 rfl (by omega) (fun ea => ?_)
        rw [ea]
        intro G1 f1
        have cG1 : Ch [149, 150] [73, 74] g3 G1 := by rw [f1]; exact cG.up (by decide) (by decide)
        have p1 : RwP G1 [t] := by
          intro i hi
          have : i = 0 := by simp at hi; omega
          subst this
          rw [f1, up_s]; rfl
        have mm : ∀ x ∈ [t], x < m := fun x hx => by rw [List.mem_singleton] at hx; omega
        have b1 : ∀ r ∈ rndL (fun a b => netC c a b co) m (many - 1) [t] 9223372036854775807, RgB m r := fun r hr => rndL_B (N := fun a b => netC c a b co) (m := m) (fun a b ha hb => (hN a b ha hb).2) (many - 1) [t] _ (by simp) (by simp; omega) mm hr
        refine zC_dep (show (6 - many + d) + (many - 1) + 2 = d + 7 by omega) (sX12_rounds (c := g3) (N := fun a b => netC c a b co) (m := m) (many := many) hN h3 n3 hm2 hmany (many - 1) (d := 6 - many + d) [t] 9223372036854775807 B cG1 (by simp) (by simp; omega) mm (by omega) p1 (gR.fr (by rw [f1, up_at, if_neg (by decide)]) (by rw [f1, up_q (by decide)]) (by rw [f1, up_q (by decide)])) gB (fun g' c' p' r' => ?_))
        rw [show (t : Int) + 1 = ((t + 1 : Nat) : Int) by omega]
        refine ih (t + 1) (by omega) _ g' c' r' (foldG_B _ _ gB b1) (fun g4 c4 r4 b4 => kk g4 c4 ?_ ?_)
        · show RgR g4 ((_ ++ flF _ (t + 1) c0).foldl rgG B)
          rw [List.foldl_append]
          exact r4
        · show RgB m ((_ ++ flF _ (t + 1) c0).foldl rgG B)
          rw [List.foldl_append]
          exact b4
  have col : ∀ n many : Nat, 3 ≤ many → many + n = most + 1 → ∀ (B : rgR) G x4, Ch [149, 150] [73, 74] g3 G → RgR G B → RgB m B → (∀ g', Ch [149, 150] [73, 74] g3 g' → RgR g' (rndM (fun a b => netC c a b co) m 9223372036854775807 many n B) → RgB m (rndM (fun a b => netC c a b co) m 9223372036854775807 many n B) → Q 0 g') → aX12_seekRing T (d + 7) Q X 17 [some (mx_R 99), some (mx_I (co : Int)), some (mx_I (most : Int)), some (mx_I (many : Int)), x4] [] G (0, 0) := by
    intro n
    induction n with
    | zero =>
      intro many h3m hm B G x4 cG gR gB kk
      refine zX12_seekRing_17 ?_
      first | with_reducible refine c_lt ?_ ?_ (fun z1 => ?_) (fun z1 => ?_) | with_reducible refine c_le ?_ ?_ (fun z1 => ?_) (fun z1 => ?_) | with_reducible refine c_eq ?_ ?_ (fun z1 => ?_) (fun z1 => ?_) | with_reducible refine c_ne ?_ ?_ (fun z1 => ?_) (fun z1 => ?_)
      · omega
      · omega
      · exact kk G cG gR gB
      · omega
    | succ n ih =>
      intro many h3m hm B G x4 cG gR gB kk
      refine zX12_seekRing_17 ?_
      first | with_reducible refine c_lt ?_ ?_ (fun z1 => ?_) (fun z1 => ?_) | with_reducible refine c_le ?_ ?_ (fun z1 => ?_) (fun z1 => ?_) | with_reducible refine c_eq ?_ ?_ (fun z1 => ?_) (fun z1 => ?_) | with_reducible refine c_ne ?_ ?_ (fun z1 => ?_) (fun z1 => ?_)
      · omega
      · omega
      · omega
      · exact row many ⟨by omega, by omega⟩ m 0 (by omega) B G cG gR gB (fun g' c' r' b' x4 => ih (many + 1) (by omega) (by omega) _ g' x4 c' r' b' kk)
  exact col (most - 2) 3 (by omega) (by omega) (0, 0, []) g3 none (Ch.rf g3) ⟨by rw [e3, up_i (by decide), e2, up_s]; rfl, by rw [e3, up_s], fun i hi => absurd hi (Nat.not_lt_zero _)⟩ ⟨by show 0 ≤ 5; omega, ⟨by show (0 : Int) ≤ 0; omega, by show (0 : Int) ≤ 2000000000; omega⟩, rfl, fun x hx => absurd hx (List.not_mem_nil)⟩ (fun g' c' r' b' => k g' (c3.tr (c'.sub (by decide) (by decide))) r' b')
