/-! rings: the class -/
def RgC (g : mz_S) (B : rgR) : Prop := g 62 4 = (B.1 : Int) ∧ g 62 5 = B.2.1 ∧ ∀ i, i < B.1 → g 64 i = (B.2.2.getD i 0 : Nat)
def RgB (m : Nat) (B : rgR) : Prop := B.1 ≤ 5 ∧ (0 ≤ B.2.1 ∧ B.2.1 ≤ 2000000000) ∧ B.2.2.length = B.1 ∧ ∀ x ∈ B.2.2, x < m
def RgP (g : mz_S) (p : List Nat) : Prop := ∀ i, i < p.length → g 63 i = (p.getD i 0 : Nat)
theorem getD_lt {p : List Nat} {m i : Nat} (h : ∀ x ∈ p, x < m) (hi : i < p.length) : p.getD i 0 < m := by
  rw [List.getD_eq_getElem?_getD, List.getElem?_eq_getElem hi]
  exact h _ (List.getElem_mem hi)
theorem getD_mem {p : List Nat} {x : Nat} : x ∈ p ↔ ∃ i, i < p.length ∧ p.getD i 0 = x := by
  constructor
  · intro h
    obtain ⟨i, hi, e⟩ := List.getElem_of_mem h
    exact ⟨i, hi, by rw [List.getD_eq_getElem?_getD, List.getElem?_eq_getElem hi]; exact e⟩
  · rintro ⟨i, hi, e⟩
    rw [List.getD_eq_getElem?_getD, List.getElem?_eq_getElem hi] at e
    rw [← e]
    exact List.getElem_mem hi
theorem getD_app {p : List Nat} {x i : Nat} : (p ++ [x]).getD i 0 = if i < p.length then p.getD i 0 else if i = p.length then x else 0 := by
  rw [List.getD_eq_getElem?_getD, List.getElem?_append]
  split
  · rw [List.getD_eq_getElem?_getD]
  · split
    · rename_i h; subst h; simp
    · rw [List.getElem?_eq_none (by simp; omega)]; rfl
theorem zC_dep {T : Nat × (Nat → Int32)} {d d' m : Nat} {as : List mx_v} {g : mz_S} {Q : mz_K} {X : mz_X} (e : d = d') (h : zC T d m as g Q X) : zC T d' m as g Q X := e ▸ h
theorem sX1_isOnPath {T : Nat × (Nat → Int32)} {d : Nat} {Q : mz_K} {X : mz_X} {g : mz_S} {p : List Nat} {x : Nat} (hp : p.length ≤ 5) (h : RgP g p) (hm : ∀ y ∈ p, y < 12) (hx : x < 12) (k : Q (pI (x ∈ p)) g) : zC T (d + 1) 14 [mx_R 62, mx_I (x : Int), mx_I (p.length : Int)] g Q X := by
  refine zX1_isOnPath ?_
  have main : ∀ n i : Nat, i + n = p.length → (∀ j, j < i → p.getD j 0 ≠ x) → aX1_isOnPath T d Q X 2 [some (mx_R 62), some (mx_I (x : Int)), some (mx_I (p.length : Int)), some (mx_I (i : Int))] [] g (0, 0) := by
    intro n
    induction n with
    | zero =>
      intro i hi hj
      refine zX1_isOnPath_2 ?_
      first | with_reducible refine c_lt ?_ ?_ (fun z => ?_) (fun z => ?_) | with_reducible refine c_le ?_ ?_ (fun z => ?_) (fun z => ?_) | with_reducible refine c_eq ?_ ?_ (fun z => ?_) (fun z => ?_) | with_reducible refine c_ne ?_ ?_ (fun z => ?_) (fun z => ?_)
      · omega
      · omega
      · refine ⟨zb0, ?_⟩
        rw [pI_f] at k
        · exact k
        · rw [getD_mem]
          rintro ⟨j, h1, h2⟩
          exact hj j (by omega) h2
      · omega
    | succ n ih =>
      intro i hi hj
      have hl := getD_lt hm (i := i) (by omega)
      refine zX1_isOnPath_2 ?_
      first | with_reducible refine c_lt ?_ ?_ (fun z => ?_) (fun z => ?_) | with_reducible refine c_le ?_ ?_ (fun z => ?_) (fun z => ?_) | with_reducible refine c_eq ?_ ?_ (fun z => ?_) (fun z => ?_) | with_reducible refine c_ne ?_ ?_ (fun z => ?_) (fun z => ?_)
      · omega
      · omega
      · omega
      · refine s_inN ?_ (fun ea => ?_)
        · omega
        try simp only [ea]
        clear ea
        rw [h i (by omega)]
        first | with_reducible refine c_lt ?_ ?_ (fun z2 => ?_) (fun z2 => ?_) | with_reducible refine c_le ?_ ?_ (fun z2 => ?_) (fun z2 => ?_) | with_reducible refine c_eq ?_ ?_ (fun z2 => ?_) (fun z2 => ?_) | with_reducible refine c_ne ?_ ?_ (fun z2 => ?_) (fun z2 => ?_)
        · omega
        · omega
        · rw [show (i : Int) + 1 = ((i + 1 : Nat) : Int) by omega]
          refine ih (i + 1) (by omega) (fun j h1 => ?_)
          by_cases y : j = i
          · subst y; omega
          · exact hj j (by omega)
        · refine ⟨zb1, ?_⟩
          rw [pI_t] at k
          · exact k
          · exact getD_mem.mpr ⟨i, by omega, by omega⟩
  exact main p.length 0 (by omega) (fun j h1 => absurd h1 (Nat.not_lt_zero _))
theorem sX1_isBetter {T : Nat × (Nat → Int32)} {d : Nat} {Q : mz_K} {X : mz_X} {g : mz_S} {m : Nat} {s : Nat} {x : Int} {B : rgR} (h : RgC g B) (hB : RgB m B) (hs : s ≤ 5) (hx : 0 < x ∧ x ≤ 2000000000) (k : Q (pI (B.2.1 * (B.1 : Int) < x * (s : Int) ∨ (x * (s : Int) = B.2.1 * (B.1 : Int) ∧ s < B.1))) g) : zC T (d + 1) 13 [mx_R 62, mx_I (s : Int), mx_J x] g Q X := by
  obtain ⟨h4, h5, _⟩ := h
  obtain ⟨b1, b2, _, _⟩ := hB
  refine zX1_isBetter ?_
  rw [h4, h5, w32_of (n := (s : Int)) (by omega) (by omega), w32_of (n := (B.1 : Int)) (by omega) (by omega)]
  have p1 : 0 ≤ x * (s : Int) ∧ x * (s : Int) ≤ 10000000000 := by
    refine ⟨Int.mul_nonneg (by omega) (by omega), ?_⟩
    have : x * (s : Int) ≤ 2000000000 * 5 := Int.mul_le_mul (by omega) (by omega) (by omega) (by omega)
    omega
  have p2 : 0 ≤ B.2.1 * (B.1 : Int) ∧ B.2.1 * (B.1 : Int) ≤ 10000000000 := by
    refine ⟨Int.mul_nonneg (by omega) (by omega), ?_⟩
    have : B.2.1 * (B.1 : Int) ≤ 2000000000 * 5 := Int.mul_le_mul (by omega) (by omega) (by omega) (by omega)
    omega
  generalize x * (s : Int) = u at *
  generalize B.2.1 * (B.1 : Int) = v at *
  have yes : (v < u ∨ (u = v ∧ s < B.1)) → aX1_isBetter T d Q X 39 [some (mx_R 62), some (mx_I (s : Int)), some (mx_J x), none, some (mx_J (u - v)), none] [] g (0, 0) := by
    intro z
    refine zX1_isBetter_39 (zX1_isBetter_44 ⟨zb1, ?_⟩)
    rw [pI_t z] at k; exact k
  have no : ¬ (v < u ∨ (u = v ∧ s < B.1)) → aX1_isBetter T d Q X 43 [some (mx_R 62), some (mx_I (s : Int)), some (mx_J x), none, some (mx_J (u - v)), none] [] g (0, 0) := by
    intro z
    refine zX1_isBetter_43 (zX1_isBetter_44 ⟨zb0, ?_⟩)
    rw [pI_f z] at k; exact k
  first | with_reducible refine l_gt ?_ ?_ (fun z1 => ?_) (fun z1 => ?_) | with_reducible refine l_lt ?_ ?_ (fun z1 => ?_) (fun z1 => ?_) | with_reducible refine l_ge ?_ ?_ (fun z1 => ?_) (fun z1 => ?_) | with_reducible refine l_le ?_ ?_ (fun z1 => ?_) (fun z1 => ?_) | with_reducible refine l_eq ?_ ?_ (fun z1 => ?_) (fun z1 => ?_) | with_reducible refine l_ne ?_ ?_ (fun z1 => ?_) (fun z1 => ?_)
  · omega
  · omega
  · exact yes (by omega)
  · first | with_reducible refine l_gt ?_ ?_ (fun z2 => ?_) (fun z2 => ?_) | with_reducible refine l_lt ?_ ?_ (fun z2 => ?_) (fun z2 => ?_) | with_reducible refine l_ge ?_ ?_ (fun z2 => ?_) (fun z2 => ?_) | with_reducible refine l_le ?_ ?_ (fun z2 => ?_) (fun z2 => ?_) | with_reducible refine l_eq ?_ ?_ (fun z2 => ?_) (fun z2 => ?_) | with_reducible refine l_ne ?_ ?_ (fun z2 => ?_) (fun z2 => ?_)
    · omega
    · omega
    · exact no (by omega)
    · exact ⟨fun z3 => no (by omega), fun z3 => yes (by omega)⟩
theorem RgC.fr {g g' : mz_S} {B : rgR} (h : RgC g B) (c : ∀ q, q = 62 ∨ q = 64 → g' q = g q) : RgC g' B := by
  unfold RgC at h ⊢
  rw [c 62 (Or.inl rfl), c 64 (Or.inr rfl)]
  exact h
theorem rgF_B {m : Nat} {b r : rgR} (hb : RgB m b) (hr : RgB m r) : RgB m (rgF b r) := by
  unfold rgF
  split <;> assumption
theorem foldF_B {m : Nat} : ∀ (l : List rgR) (b : rgR), RgB m b → (∀ r ∈ l, RgB m r) → RgB m (l.foldl rgF b) := by
  intro l
  induction l with
  | nil => intro b h _; exact h
  | cons r l ih => intro b h hl; exact ih _ (rgF_B h (hl r (List.mem_cons_self ..))) (fun z hz => hl z (List.mem_cons_of_mem _ hz))
theorem last_lt {p : List Nat} {m : Nat} (h : ∀ x ∈ p, x < m) (hp : 1 ≤ p.length) : rgL p < m := getD_lt h (by omega)
theorem extL_B {N : Nat → Nat → Int} {m : Nat} (hN : ∀ a b, a < m → b < m → N a b ≤ 2000000000) {r : rgR} : ∀ n p least, 1 ≤ p.length → p.length + n ≤ 5 → (∀ x ∈ p, x < m) → r ∈ extL N m n p least → RgB m r := by
  intro n
  have hd : ∀ (p : List Nat) (least : Int), 1 ≤ p.length → p.length ≤ 5 → (∀ x ∈ p, x < m) → r ∈ (if 3 ≤ p.length ∧ 0 < rgC N p least then [(p.length, rgC N p least, p)] else []) → RgB m r := by
    intro p least h1 h2 h3 h
    split at h
    · rename_i z
      rw [List.mem_singleton] at h
      have := hN (rgL p) (p.getD 0 0) (last_lt h3 h1) (getD_lt h3 (by omega))
      have z2 := z.2
      rw [h]
      unfold rgC at z2 ⊢
      exact ⟨h2, ⟨by show 0 ≤ min _ _; omega, by show min _ _ ≤ _; omega⟩, rfl, h3⟩
    · exact absurd h (List.not_mem_nil)
  have fl : ∀ (F : Nat → List rgR) (c t : Nat), t + c ≤ m → r ∈ flF F t c → ∃ s, s < m ∧ r ∈ F s := by
    intro F c
    induction c with
    | zero => intro t _ h; exact absurd h (List.not_mem_nil)
    | succ c ih =>
      intro t ht h
      rcases List.mem_append.mp h with z | z
      · exact ⟨t, by omega, z⟩
      · exact ih (t + 1) (by omega) z
  induction n with
  | zero => intro p least h1 h2 h3 h; exact hd p least h1 (by omega) h3 h
  | succ n ih =>
    intro p least h1 h2 h3 h
    rcases List.mem_append.mp h with z | z
    · exact hd p least h1 (by omega) h3 z
    · by_cases y0 : p.getD 0 0 + 1 ≤ m
      · obtain ⟨s, hs, hr⟩ := fl _ _ _ (by omega) z
        by_cases y : rgO N p s
        · rw [if_pos y] at hr
          refine ih _ _ (by simp) (by simp; omega) (fun x hx => ?_) hr
          rcases List.mem_append.mp hx with w | w
          · exact h3 x w
          · rw [List.mem_singleton] at w; omega
        · rw [if_neg y] at hr; exact absurd hr (List.not_mem_nil)
      · rw [show m - (p.getD 0 0 + 1) = 0 by omega] at z; exact absurd z (List.not_mem_nil)
/-- the walk through all paths behind one -/
theorem sX1_extend {T : Nat × (Nat → Int32)} {c : mz_S} {co m most : Nat} (w : WfG c) (hm : c 9 1 = (m : Int)) (hm2 : m ≤ 12) (hco : co < 4) (hmost : most ≤ 5) : ∀ (n : Nat) {d : Nat} {Q : mz_K} {X : mz_X} {g : mz_S} (p : List Nat) (least : Int) (B : rgR), Ch [62, 63, 64] [] c g → 1 ≤ p.length → p.length + n = most → (∀ x ∈ p, x < m) → (0 < least ∧ least ≤ 9223372036854775807) → RgP g p → RgC g B → RgB m B → (∀ g', Ch [62, 63, 64] [] c g' → RgP g' p → RgC g' ((extL (fun a b => netC c a b co) m n p least).foldl rgF B) → Q 0 g') → zC T (d + n + 3) 12 [mx_R 62, mx_I (co : Int), mx_I (most : Int), mx_I (p.length : Int), mx_J least] g Q X := by
  have hN : ∀ a b, a < m → b < m → -2000000000 ≤ netC c a b co ∧ netC c a b co ≤ 2000000000 := fun a b ha hb => w.2.2.1 ((a * 12 + b) * 4 + co) (by omega)
  have eN : ∀ (G : mz_S), Ch [62, 63, 64] [] c G → ∀ a b, netC G a b co = netC c a b co := fun G cG a b => by unfold netC; rw [cG.1 23 (by decide) (by decide)]
  -- the head: whether the path itself is a better ring
  have head : ∀ (n : Nat) {d : Nat} {Q : mz_K} {X : mz_X} {g : mz_S} (p : List Nat) (least : Int) (B : rgR), Ch [62, 63, 64] [] c g → 1 ≤ p.length → p.length ≤ 5 → (∀ x ∈ p, x < m) → (0 < least ∧ least ≤ 9223372036854775807) → RgP g p → RgC g B → RgB m B → (∀ g', Ch [62, 63, 64] [] c g' → RgP g' p → RgC g' ((if 3 ≤ p.length ∧ 0 < rgC (fun a b => netC c a b co) p least then [(p.length, rgC (fun a b => netC c a b co) p least, p)] else []).foldl rgF B) → ∀ x7, aX1_extend T (d + 2) Q X 80 [some (mx_R 62), some (mx_I (co : Int)), some (mx_I (most : Int)), some (mx_I (p.length : Int)), some (mx_J least), none, some (mx_I (rgL p : Int)), some (mx_J x7), none, none, none, none] [] g' (0, 0)) → zC T (d + 3) 12 [mx_R 62, mx_I (co : Int), mx_I (most : Int), mx_I (p.length : Int), mx_J least] g Q X := by
    intro n d Q X g p least B cg h1 h5 hp hl hP hR hB k
    have l0 := getD_lt hp (i := 0) (by omega)
    have ll : rgL p < m := last_lt hp h1
    have nn := hN (rgL p) (p.getD 0 0) ll l0
    refine zX1_extend ?_
    rw [show (p.length : Int) - 1 = ((p.length - 1 : Nat) : Int) by omega]
    refine s_inN ?_ (fun ea => ?_)
    · omega
    try simp only [ea]
    clear ea
    refine s_inE 0 rfl (by omega) (fun ea => ?_)
    rw [ea, hP (p.length - 1) (by omega), hP 0 (by omega)]
    show zC T (d + 2) 86 [mx_R 15, mx_I (rgL p : Int), _, _] g _ X
    refine sX6_net (by omega) (by omega) hco ?_
    rw [eN g cg]
    refine sJ9_minL (by omega) (by omega) ?_
    have ec : min least (netC c (rgL p) (p.getD 0 0) co) = rgC (fun a b => netC c a b co) p least := rfl
    rw [ec]
    have rc : rgC (fun a b => netC c a b co) p least ≤ 2000000000 ∧ -2000000000 ≤ rgC (fun a b => netC c a b co) p least := by rw [← ec]; omega
    have no : ¬ (3 ≤ p.length ∧ 0 < rgC (fun a b => netC c a b co) p least) → ∀ x7, aX1_extend T (d + 2) Q X 80 [some (mx_R 62), some (mx_I (co : Int)), some (mx_I (most : Int)), some (mx_I (p.length : Int)), some (mx_J least), none, some (mx_I (rgL p : Int)), some (mx_J x7), none, none, none, none] [] g (0, 0) := by
      intro z x7
      refine k g cg hP ?_ x7
      rw [if_neg z]
      exact hR
    first | with_reducible refine c_lt ?_ ?_ (fun z1 => ?_) (fun z1 => ?_) | with_reducible refine c_le ?_ ?_ (fun z1 => ?_) (fun z1 => ?_) | with_reducible refine c_eq ?_ ?_ (fun z1 => ?_) (fun z1 => ?_) | with_reducible refine c_ne ?_ ?_ (fun z1 => ?_) (fun z1 => ?_)
    · omega
    · omega
    · exact no (by omega) _
    · first | with_reducible refine l_gt ?_ ?_ (fun z2 => ?_) (fun z2 => ?_) | with_reducible refine l_lt ?_ ?_ (fun z2 => ?_) (fun z2 => ?_) | with_reducible refine l_ge ?_ ?_ (fun z2 => ?_) (fun z2 => ?_) | with_reducible refine l_le ?_ ?_ (fun z2 => ?_) (fun z2 => ?_) | with_reducible refine l_eq ?_ ?_ (fun z2 => ?_) (fun z2 => ?_) | with_reducible refine l_ne ?_ ?_ (fun z2 => ?_) (fun z2 => ?_)
      · omega
      · omega
      · exact no (by omega) _
      · have cd : 3 ≤ p.length ∧ 0 < rgC (fun a b => netC c a b co) p least := ⟨by omega, by omega⟩
        refine sX1_isBetter hR hB h5 ⟨by omega, by omega⟩ ?_
        first | with_reducible refine b_eq (fun z3 => ?_) (fun z3 => ?_) | with_reducible refine b_ne (fun z3 => ?_) (fun z3 => ?_)
        · refine k g cg hP ?_ _
          rw [if_pos cd]
          show RgC g (rgF B _)
          unfold rgF
          rw [if_neg z3]
          exact hR
        · have wl : w32 (p.length : Int) = (p.length : Int) := w32_of (by omega) (by omega)
          rw [wl, w32_0]
          refine ⟨by omega, by omega, by omega, by omega, by omega, ?_⟩
          intro G4 e4 G5 e5 G6 e6
          simp only [show mx_at 0 = 0 by decide, zatN (n := p.length) (show p.length ≤ 2147483647 by omega)] at e4
          have c6 : Ch [62, 63, 64] [] c G6 := by
            rw [e6, e5]
            refine Ch.up (Ch.up ?_ (by decide) (by decide)) (by decide) (by decide)
            rw [e4]
            refine ⟨fun q hq h9 => ?_, fun f hf => ?_⟩
            · rw [← cg.1 q hq h9]
              funext j
              unfold mx_cpy
              rw [if_neg]
              rintro ⟨y, _⟩
              exact hq (by rw [y]; decide)
            · rw [← cg.2 f hf]
              unfold mx_cpy
              rw [if_neg]
              rintro ⟨y, _⟩
              exact absurd y (by decide)
          have q63 : G6 63 = g 63 := by
            rw [e6, up_at, if_neg (by decide), e5, up_at, if_neg (by decide), e4]
            funext j
            unfold mx_cpy
            rw [if_neg]
            rintro ⟨y, _⟩
            exact absurd y (by decide)
          have q64 : ∀ i, i < p.length → G6 64 i = g 63 i := by
            intro i hi
            rw [e6, up_q (by decide), e5, up_q (by decide), e4]
            unfold mx_cpy
            rw [if_pos ⟨rfl, by omega, by omega⟩]
            congr 1
            omega
          refine k G6 c6 (fun i hi => by rw [q63]; exact hP i hi) ?_ _
          rw [if_pos cd]
          show RgC G6 (rgF B _)
          unfold rgF
          rw [if_pos z3]
          refine ⟨by rw [e6, up_i (by decide), e5, up_s], by rw [e6, up_s], fun i hi => ?_⟩
          show G6 64 i = (p.getD i 0 : Nat)
          rw [q64 i hi, hP i hi]
  intro n
  induction n with
  | zero =>
    intro d Q X g p least B cg h1 hn hp hl hP hR hB k
    refine head 0 p least B cg h1 (by omega) hp hl hP hR hB (fun g' c' hP' hR' x7 => ?_)
    refine zX1_extend_80 ?_
    refine s_inE 0 rfl (by omega) (fun ea => ?_)
    have done : ∀ x9 o10, aX1_extend T (d + 2) Q X 168 [some (mx_R 62), some (mx_I (co : Int)), some (mx_I (most : Int)), some (mx_I (p.length : Int)), some (mx_J least), none, some (mx_I (rgL p : Int)), some (mx_J x7), none, some (mx_I x9), o10, none] [] g' (0, 0) := fun x9 o10 => zX1_extend_168 (k g' c' hP' hR')
    have l0 := getD_lt hp (i := 0) (by omega)
    rw [ea, hP' 0 (by omega)]
    refine zX1_extend_90 ?_
    rw [c'.1 9 (by decide) (by decide), hm]
    first | with_reducible refine c_lt ?_ ?_ (fun z1 => ?_) (fun z1 => ?_) | with_reducible refine c_le ?_ ?_ (fun z1 => ?_) (fun z1 => ?_) | with_reducible refine c_eq ?_ ?_ (fun z1 => ?_) (fun z1 => ?_) | with_reducible refine c_ne ?_ ?_ (fun z1 => ?_) (fun z1 => ?_)
    · omega
    · omega
    · exact done _ _
    · first | with_reducible refine c_lt ?_ ?_ (fun z2 => ?_) (fun z2 => ?_) | with_reducible refine c_le ?_ ?_ (fun z2 => ?_) (fun z2 => ?_) | with_reducible refine c_eq ?_ ?_ (fun z2 => ?_) (fun z2 => ?_) | with_reducible refine c_ne ?_ ?_ (fun z2 => ?_) (fun z2 => ?_)
      · omega
      · omega
      · exact done _ _
      · omega
  | succ n ih =>
    intro d Q X g p least B cg h1 hn hp hl hP hR hB k
    have l0 := getD_lt hp (i := 0) (by omega)
    have ll : rgL p < m := last_lt hp h1
    have hdB : ∀ r ∈ (if 3 ≤ p.length ∧ 0 < rgC (fun a b => netC c a b co) p least then [(p.length, rgC (fun a b => netC c a b co) p least, p)] else []), RgB m r := by
      intro r hr
      refine extL_B (N := fun a b => netC c a b co) (m := m) (fun a b ha hb => (hN a b ha hb).2) 0 p least h1 (by omega) hp ?_
      exact hr
    refine head (n + 1) (d := d + n + 1) p least B cg h1 (by omega) hp hl hP hR hB (fun g' c' hP' hR' x7 => ?_)
    refine zX1_extend_80 ?_
    refine s_inE 0 rfl (by omega) (fun ea => ?_)
    rw [ea, hP' 0 (by omega)]
    obtain ⟨F, eF⟩ : ∃ F : Nat → List rgR, F = fun to => if rgO (fun a b => netC c a b co) p to then extL (fun a b => netC c a b co) m n (p ++ [to]) (min least (netC c (rgL p) to co)) else [] := ⟨_, rfl⟩
    have FB : ∀ to, to < m → ∀ r ∈ F to, RgB m r := by
      intro to hto r hr
      rw [eF] at hr
      simp only [] at hr
      split at hr
      · refine extL_B (N := fun a b => netC c a b co) (m := m) (fun a b ha hb => (hN a b ha hb).2) n _ _ (by simp) (by simp; omega) (fun x hx => ?_) hr
        rcases List.mem_append.mp hx with y | y
        · exact hp x y
        · rw [List.mem_singleton] at y; omega
      · exact absurd hr (List.not_mem_nil)
    have loop : ∀ c0 t : Nat, t + c0 = m → ∀ (B : rgR) G o10, Ch [62, 63, 64] [] c G → RgP G p → RgC G B → RgB m B → (∀ g', Ch [62, 63, 64] [] c g' → RgP g' p → RgC g' ((flF F t c0).foldl rgF B) → Q 0 g') → aX1_extend T (d + n + 3) Q X 90 [some (mx_R 62), some (mx_I (co : Int)), some (mx_I (most : Int)), some (mx_I (p.length : Int)), some (mx_J least), none, some (mx_I (rgL p : Int)), some (mx_J x7), none, some (mx_I (t : Int)), o10, none] [] G (0, 0) := by
      intro c0
      induction c0 with
      | zero =>
        intro t ht B G o10 cG gP gR gB kk
        refine zX1_extend_90 ?_
        rw [cG.1 9 (by decide) (by decide), hm]
        first | with_reducible refine c_lt ?_ ?_ (fun z1 => ?_) (fun z1 => ?_) | with_reducible refine c_le ?_ ?_ (fun z1 => ?_) (fun z1 => ?_) | with_reducible refine c_eq ?_ ?_ (fun z1 => ?_) (fun z1 => ?_) | with_reducible refine c_ne ?_ ?_ (fun z1 => ?_) (fun z1 => ?_)
        · omega
        · omega
        · exact zX1_extend_168 (kk G cG gP gR)
        · omega
      | succ c0 ih2 =>
        intro t ht B G o10 cG gP gR gB kk
        have nt := hN (rgL p) t ll (by omega)
        refine zX1_extend_90 ?_
        rw [cG.1 9 (by decide) (by decide), hm]
        have next : ∀ B2 G2 x10, Ch [62, 63, 64] [] c G2 → RgP G2 p → RgC G2 B2 → RgB m B2 → B2 = (F t).foldl rgF B → aX1_extend T (d + n + 3) Q X 162 [some (mx_R 62), some (mx_I (co : Int)), some (mx_I (most : Int)), some (mx_I (p.length : Int)), some (mx_J least), none, some (mx_I (rgL p : Int)), some (mx_J x7), none, some (mx_I (t : Int)), some (mx_J x10), none] [] G2 (0, 0) := by
          intro B2 G2 x10 c2 p2 r2 b2 e2
          refine zX1_extend_162 ?_
          rw [show (t : Int) + 1 = ((t + 1 : Nat) : Int) by omega]
          refine ih2 (t + 1) (by omega) B2 G2 _ c2 p2 r2 b2 (fun g' c' p' r' => kk g' c' p' ?_)
          show RgC g' ((F t ++ flF F (t + 1) c0).foldl rgF B)
          rw [List.foldl_append, ← e2]
          exact r'
        first | with_reducible refine c_lt ?_ ?_ (fun z1 => ?_) (fun z1 => ?_) | with_reducible refine c_le ?_ ?_ (fun z1 => ?_) (fun z1 => ?_) | with_reducible refine c_eq ?_ ?_ (fun z1 => ?_) (fun z1 => ?_) | with_reducible refine c_ne ?_ ?_ (fun z1 => ?_) (fun z1 => ?_)
        · omega
        · omega
        · omega
        · first | with_reducible refine c_lt ?_ ?_ (fun z2 => ?_) (fun z2 => ?_) | with_reducible refine c_le ?_ ?_ (fun z2 => ?_) (fun z2 => ?_) | with_reducible refine c_eq ?_ ?_ (fun z2 => ?_) (fun z2 => ?_) | with_reducible refine c_ne ?_ ?_ (fun z2 => ?_) (fun z2 => ?_)
          · omega
          · omega
          · omega
          · refine sX6_net (by omega) (by omega) hco ?_
            rw [eN G cG]
            first | with_reducible refine l_gt ?_ ?_ (fun z3 => ?_) (fun z3 => ?_) | with_reducible refine l_lt ?_ ?_ (fun z3 => ?_) (fun z3 => ?_) | with_reducible refine l_ge ?_ ?_ (fun z3 => ?_) (fun z3 => ?_) | with_reducible refine l_le ?_ ?_ (fun z3 => ?_) (fun z3 => ?_) | with_reducible refine l_eq ?_ ?_ (fun z3 => ?_) (fun z3 => ?_) | with_reducible refine l_ne ?_ ?_ (fun z3 => ?_) (fun z3 => ?_)
            · omega
            · omega
            · refine next B G _ cG gP gR gB ?_
              rw [eF]
              simp only []
              rw [if_neg (fun y => by have : 0 < netC c (rgL p) t co := y.1; omega)]
              rfl
            · refine sX1_isOnPath (d := d + n + 2) (by omega) gP (fun y hy => by have := hp y hy; omega) (by omega) ?_
              first | with_reducible refine b_eq (fun z4 => ?_) (fun z4 => ?_) | with_reducible refine b_ne (fun z4 => ?_) (fun z4 => ?_)
              · refine next B G _ cG gP gR gB ?_
                rw [eF]
                simp only []
                rw [if_neg (fun y => y.2 z4)]
                rfl
              · refine s_inN ?_ (fun ea => ?_)
                · omega
                try simp only [ea]
                clear ea
                intro G3 e3
                have c3 : Ch [62, 63, 64] [] c G3 := by rw [e3]; exact cG.up (by decide) (by decide)
                refine sJ9_minL (by omega) (by omega) ?_
                have ok : rgO (fun a b => netC c a b co) p t := ⟨by show 0 < netC c (rgL p) t co; omega, z4⟩
                have eFt : F t = extL (fun a b => netC c a b co) m n (p ++ [t]) (min least (netC c (rgL p) t co)) := by rw [eF]; simp only []; rw [if_pos ok]
                have len : ((p ++ [t]).length : Int) = (p.length : Int) + 1 := by simp
                rw [← len]
                have p3 : RgP G3 (p ++ [t]) := by
                  intro i hi
                  rw [List.length_append] at hi
                  have e1 : [t].length = 1 := rfl
                  rw [getD_app, e3]
                  by_cases y : i < p.length
                  · rw [if_pos y, up_i (by omega)]
                    exact gP i y
                  · rw [if_neg y, if_pos (by omega), show i = p.length by omega, up_s]
                refine ih (d := d) (p ++ [t]) _ B c3 (by simp) (by simp; omega) (fun x hx => ?_) (by omega) p3 (gR.fr (fun q hq => by rw [e3, up_at, if_neg (by omega)])) gB (fun g' c' p' r' => ?_)
                · rcases List.mem_append.mp hx with y | y
                  · exact hp x y
                  · rw [List.mem_singleton] at y; omega
                · refine next _ g' _ c' (fun i hi => ?_) r' (foldF_B _ _ gB (fun r hr => FB t (by omega) r (by rw [eFt]; exact hr))) (by rw [eFt])
                  have := p' i (by simp; omega)
                  rw [getD_app, if_pos hi] at this
                  exact this
    have := loop (m - (p.getD 0 0 + 1)) (p.getD 0 0 + 1) (by omega) _ g' none c' hP' hR' (foldF_B _ _ hB hdB) (fun g2 c2 p2 r2 => k g2 c2 p2 ?_)
    · rw [show ((p.getD 0 0 : Nat) : Int) + 1 = ((p.getD 0 0 + 1 : Nat) : Int) by omega]
      exact this
    · show RgC g2 (((if 3 ≤ p.length ∧ 0 < rgC (fun a b => netC c a b co) p least then [(p.length, rgC (fun a b => netC c a b co) p least, p)] else []) ++ flF _ _ _).foldl rgF B)
      rw [List.foldl_append]
      rw [eF] at r2
      exact r2
theorem sX1_findRing {T : Nat × (Nat → Int32)} {d : Nat} {Q : mz_K} {X : mz_X} {g : mz_S} {co m most : Nat} (w : WfG g) (hm : g 9 1 = (m : Int)) (hm2 : m ≤ 12) (hco : co < 4) (hmost : 3 ≤ most ∧ most ≤ 5) (k : ∀ g', Ch [62, 63, 64] [] g g' → RgC g' ((extA (fun a b => netC g a b co) m most 9223372036854775807).foldl rgF (0, 0, [])) → RgB m ((extA (fun a b => netC g a b co) m most 9223372036854775807).foldl rgF (0, 0, [])) → Q 0 g') : zC T (d + 10) 11 [mx_R 62, mx_I (co : Int), mx_I (most : Int)] g Q X := by
  have hN : ∀ a b, a < m → b < m → netC g a b co ≤ 2000000000 := fun a b ha hb => (w.2.2.1 ((a * 12 + b) * 4 + co) (by omega)).2
  refine zX1_findRing ?_
  intro g1 e1 g2 e2
  have c2 : Ch [62, 63, 64] [] g g2 := by rw [e2, e1]; exact ((Ch.rf g).up (by decide) (by decide)).up (by decide) (by decide)
  have loop : ∀ c0 t : Nat, t + c0 = m → ∀ (B : rgR) G, Ch [62, 63, 64] [] g G → RgC G B → RgB m B → (∀ g', Ch [62, 63, 64] [] g g' → RgC g' ((flF (fun a => extL (fun a b => netC g a b co) m (most - 1) [a] 9223372036854775807) t c0).foldl rgF B) → RgB m ((flF (fun a => extL (fun a b => netC g a b co) m (most - 1) [a] 9223372036854775807) t c0).foldl rgF B) → Q 0 g') → aX1_findRing T (d + 9) Q X 12 [some (mx_R 62), some (mx_I (co : Int)), some (mx_I (most : Int)), some (mx_I (t : Int))] [] G (0, 0) := by
    intro c0
    induction c0 with
    | zero =>
      intro t ht B G cG gR gB kk
      refine zX1_findRing_12 ?_
      rw [cG.1 9 (by decide) (by decide), hm]
      first | with_reducible refine c_lt ?_ ?_ (fun z1 => ?_) (fun z1 => ?_) | with_reducible refine c_le ?_ ?_ (fun z1 => ?_) (fun z1 => ?_) | with_reducible refine c_eq ?_ ?_ (fun z1 => ?_) (fun z1 => ?_) | with_reducible refine c_ne ?_ ?_ (fun z1 => ?_) (fun z1 => ?_)
      · omega
      · omega
      · exact kk G cG gR gB
      · omega
    | succ c0 ih =>
      intro t ht B G cG gR gB kk
      refine zX1_findRing_12 ?_
      rw [cG.1 9 (by decide) (by decide), hm]
      first | with_reducible refine c_lt ?_ ?_ (fun z1 => ?_) (fun z1 => ?_) | with_reducible refine c_le ?_ ?_ (fun z1 => ?_) (fun z1 => ?_) | with_reducible refine c_eq ?_ ?_ (fun z1 => ?_) (fun z1 => ?_) | with_reducible refine c_ne ?_ ?_ (fun z1 => ?_) (fun z1 => ?_)
      · omega
      · omega
      · omega
      · refine s_inE 0 rfl (by omega) (fun ea => ?_)
        rw [ea]
        intro G1 f1
        have cG1 : Ch [62, 63, 64] [] g G1 := by rw [f1]; exact cG.up (by decide) (by decide)
        have p1 : RgP G1 [t] := by
          intro i hi
          have : i = 0 := by simp at hi; omega
          subst this
          rw [f1, up_s]; rfl
        have mm : ∀ x ∈ [t], x < m := fun x hx => by rw [List.mem_singleton] at hx; omega
        have b1 : ∀ r ∈ extL (fun a b => netC g a b co) m (most - 1) [t] 9223372036854775807, RgB m r := fun r hr => extL_B (N := fun a b => netC g a b co) (m := m) hN (most - 1) [t] _ (by simp) (by simp; omega) mm hr
        refine zC_dep (show (7 - most + d) + (most - 1) + 3 = d + 9 by omega) (sX1_extend (c := g) (m := m) w hm hm2 hco (by omega) (most - 1) (d := 7 - most + d) [t] 9223372036854775807 B cG1 (by simp) (by simp; omega) mm (by omega) p1 (gR.fr (fun q hq => by rw [f1, up_at, if_neg (by omega)])) gB (fun g' c' p' r' => ?_))
        rw [show (t : Int) + 1 = ((t + 1 : Nat) : Int) by omega]
        refine ih (t + 1) (by omega) _ g' c' r' (foldF_B _ _ gB b1) (fun g3 c3 r3 b3 => kk g3 c3 ?_ ?_)
        · show RgC g3 ((_ ++ flF _ (t + 1) c0).foldl rgF B)
          rw [List.foldl_append]
          exact r3
        · show RgB m ((_ ++ flF _ (t + 1) c0).foldl rgF B)
          rw [List.foldl_append]
          exact b3
  refine loop m 0 (by omega) (0, 0, []) g2 c2 ⟨by rw [e2, up_i (by decide), e1, up_s]; rfl, by rw [e2, up_s], fun i hi => absurd hi (Nat.not_lt_zero _)⟩ ⟨by show 0 ≤ 5; omega, ⟨by show (0 : Int) ≤ 0; omega, by show (0 : Int) ≤ 2000000000; omega⟩, rfl, fun x hx => absurd hx (List.not_mem_nil)⟩ k
