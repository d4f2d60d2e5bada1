/-! lags: towns that aren't there change nothing; lags with a number for far -/
def fwCL (l : Nat → Int) (N : Nat) : Prop := ∀ x y, x < 8 → y < 8 → x ≠ y → N ≤ x ∨ N ≤ y → l (x * 8 + y) = -1
theorem fwI_no {l : Nat → Int} {N fr b to : Nat} (h : fwG l) (c : fwCL l N) (hf : fr < 8) (hb : b < 8) (ht : to < 8) (ho : N ≤ fr ∨ N ≤ b ∨ N ≤ to) : fwI l fr b to = l := by
  refine if_neg (fun z => ?_)
  have d1 := h.1 b hb
  rcases Decidable.em (fr = b) with e | e
  · subst e
    omega
  · rcases Decidable.em (b = to) with e2 | e2
    · subst e2
      omega
    · rcases ho with o | o | o
      · exact z.1 (c fr b hf hb e (Or.inl o))
      · exact z.1 (c fr b hf hb e (Or.inr o))
      · exact z.2.1 (c b to hb ht e2 (Or.inr o))
theorem fwI_CL {l : Nat → Int} {N fr b to : Nat} (c : fwCL l N) (hf : fr < N) (hb : b < N) (ht : to < N) : fwCL (fwI l fr b to) N := by
  unfold fwI
  split
  · intro x y hx hy hxy ho
    rw [lset_n (by omega)]
    exact c x y hx hy hxy ho
  · exact c
theorem fwT_CL {l : Nat → Int} {N fr b n : Nat} (c : fwCL l N) (hf : fr < N) (hb : b < N) (hn : n ≤ N) : fwCL (fwT l fr b n) N := by
  induction n with
  | zero => exact c
  | succ n ih => exact fwI_CL (ih (by omega)) hf hb (by omega)
theorem fwF_CL {l : Nat → Int} {N b n : Nat} (c : fwCL l N) (hb : b < N) (hn : n ≤ N) : fwCL (fwF l b N n) N := by
  induction n with
  | zero => exact c
  | succ n ih => exact fwT_CL (ih (by omega)) (by omega) hb (Nat.le_refl _)
theorem fwB_CL {l : Nat → Int} {N n : Nat} (c : fwCL l N) (hn : n ≤ N) : fwCL (fwB l N n) N := by
  induction n with
  | zero => exact c
  | succ n ih => exact fwF_CL (ih (by omega)) (by omega) (Nat.le_refl _)
theorem fwT_no {l : Nat → Int} {N fr b : Nat} (h : fwG l) (c : fwCL l N) (hf : fr < 8) (hb : b < 8) (ho : N ≤ fr ∨ N ≤ b) : ∀ n, n ≤ 8 → fwT l fr b n = l := by
  intro n
  induction n with
  | zero => intro _; rfl
  | succ n ih =>
    intro hn
    show fwI (fwT l fr b n) fr b n = l
    rw [ih (by omega)]
    exact fwI_no h c hf hb (by omega) (by omega)
theorem fwT_cut {l : Nat → Int} {N fr b : Nat} (h : fwG l) (c : fwCL l N) (hN : N ≤ 8) (hf : fr < N) (hb : b < N) : ∀ n, N ≤ n → n ≤ 8 → fwT l fr b n = fwT l fr b N := by
  intro n
  induction n with
  | zero => intro h1 _; have : N = 0 := by omega
            rw [this]
  | succ n ih =>
    intro h1 h2
    rcases Nat.lt_or_ge n N with z | z
    · have : N = n + 1 := by omega
      rw [this]
    · show fwI (fwT l fr b n) fr b n = _
      rw [ih z (by omega)]
      exact fwI_no (fwT_G h (by omega) (by omega) hN) (fwT_CL c hf hb (Nat.le_refl _)) (by omega) (by omega) (by omega) (by omega)
theorem fwF_cut {l : Nat → Int} {N b : Nat} (h : fwG l) (c : fwCL l N) (hN : N ≤ 8) (hb : b < N) : fwF l b 8 8 = fwF l b N N := by
  have h1 : ∀ n, n ≤ N → fwF l b 8 n = fwF l b N n := by
    intro n
    induction n with
    | zero => intro _; rfl
    | succ n ih =>
      intro hn
      show fwT (fwF l b 8 n) n b 8 = fwT (fwF l b N n) n b N
      rw [ih (by omega)]
      exact fwT_cut (fwF_G h (by omega) hN (by omega)) (fwF_CL c hb (by omega)) hN (by omega) hb 8 hN (Nat.le_refl _)
  have h2 : ∀ n, N ≤ n → n ≤ 8 → fwF l b 8 n = fwF l b N N := by
    intro n
    induction n with
    | zero => intro h3 _; have : N = 0 := by omega
              subst this; rfl
    | succ n ih =>
      intro h3 h4
      rcases Nat.lt_or_ge n N with z | z
      · have : N = n + 1 := by omega
        subst this
        exact h1 _ (Nat.le_refl _)
      · show fwT (fwF l b 8 n) n b 8 = _
        rw [ih z (by omega)]
        exact fwT_no (fwF_G h (by omega) hN hN) (fwF_CL c hb (Nat.le_refl _)) (by omega) (by omega) (by omega) 8 (Nat.le_refl _)
  exact h2 8 hN (Nat.le_refl _)
theorem fwF_no {l : Nat → Int} {N b : Nat} (h : fwG l) (c : fwCL l N) (hb : b < 8) (ho : N ≤ b) : ∀ n, n ≤ 8 → fwF l b 8 n = l := by
  intro n
  induction n with
  | zero => intro _; rfl
  | succ n ih =>
    intro hn
    show fwT (fwF l b 8 n) n b 8 = l
    rw [ih (by omega)]
    exact fwT_no h c (by omega) hb (Or.inr ho) 8 (Nat.le_refl _)
theorem fwB_cut {l : Nat → Int} {N : Nat} (h : fwG l) (c : fwCL l N) (hN : N ≤ 8) : fwB l 8 8 = fwB l N N := by
  have h1 : ∀ n, n ≤ N → fwB l 8 n = fwB l N n := by
    intro n
    induction n with
    | zero => intro _; rfl
    | succ n ih =>
      intro hn
      show fwF (fwB l 8 n) n 8 8 = fwF (fwB l N n) n N N
      rw [ih (by omega)]
      exact fwF_cut (fwB_G h hN (by omega)) (fwB_CL c (by omega)) hN (by omega)
  have h2 : ∀ n, N ≤ n → n ≤ 8 → fwB l 8 n = fwB l N N := by
    intro n
    induction n with
    | zero => intro h3 _; have : N = 0 := by omega
              subst this; rfl
    | succ n ih =>
      intro h3 h4
      rcases Nat.lt_or_ge n N with z | z
      · have : N = n + 1 := by omega
        subst this
        exact h1 _ (Nat.le_refl _)
      · show fwF (fwB l 8 n) n 8 8 = _
        rw [ih z (by omega)]
        exact fwF_no (fwB_G h hN hN) (fwB_CL c (Nat.le_refl _)) (by omega) z 8 (Nat.le_refl _)
  exact h2 8 hN (Nat.le_refl _)
/-- far as a number -/
def encF (l : Nat → Int) : Nat → Int := fun i => if i < 64 ∧ l i = -1 then 1000000 else l i
theorem encF_s {l : Nat → Int} {fr b to : Nat} (h : fwG l) (u : ∀ i, i < 64 → l i ≤ 99999) (hf : fr < 8) (hb : b < 8) (ht : to < 8) : lset (encF l) (fr * 8 + to) (min (encF l (fr * 8 + to)) (encF l (fr * 8 + b) + encF l (b * 8 + to))) = encF (fwI l fr b to) := by
  have a1 := h.2 (fr * 8 + to) (by omega)
  have a2 := h.2 (fr * 8 + b) (by omega)
  have a3 := h.2 (b * 8 + to) (by omega)
  have b1 := u (fr * 8 + to) (by omega)
  have b2 := u (fr * 8 + b) (by omega)
  have b3 := u (b * 8 + to) (by omega)
  have e : ∀ x y, x < 8 → y < 8 → (l (x * 8 + y) = -1 ∧ encF l (x * 8 + y) = 1000000) ∨ (¬ l (x * 8 + y) = -1 ∧ encF l (x * 8 + y) = l (x * 8 + y)) := by
    intro x y hx hy
    unfold encF
    rcases Decidable.em (l (x * 8 + y) = -1) with z | z
    · exact Or.inl ⟨z, if_pos ⟨by omega, z⟩⟩
    · exact Or.inr ⟨z, if_neg (fun q => z q.2)⟩
  have e1 := e fr to hf ht
  have e2 := e fr b hf hb
  have e3 := e b to hb ht
  funext i
  unfold fwI
  rcases Decidable.em (fwP l fr b to) with p | p
  · rw [if_pos p]
    rcases Decidable.em (i = fr * 8 + to) with z | z
    · subst z
      rw [lset_s]
      show _ = (if fr * 8 + to < 64 ∧ lset l (fr * 8 + to) _ (fr * 8 + to) = -1 then (1000000 : Int) else lset l (fr * 8 + to) _ (fr * 8 + to))
      rw [lset_s, if_neg (by omega)]
      have := p.1
      have := p.2.1
      have := p.2.2
      omega
    · rw [lset_n z]
      unfold encF
      rw [lset_n z]
  · rw [if_neg p]
    rcases Decidable.em (i = fr * 8 + to) with z | z
    · subst z
      rw [lset_s]
      unfold fwP at p
      omega
    · rw [lset_n z]
