/-! a text more -/
def OrdC (o since : Nat → Int) (nt : Nat) : Prop := (∀ i, i < nt → 0 ≤ o i ∧ o i < nt) ∧ (∀ i j, i < j → j < nt → since (o i).toNat < since (o j).toNat ∨ (since (o i).toNat = since (o j).toNat ∧ o i < o j)) ∧ ∀ t : Nat, t < nt → ∃ i, i < nt ∧ o i = (t : Int)
/-- the order with a text more, at place p -/
def ordI (o : Nat → Int) (nt p : Nat) : Nat → Int := fun i => if i < p then o i else if i = p then (nt : Int) else if i ≤ nt then o (i - 1) else o i
theorem OrdC.ins {o since since' : Nat → Int} {nt p : Nat} {day : Int} (h : OrdC o since nt) (hp : p ≤ nt) (h1 : ∀ i, i < p → since (o i).toNat ≤ day) (h2 : ∀ i, p ≤ i → i < nt → day < since (o i).toNat) (hs : ∀ t, t < nt → since' t = since t) (hn : since' nt = day) : OrdC (ordI o nt p) since' (nt + 1) := by
  obtain ⟨a, b, c⟩ := h
  have val : ∀ i, i ≤ nt → (i < p ∧ ordI o nt p i = o i) ∨ (i = p ∧ ordI o nt p i = (nt : Int)) ∨ (p < i ∧ ordI o nt p i = o (i - 1)) := by
    intro i hi
    unfold ordI
    rcases Nat.lt_trichotomy i p with z | z | z
    · exact Or.inl ⟨z, if_pos z⟩
    · exact Or.inr (Or.inl ⟨z, by rw [if_neg (by omega), if_pos z]⟩)
    · exact Or.inr (Or.inr ⟨z, by rw [if_neg (by omega), if_neg (by omega), if_pos hi]⟩)
  have sv : ∀ i, i < nt → since' (o i).toNat = since (o i).toNat := fun i hi => hs _ (by have := a i hi; omega)
  have sn : since' ((nt : Int)).toNat = day := by rw [show ((nt : Int)).toNat = nt by omega]; exact hn
  refine ⟨fun i hi => ?_, fun i j hij hj => ?_, fun t ht => ?_⟩
  · rcases val i (by omega) with ⟨z, e⟩ | ⟨z, e⟩ | ⟨z, e⟩
    · rw [e]; have := a i (by omega); omega
    · rw [e]; omega
    · rw [e]; have := a (i - 1) (by omega); omega
  · rcases val i (by omega) with ⟨z, e⟩ | ⟨z, e⟩ | ⟨z, e⟩
    · rcases val j (by omega) with ⟨y, e'⟩ | ⟨y, e'⟩ | ⟨y, e'⟩
      · rw [e, e', sv i (by omega), sv j (by omega)]; exact b i j hij (by omega)
      · rw [e, e', sv i (by omega), sn]
        have q := h1 i z
        have q2 := a i (by omega)
        omega
      · rw [e, e', sv i (by omega), sv (j - 1) (by omega)]; exact b i (j - 1) (by omega) (by omega)
    · rcases val j (by omega) with ⟨y, e'⟩ | ⟨y, e'⟩ | ⟨y, e'⟩
      · omega
      · omega
      · rw [e, e', sn, sv (j - 1) (by omega)]
        exact Or.inl (h2 (j - 1) (by omega) (by omega))
    · rcases val j (by omega) with ⟨y, e'⟩ | ⟨y, e'⟩ | ⟨y, e'⟩
      · omega
      · omega
      · rw [e, e', sv (i - 1) (by omega), sv (j - 1) (by omega)]; exact b (i - 1) (j - 1) (by omega) (by omega)
  · rcases Nat.lt_or_ge t nt with z | z
    · obtain ⟨i, hi, e⟩ := c t z
      rcases Nat.lt_or_ge i p with y | y
      · refine ⟨i, by omega, ?_⟩
        rcases val i (by omega) with ⟨q, e'⟩ | ⟨q, e'⟩ | ⟨q, e'⟩
        · rw [e', e]
        · omega
        · omega
      · refine ⟨i + 1, by omega, ?_⟩
        rcases val (i + 1) (by omega) with ⟨q, e'⟩ | ⟨q, e'⟩ | ⟨q, e'⟩
        · omega
        · omega
        · rw [e', Nat.add_sub_cancel, e]
    · refine ⟨p, by omega, ?_⟩
      rcases val p hp with ⟨q, e'⟩ | ⟨q, e'⟩ | ⟨q, e'⟩
      · omega
      · rw [e']; omega
      · omega
theorem OrdC.cg {o o' since : Nat → Int} {n : Nat} (h : OrdC o since n) (e : ∀ i, i < n → o' i = o i) : OrdC o' since n := by
  obtain ⟨a, b, c⟩ := h
  refine ⟨fun i hi => by rw [e i hi]; exact a i hi, fun i j hij hj => by rw [e i (by omega), e j hj]; exact b i j hij hj, fun t ht => ?_⟩
  obtain ⟨i, hi, q⟩ := c t ht
  exact ⟨i, hi, by rw [e i hi]; exact q⟩
theorem sX3_addText {T : Nat × (Nat → Int32)} {d : Nat} {Q : mz_K} {X : mz_X} {g : mz_S} {nt : Nat} {x towns day : Int} (e3 : g 39 3 = nt) (hnt : nt < 6) (ho : OrdC (g 40) (g 42) nt) (hs : ∀ t, t < nt → 0 ≤ g 42 t ∧ g 42 t ≤ 999) (hd : 0 ≤ day ∧ day ≤ 999) (k : ∀ g' (p : Nat), p ≤ nt → Ch [39, 40, 41, 42, 43, 44] [] g g' → (∀ q, q ≠ 3 → g' 39 q = g 39 q) → g' 39 3 = ((nt + 1 : Nat) : Int) → (∀ i, i ≤ nt → g' 40 i = ordI (g 40) nt p i) → g' 41 = lset (g 41) nt towns → g' 42 = lset (g 42) nt day → g' 43 = lset (g 43) nt (g 31 4 - x) → g' 44 = lset (g 44) nt x → OrdC (g' 40) (g' 42) (nt + 1) → Q 0 g') : zC T (d + 1) 38 [mx_R 39, mx_I x, mx_I towns, mx_I day] g Q X := by
  refine zX3_addText ?_
  rw [e3]
  first | with_reducible refine c_lt ?_ ?_ (fun z0 => ?_) (fun z0 => ?_) | with_reducible refine c_le ?_ ?_ (fun z0 => ?_) (fun z0 => ?_) | with_reducible refine c_eq ?_ ?_ (fun z0 => ?_) (fun z0 => ?_) | with_reducible refine c_ne ?_ ?_ (fun z0 => ?_) (fun z0 => ?_)
  · omega
  · omega
  · refine s_inN ?_ (fun ea => ?_)
    · omega
    try simp only [ea]
    clear ea
    intro g1 e1
    rw [show g1 39 3 = nt by rw [e1, up_q (by decide)]; exact e3]
    refine s_inN ?_ (fun ea => ?_)
    · omega
    try simp only [ea]
    clear ea
    intro g2 e2
    rw [show g2 39 3 = nt by rw [e2, up_q (by decide), e1, up_q (by decide)]; exact e3]
    rw [show g2 31 4 = g 31 4 by rw [e2, up_q (by decide), e1, up_q (by decide)]]
    refine s_inN ?_ (fun ea => ?_)
    · omega
    try simp only [ea]
    clear ea
    intro g3 eg3
    rw [show g3 39 3 = nt by rw [eg3, up_q (by decide), e2, up_q (by decide), e1, up_q (by decide)]; exact e3]
    refine s_inN ?_ (fun ea => ?_)
    · omega
    try simp only [ea]
    clear ea
    intro g4 e4
    rw [show g4 39 3 = nt by rw [e4, up_q (by decide), eg3, up_q (by decide), e2, up_q (by decide), e1, up_q (by decide)]; exact e3]
    have c4 : Ch [41, 42, 43, 44] [] g g4 := by
      rw [e4, eg3, e2, e1]
      exact ((((Ch.rf g).up (by decide) (by decide)).up (by decide) (by decide)).up (by decide) (by decide)).up (by decide) (by decide)
    have q41 : g4 41 = lset (g 41) nt towns := by rw [e4, eg3, e2, e1]; simp [up_at]
    have q42 : g4 42 = lset (g 42) nt day := by rw [e4, eg3, e2, e1]; simp [up_at]
    have q43 : g4 43 = lset (g 43) nt (g 31 4 - x) := by rw [e4, eg3, e2, e1]; simp [up_at]
    have q44 : g4 44 = lset (g 44) nt x := by rw [e4, eg3, e2, e1]; simp [up_at]
    have q40 : g4 40 = g 40 := c4.1 40 (by decide) (by decide)
    have q39 : g4 39 = g 39 := c4.1 39 (by decide) (by decide)
    have fin : ∀ p : Nat, p ≤ nt → ∀ g' : mz_S, Ch [40] [] g4 g' → (∀ i, i < p → g' 40 i = g 40 i) → (∀ i, p < i → i ≤ nt → g' 40 i = g 40 (i - 1)) → (∀ i, p ≤ i → i < nt → day < g 42 (g 40 i).toNat) → (∀ i, i < p → g 42 (g 40 i).toNat ≤ day) → aX3_addText T d Q X 109 [some (mx_R 39), some (mx_I x), some (mx_I towns), some (mx_I day), some (mx_I (p : Int))] [] g' (0, 0) := by
      intro p hp g' hc h1 h2 h3 h4
      refine zX3_addText_109 ?_
      have f3 : g' 39 3 = nt := by rw [hc.1 39 (by decide) (by decide), q39]; exact e3
      rw [f3]
      refine s_inN ?_ (fun ea => ?_)
      · omega
      try simp only [ea]
      clear ea
      intro g5 e5
      rw [show g5 39 3 = nt by rw [e5, up_q (by decide)]; exact f3]
      intro g6 e6
      have c6 : Ch [39, 40, 41, 42, 43, 44] [] g g6 := by
        rw [e6, e5]
        exact (((c4.sub (by decide) (by decide)).tr (hc.sub (by decide) (by decide))).up (by decide) (by decide)).up (by decide) (by decide)
      have v40 : ∀ i, i ≤ nt → g6 40 i = ordI (g 40) nt p i := by
        intro i hi
        rw [e6, up_q (by decide), e5]
        unfold ordI
        rcases Nat.lt_trichotomy i p with z | z | z
        · rw [up_i (by omega), if_pos z]; exact h1 i z
        · subst z; rw [up_s, if_neg (by omega), if_pos rfl]
        · rw [up_i (by omega), if_neg (by omega), if_neg (by omega), if_pos hi]; exact h2 i z hi
      have qq : ∀ q, q ≠ 39 → q ≠ 40 → q ≠ 99 → g6 q = g4 q := fun q a b z => by
        rw [e6, up_at, if_neg a, e5, up_at, if_neg b]
        exact hc.1 q (by simp; exact b) z
      have q42' : g6 42 = lset (g 42) nt day := by rw [qq 42 (by decide) (by decide) (by decide)]; exact q42
      refine k g6 p hp c6 (fun q hq => ?_) (by rw [e6, up_s]; omega) v40 (by rw [qq 41 (by decide) (by decide) (by decide)]; exact q41) q42' (by rw [qq 43 (by decide) (by decide) (by decide)]; exact q43) (by rw [qq 44 (by decide) (by decide) (by decide)]; exact q44) ?_
      · rw [e6, up_i hq, e5, up_q (by decide), hc.1 39 (by decide) (by decide), q39]
      · have := ho.ins (since' := g6 42) (p := p) (day := day) hp h4 h3 (fun t ht => by rw [q42', lset_n (by omega)]) (by rw [q42', lset_s])
        exact this.cg (fun i hi => v40 i (by omega))
    have main : ∀ p : Nat, p ≤ nt → ∀ g' : mz_S, Ch [40] [] g4 g' → (∀ i, i < p → g' 40 i = g 40 i) → (∀ i, p < i → i ≤ nt → g' 40 i = g 40 (i - 1)) → (∀ i, p ≤ i → i < nt → day < g 42 (g 40 i).toNat) → aX3_addText T d Q X 64 [some (mx_R 39), some (mx_I x), some (mx_I towns), some (mx_I day), some (mx_I (p : Int))] [] g' (0, 0) := by
      intro p
      induction p with
      | zero =>
        intro _ g' hc h1 h2 h3
        refine zX3_addText_64 ⟨fun _ => fin 0 (by omega) g' hc h1 h2 h3 (fun i hi => by omega), fun z => absurd (by decide) z⟩
      | succ p ih =>
        intro hp g' hc h1 h2 h3
        have op := ho.1 p (by omega)
        have f40 : g' 40 p = g 40 p := h1 p (by omega)
        have f42 : g' 42 (g 40 p).toNat = g 42 (g 40 p).toNat := by rw [hc.1 42 (by decide) (by decide), q42, lset_n (by omega)]
        have sp := hs (g 40 p).toNat (by omega)
        refine zX3_addText_64 ?_
        rw [show ((p + 1 : Nat) : Int) - 1 = (p : Int) by omega]
        first | with_reducible refine c_lt ?_ ?_ (fun z1 => ?_) (fun z1 => ?_) | with_reducible refine c_le ?_ ?_ (fun z1 => ?_) (fun z1 => ?_) | with_reducible refine c_eq ?_ ?_ (fun z1 => ?_) (fun z1 => ?_) | with_reducible refine c_ne ?_ ?_ (fun z1 => ?_) (fun z1 => ?_)
        · omega
        · omega
        · omega
        · refine s_inN ?_ (fun ea => ?_)
          · omega
          try simp only [ea]
          clear ea
          rw [f40]
          refine s_in ?_ (fun ea => ?_)
          · omega
          try simp only [ea]
          clear ea
          rw [f42]
          first | with_reducible refine c_lt ?_ ?_ (fun z2 => ?_) (fun z2 => ?_) | with_reducible refine c_le ?_ ?_ (fun z2 => ?_) (fun z2 => ?_) | with_reducible refine c_eq ?_ ?_ (fun z2 => ?_) (fun z2 => ?_) | with_reducible refine c_ne ?_ ?_ (fun z2 => ?_) (fun z2 => ?_)
          · omega
          · omega
          · refine fin (p + 1) hp g' hc h1 h2 h3 (fun i hi => ?_)
            rcases Nat.lt_or_ge i p with y | y
            · have := ho.2.1 i p y (by omega)
              omega
            · rw [show i = p by omega]; exact z2
          · refine s_inN ?_ (fun ea => ?_)
            · omega
            try simp only [ea]
            clear ea
            refine s_inN ?_ (fun ea => ?_)
            · omega
            try simp only [ea]
            clear ea
            intro g5 e5
            rw [show ((p + 1 : Nat) : Int) + -1 = (p : Int) by omega]
            refine ih (by omega) g5 (by rw [e5]; exact hc.up (by decide) (by decide)) (fun i hi => ?_) (fun i hi hi2 => ?_) (fun i hi hi2 => ?_)
            · rw [e5, up_i (by omega)]; exact h1 i (by omega)
            · rw [e5]
              by_cases y : i = p + 1
              · subst y; rw [up_s, Nat.add_sub_cancel]
              · rw [up_i y]; exact h2 i (by omega) hi2
            · rcases Nat.lt_or_ge p i with y | y
              · exact h3 i y hi2
              · rw [show i = p by omega]; omega
    exact main nt (Nat.le_refl _) g4 (Ch.rf g4) (fun i _ => by rw [q40]) (fun i h1 h2 => by omega) (fun i h1 h2 => by omega)
  · omega
