/-! a run: the class -/
theorem dworthC_bnd {g : mz_S} (wl : WfL0 g) (wb : WfB g) {b : Nat} (hb : b < 12) : 0 ≤ dworthC g b ∧ dworthC g b ≤ 400000000 := by
  have h : ∀ c, c < 4 → 0 ≤ worthC g (g 14 (b * 4 + c)) c (g 10 b) ∧ worthC g (g 14 (b * 4 + c)) c (g 10 b) ≤ 100000000 := fun c hc => by
    have o := wb.2.2 (b * 4 + c) (by omega)
    have p1 := worthC_pos (c := c) (t := g 10 b) wl o.1
    have p2 := worthC_bnd (c := c) (t := g 10 b) wl (n := g 14 (b * 4 + c)) (B := 10000000) (by omega) (by omega)
    omega
  unfold dworthC
  have l := sumN_le (c := 100000000) (fun c hc => (h c hc).2)
  have u := sumN_ge (c := 0) (fun c hc => (h c hc).1)
  omega
def ruG (g : mz_S) (b : Nat) (k : Nat) : Int := g 3 (g 10 b * 8 + g 10 k).toNat
abbrev ruP (g : mz_S) (b : Nat) (days : Int) (k : Nat) : Prop := g 13 k = -1 ∧ 0 < claimC g b k ∧ ¬ ruG g b k = -1 ∧ ruG g b k ≤ days
theorem ruG_rng {g : mz_S} (wl : WfL0 g) (wb : WfB g) {b k : Nat} (hb : b < 12) (hk : k < 12) : -1 ≤ ruG g b k ∧ ruG g b k ≤ 9999 := by
  have ra := wb.2.1 b hb
  have rb := wb.2.1 k hk
  exact wl.2.2.2.1 (g 10 b * 8 + g 10 k).toNat (by omega)
theorem Sm8.wfG' {g g' : mz_S} (h : Sm8 g g') (w : WfG g) : WfG g' := h.wfG w
theorem sX4_comers {T : Nat × (Nat → Int32)} {d : Nat} {Q : mz_K} {X : mz_X} {g : mz_S} {b m : Nat} {days : Int} (wl : WfL g) (wb : WfB g) (w : WfG g) (em : g 9 1 = (m : Int)) (hb : b < 12) (hd : 0 ≤ days ∧ days ≤ 100) (k : ∀ g' v, Sm8 g g' → WfL g' → StP v (fun x => x < m ∧ ruP g b days x) → Q v g') : zC T (d + 5) 68 [mx_R 86, mx_I (b : Int), mx_I days] g Q X := by
  have hw := wb.1
  refine zX4_comers ?_
  have main : ∀ n t : Nat, t + n = m → ∀ G v, Sm8 g G → WfL G → StP v (fun x => x < t ∧ ruP g b days x) → aX4_comers T (d + 4) Q X 5 [some (mx_R 86), some (mx_I (b : Int)), some (mx_I days), some (mx_I v), some (mx_I (t : Int))] [] G (0, 0) := by
    intro n
    induction n with
    | zero =>
      intro t ht G v sG wG hv
      refine zX4_comers_5 ?_
      rw [sG 9 (by decide), em]
      have : t = m := by omega
      subst this
      first | with_reducible refine c_lt ?_ ?_ (fun z => ?_) (fun z => ?_) | with_reducible refine c_le ?_ ?_ (fun z => ?_) (fun z => ?_) | with_reducible refine c_eq ?_ ?_ (fun z => ?_) (fun z => ?_) | with_reducible refine c_ne ?_ ?_ (fun z => ?_) (fun z => ?_)
      · omega
      · omega
      · exact k G v sG wG hv
      · omega
    | succ n ih =>
      intro t ht G v sG wG hv
      have rt := wb.2.1 t (by omega)
      have gr := ruG_rng wl.1 wb hb (show t < 12 by omega)
      have nx : ∀ G2 v2, Sm8 g G2 → WfL G2 → StP v2 (fun x => x < t + 1 ∧ ruP g b days x) → aX4_comers T (d + 4) Q X 69 [some (mx_R 86), some (mx_I (b : Int)), some (mx_I days), some (mx_I v2), some (mx_I (t : Int))] [] G2 (0, 0) := by
        intro G2 v2 s2 w2 h2
        refine zX4_comers_69 ?_
        rw [show (t : Int) + 1 = ((t + 1 : Nat) : Int) by omega]
        exact ih (t + 1) (by omega) G2 v2 s2 w2 h2
      have no : ¬ ruP g b days t → ∀ G2, Sm8 g G2 → WfL G2 → aX4_comers T (d + 4) Q X 69 [some (mx_R 86), some (mx_I (b : Int)), some (mx_I days), some (mx_I v), some (mx_I (t : Int))] [] G2 (0, 0) := by
        intro z G2 s2 w2
        refine nx G2 v s2 w2 (hv.cg (fun i hi => ?_))
        constructor
        · rintro ⟨x1, x2⟩; exact ⟨by omega, x2⟩
        · rintro ⟨x1, x2⟩
          refine ⟨?_, x2⟩
          by_cases e : i = t
          · subst e; exact absurd x2 z
          · omega
      refine zX4_comers_5 ?_
      rw [sG 9 (by decide), em]
      first | with_reducible refine c_lt ?_ ?_ (fun z => ?_) (fun z => ?_) | with_reducible refine c_le ?_ ?_ (fun z => ?_) (fun z => ?_) | with_reducible refine c_eq ?_ ?_ (fun z => ?_) (fun z => ?_) | with_reducible refine c_ne ?_ ?_ (fun z => ?_) (fun z => ?_)
      · omega
      · omega
      · omega
      · refine sX0_hasFallen (by omega) (by rw [sG 13 (by decide), show ((t : Int)).toNat = t by omega]; omega) ?_
        rw [sG 13 (by decide), show ((t : Int)).toNat = t by omega]
        first | with_reducible refine b_eq (fun h1 => ?_) (fun h1 => ?_) | with_reducible refine b_ne (fun h1 => ?_) (fun h1 => ?_)
        · exact no (fun z => h1 z.1) G sG wG
        · refine sX6_claimOn (d := d) wG (sG.wfB wb) (sG.wfG w) hb (by omega) (fun G2 s2 w2 => ?_)
          have sg2 := sG.tr s2
          have bn := claimC_bnd wl.1 w (a := b) (b := t) hb (by omega)
          rw [sG.claim]
          first | with_reducible refine l_gt ?_ ?_ (fun h2 => ?_) (fun h2 => ?_) | with_reducible refine l_lt ?_ ?_ (fun h2 => ?_) (fun h2 => ?_) | with_reducible refine l_ge ?_ ?_ (fun h2 => ?_) (fun h2 => ?_) | with_reducible refine l_le ?_ ?_ (fun h2 => ?_) (fun h2 => ?_) | with_reducible refine l_eq ?_ ?_ (fun h2 => ?_) (fun h2 => ?_) | with_reducible refine l_ne ?_ ?_ (fun h2 => ?_) (fun h2 => ?_)
          · omega
          · omega
          · exact no (fun z => by have := z.2.1; omega) G2 sg2 w2
          · refine sX0_lagTo (d := d + 2) (sg2.wfB wb) (by omega) (by omega) ?_
            rw [sg2 3 (by decide), sg2 10 (by decide), show ((t : Int)).toNat = t by omega, show ((b : Int)).toNat = b by omega]
            show zC T (d + 4) 152 [mx_I (ruG g b t), mx_I 0, mx_I days] G2 _ X
            refine sX11_within (by omega) (by omega) (by omega) ?_
            first | with_reducible refine b_eq (fun h3 => ?_) (fun h3 => ?_) | with_reducible refine b_ne (fun h3 => ?_) (fun h3 => ?_)
            · exact no (fun z => by have := z.2.2; omega) G2 sg2 w2
            · refine nx G2 _ sg2 w2 ((hv.or (k := t) (by omega)).cg (fun i hi => ?_))
              constructor
              · rintro (⟨x1, x2⟩ | rfl)
                · exact ⟨by omega, x2⟩
                · exact ⟨by omega, Decidable.not_not.mp h1, by omega, by omega, by omega⟩
              · rintro ⟨x1, x2⟩
                by_cases e : i = t
                · exact Or.inr e
                · exact Or.inl ⟨by omega, x2⟩
  exact main m 0 (by omega) g 0 (Sm8.rf g) wl (StP.zero.cg (fun i _ => ⟨fun z => z.elim, fun z => by omega⟩))
theorem sX4_firstUnpaid {T : Nat × (Nat → Int32)} {d : Nat} {Q : mz_K} {X : mz_X} {g : mz_S} {b m D : Nat} (wl : WfL g) (wb : WfB g) (w : WfG g) (em : g 9 1 = (m : Int)) (hb : b < 12) (hd : D ≤ 100) (k : ∀ g', Sm8 g g' → WfL g' → Q (ruS (claimC g b) (ruO (ruP g b (D : Int)) (ruG g b) m 0 (D + 1)) (dworthC g b)) g') : zC T (d + 6) 69 [mx_R 86, mx_I (b : Int), mx_I (D : Int)] g Q X := by
  have hw := wb.1
  have gr : ∀ x, x < m → -1 ≤ ruG g b x ∧ ruG g b x ≤ 9999 := fun x hx => ruG_rng wl.1 wb hb (by omega)
  refine zX4_firstUnpaid (sX4_comers (d := d) wl wb w em hb (by omega) (fun G1 v1 s1 w1 h1 => ?_))
  refine sX0_drawerWorth (d := d + 2) w1 (s1.wfB wb) hb (fun G2 s2 w2 => ?_)
  rw [s1.dworth]
  have bd := dworthC_bnd wl.1 wb hb
  -- the days
  have outer : ∀ n l : Nat, l + n = D + 1 → ∀ G v left o7, Sm8 g G → WfL G → (0 ≤ left ∧ left ≤ 400000000) → StP v (fun x => x ∈ ruO (ruP g b (D : Int)) (ruG g b) m l n) → (∀ g', Sm8 g g' → WfL g' → Q (ruS (claimC g b) (ruO (ruP g b (D : Int)) (ruG g b) m l n) left) g') → aX4_firstUnpaid T (d + 5) Q X 20 [some (mx_R 86), some (mx_I (b : Int)), some (mx_I (D : Int)), some (mx_I v), some (mx_J left), none, some (mx_I (l : Int)), o7] [] G (0, 0) := by
    intro n
    induction n with
    | zero =>
      intro l hl G v left o7 sG wG hleft hv kk
      refine zX4_firstUnpaid_20 ?_
      first | with_reducible refine c_lt ?_ ?_ (fun z => ?_) (fun z => ?_) | with_reducible refine c_le ?_ ?_ (fun z => ?_) (fun z => ?_) | with_reducible refine c_eq ?_ ?_ (fun z => ?_) (fun z => ?_) | with_reducible refine c_ne ?_ ?_ (fun z => ?_) (fun z => ?_)
      · omega
      · omega
      · exact zX4_firstUnpaid_115 (kk G sG wG)
      · omega
    | succ n ih =>
      intro l hl G v left o7 sG wG hleft hv kk
      refine zX4_firstUnpaid_20 ?_
      first | with_reducible refine c_lt ?_ ?_ (fun z => ?_) (fun z => ?_) | with_reducible refine c_le ?_ ?_ (fun z => ?_) (fun z => ?_) | with_reducible refine c_eq ?_ ?_ (fun z => ?_) (fun z => ?_) | with_reducible refine c_ne ?_ ?_ (fun z => ?_) (fun z => ?_)
      · omega
      · omega
      · omega
      · rw [w32_0]
        refine ⟨fun z2 => ?_, fun z2 => ?_⟩
        · have e := hv.nz.mp z2
          have : ruO (ruP g b (D : Int)) (ruG g b) m l (n + 1) = [] := by
            refine List.eq_nil_iff_forall_not_mem.mpr (fun x hx => ?_)
            have := (ruO_mem _ _).mp hx
            exact e x (by omega) hx
          rw [this] at kk
          exact zX4_firstUnpaid_115 (kk G sG wG)
        · have inner : ∀ c t : Nat, t + c = m → ∀ G v left, Sm8 g G → WfL G → (0 ≤ left ∧ left ≤ 400000000) → StP v (fun x => x ∈ ruI (ruP g b (D : Int)) (ruG g b) l t c ++ ruO (ruP g b (D : Int)) (ruG g b) m (l + 1) n) → (∀ g', Sm8 g g' → WfL g' → Q (ruS (claimC g b) (ruI (ruP g b (D : Int)) (ruG g b) l t c ++ ruO (ruP g b (D : Int)) (ruG g b) m (l + 1) n) left) g') → aX4_firstUnpaid T (d + 5) Q X 33 [some (mx_R 86), some (mx_I (b : Int)), some (mx_I (D : Int)), some (mx_I v), some (mx_J left), none, some (mx_I (l : Int)), some (mx_I (t : Int))] [] G (0, 0) := by
            intro c
            induction c with
            | zero =>
              intro t ht G v left sG wG hleft hv kk
              refine zX4_firstUnpaid_33 ?_
              rw [sG 9 (by decide), em]
              first | with_reducible refine c_lt ?_ ?_ (fun z3 => ?_) (fun z3 => ?_) | with_reducible refine c_le ?_ ?_ (fun z3 => ?_) (fun z3 => ?_) | with_reducible refine c_eq ?_ ?_ (fun z3 => ?_) (fun z3 => ?_) | with_reducible refine c_ne ?_ ?_ (fun z3 => ?_) (fun z3 => ?_)
              · omega
              · omega
              · rw [show (l : Int) + 1 = ((l + 1 : Nat) : Int) by omega]
                exact ih (l + 1) (by omega) G v left _ sG wG hleft hv kk
              · omega
            | succ c ih2 =>
              intro t ht G v left sG wG hleft hv kk
              have ut : ruI (ruP g b (D : Int)) (ruG g b) l t (c + 1) = (if ruP g b (D : Int) t ∧ ruG g b t = (l : Int) then [t] else []) ++ ruI (ruP g b (D : Int)) (ruG g b) l (t + 1) c := rfl
              rw [ut, List.append_assoc] at kk hv
              have nin : t ∉ ruI (ruP g b (D : Int)) (ruG g b) l (t + 1) c ++ ruO (ruP g b (D : Int)) (ruG g b) m (l + 1) n ∨ ¬ ruG g b t = (l : Int) := by
                by_cases e : ruG g b t = (l : Int)
                · refine Or.inl (fun h => ?_)
                  rcases List.mem_append.mp h with y | y
                  · have := (ruI_mem _ _).mp y; omega
                  · have := (ruO_mem _ _).mp y; omega
                · exact Or.inr e
              have gt := gr t (by omega)
              refine zX4_firstUnpaid_33 ?_
              rw [sG 9 (by decide), em]
              have next : ∀ G2 v2 left2, Sm8 g G2 → WfL G2 → (0 ≤ left2 ∧ left2 ≤ 400000000) → StP v2 (fun x => x ∈ ruI (ruP g b (D : Int)) (ruG g b) l (t + 1) c ++ ruO (ruP g b (D : Int)) (ruG g b) m (l + 1) n) → (∀ g', Sm8 g g' → WfL g' → Q (ruS (claimC g b) (ruI (ruP g b (D : Int)) (ruG g b) l (t + 1) c ++ ruO (ruP g b (D : Int)) (ruG g b) m (l + 1) n) left2) g') → aX4_firstUnpaid T (d + 5) Q X 103 [some (mx_R 86), some (mx_I (b : Int)), some (mx_I (D : Int)), some (mx_I v2), some (mx_J left2), none, some (mx_I (l : Int)), some (mx_I (t : Int))] [] G2 (0, 0) := by
                intro G2 v2 left2 s2 w2 hl2 h2 k2
                refine zX4_firstUnpaid_103 ?_
                rw [show (t : Int) + 1 = ((t + 1 : Nat) : Int) by omega]
                exact ih2 (t + 1) (by omega) G2 v2 left2 s2 w2 hl2 h2 k2
              first | with_reducible refine c_lt ?_ ?_ (fun z3 => ?_) (fun z3 => ?_) | with_reducible refine c_le ?_ ?_ (fun z3 => ?_) (fun z3 => ?_) | with_reducible refine c_eq ?_ ?_ (fun z3 => ?_) (fun z3 => ?_) | with_reducible refine c_ne ?_ ?_ (fun z3 => ?_) (fun z3 => ?_)
              · omega
              · omega
              · omega
              · refine sX11_holds (n := t) (by omega) ?_
                have hvt := hv t (by omega)
                by_cases yes : ruP g b (D : Int) t ∧ ruG g b t = (l : Int)
                · rw [if_pos yes] at kk hv hvt
                  have zt : zb v t = true := hvt.mpr (by simp)
                  rw [pI_t zt]
                  refine ⟨fun z => absurd z (by decide), fun _ => ?_⟩
                  refine sX0_lagTo (d := d + 3) (sG.wfB wb) (by omega) (by omega) ?_
                  rw [sG 3 (by decide), sG 10 (by decide), show ((t : Int)).toNat = t by omega, show ((b : Int)).toNat = b by omega, show g 3 (g 10 b * 8 + g 10 t).toNat = ruG g b t from rfl]
                  first | with_reducible refine c_lt ?_ ?_ (fun z4 => ?_) (fun z4 => ?_) | with_reducible refine c_le ?_ ?_ (fun z4 => ?_) (fun z4 => ?_) | with_reducible refine c_eq ?_ ?_ (fun z4 => ?_) (fun z4 => ?_) | with_reducible refine c_ne ?_ ?_ (fun z4 => ?_) (fun z4 => ?_)
                  · omega
                  · omega
                  · exact absurd yes.2 z4
                  · refine sX6_claimOn (d := d + 1) wG (sG.wfB wb) (sG.wfG w) hb (by omega) (fun G3 s3 w3 => ?_)
                    have sg3 := sG.tr s3
                    have bn := claimC_bnd wl.1 w (a := b) (b := t) hb (by omega)
                    have bp := yes.1.2.1
                    rw [sG.claim]
                    have kk : ∀ g', Sm8 g g' → WfL g' → Q (if left - claimC g b t < 0 then (t : Int) else ruS (claimC g b) (ruI (ruP g b (D : Int)) (ruG g b) l (t + 1) c ++ ruO (ruP g b (D : Int)) (ruG g b) m (l + 1) n) (left - claimC g b t)) g' := kk
                    first | with_reducible refine l_gt ?_ ?_ (fun z5 => ?_) (fun z5 => ?_) | with_reducible refine l_lt ?_ ?_ (fun z5 => ?_) (fun z5 => ?_) | with_reducible refine l_ge ?_ ?_ (fun z5 => ?_) (fun z5 => ?_) | with_reducible refine l_le ?_ ?_ (fun z5 => ?_) (fun z5 => ?_) | with_reducible refine l_eq ?_ ?_ (fun z5 => ?_) (fun z5 => ?_) | with_reducible refine l_ne ?_ ?_ (fun z5 => ?_) (fun z5 => ?_)
                    · omega
                    · omega
                    · refine next G3 _ _ sg3 w3 (by omega) ((hv.minus (k := t) (by omega)).cg (fun i hi => ?_)) (fun g' s' w' => ?_)
                      · rw [List.singleton_append, List.mem_cons]
                        constructor
                        · rintro ⟨x1 | x1, x2⟩
                          · exact absurd x1 x2
                          · exact x1
                        · intro x1
                          refine ⟨Or.inr x1, fun e => ?_⟩
                          subst e
                          rcases nin with y | y
                          · exact y x1
                          · exact y yes.2
                      · have := kk g' s' w'
                        rw [if_neg (by omega)] at this
                        exact this
                    · have := kk G3 sg3 w3
                      rw [if_pos (by omega)] at this
                      exact this
                · rw [if_neg yes, List.nil_append] at kk hv hvt
                  by_cases zt : zb v t = true
                  · rw [pI_t zt]
                    refine ⟨fun z => absurd z (by decide), fun _ => ?_⟩
                    refine sX0_lagTo (d := d + 3) (sG.wfB wb) (by omega) (by omega) ?_
                    rw [sG 3 (by decide), sG 10 (by decide), show ((t : Int)).toNat = t by omega, show ((b : Int)).toNat = b by omega, show g 3 (g 10 b * 8 + g 10 t).toNat = ruG g b t from rfl]
                    first | with_reducible refine c_lt ?_ ?_ (fun z4 => ?_) (fun z4 => ?_) | with_reducible refine c_le ?_ ?_ (fun z4 => ?_) (fun z4 => ?_) | with_reducible refine c_eq ?_ ?_ (fun z4 => ?_) (fun z4 => ?_) | with_reducible refine c_ne ?_ ?_ (fun z4 => ?_) (fun z4 => ?_)
                    · omega
                    · omega
                    · exact next G v left sG wG hleft hv kk
                    · rcases nin with y | y
                      · exact absurd (hvt.mp zt) y
                      · exact absurd (by omega) y
                  · rw [pI_f zt]
                    exact ⟨fun _ => next G v left sG wG hleft hv kk, fun z => absurd rfl z⟩
          exact inner m 0 (by omega) G v left sG wG hleft hv kk
  refine outer (D + 1) 0 (by omega) G2 v1 _ none (s1.tr s2) w2 bd (h1.cg (fun i hi => ?_)) k
  rw [ruO_mem]
  constructor
  · rintro ⟨x1, x2⟩
    have := gr i x1
    refine ⟨x1, x2, ?_, ?_⟩ <;> omega
  · rintro ⟨x1, x2, _⟩; exact ⟨x1, x2⟩
