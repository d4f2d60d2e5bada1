/-! the class's tokens -/
theorem sX8_isLetter {T : Nat × (Nat → Int32)} {d : Nat} {Q : mz_K} {X : mz_X} {g : mz_S} {x : Int} (hx : R32 x) (k : Q (pI (97 ≤ x ∧ x ≤ 122)) g) : zC T (d + 2) 119 [mx_I x] g Q X := zX8_isLetter (sX11_within hx (by omega) (by omega) ⟨pI_01 _, k⟩)
theorem sX8_isDigit {T : Nat × (Nat → Int32)} {d : Nat} {Q : mz_K} {X : mz_X} {g : mz_S} {x : Int} (hx : R32 x) (k : Q (pI (48 ≤ x ∧ x ≤ 57)) g) : zC T (d + 2) 120 [mx_I x] g Q X := zX8_isDigit (sX11_within hx (by omega) (by omega) ⟨pI_01 _, k⟩)
def WfBy (g : mz_S) : Prop := ∀ i, i < 400 → 0 ≤ g 27 i ∧ g 27 i ≤ 255
theorem sX8_tokenEnd {T : Nat × (Nat → Int32)} {d : Nat} {Q : mz_K} {X : mz_X} {g : mz_S} {p n : Nat} (hb : WfBy g) (hp : p < n) (hn : n ≤ 400) (k : Q ((if cLt (g 27 p) = true then rnE cLt (g 27) n (p + 1) else if cDg (g 27 p) = true then rnE cDg (g 27) n (p + 1) else p + 1 : Nat) : Int) g) : zC T (d + 3) 116 [mx_R 26, mx_I (p : Int), mx_I (n : Int)] g Q X := by
  have b0 := hb p (by omega)
  have lt : cLt (g 27 p) = true → ∀ i, i ≤ n → rnE cLt (g 27) n i = rnE cLt (g 27) n (p + 1) → aX8_tokenEnd T (d + 2) Q X 16 [some (mx_R 26), some (mx_I (p : Int)), some (mx_I (n : Int)), some (mx_I (i : Int))] [] g (0, 0) := by
    intro hl
    rw [if_pos hl] at k
    refine upto (P := fun i => rnE cLt (g 27) n i = rnE cLt (g 27) n (p + 1) → aX8_tokenEnd T (d + 2) Q X 16 [some (mx_R 26), some (mx_I (p : Int)), some (mx_I (n : Int)), some (mx_I (i : Int))] [] g (0, 0)) ?_ (fun i hi ih => ?_)
    · intro e
      refine zX8_tokenEnd_16 ?_
      first | with_reducible refine c_lt ?_ ?_ (fun z => ?_) (fun z => ?_) | with_reducible refine c_le ?_ ?_ (fun z => ?_) (fun z => ?_) | with_reducible refine c_eq ?_ ?_ (fun z => ?_) (fun z => ?_) | with_reducible refine c_ne ?_ ?_ (fun z => ?_) (fun z => ?_)
      · omega
      · omega
      · refine zX8_tokenEnd_74 ?_
        rw [← e, rnE_e (fun z => absurd z.1 (Nat.lt_irrefl _))] at k
        exact k
      · omega
    · intro e
      have bi := hb i (by omega)
      refine zX8_tokenEnd_16 ?_
      first | with_reducible refine c_lt ?_ ?_ (fun z => ?_) (fun z => ?_) | with_reducible refine c_le ?_ ?_ (fun z => ?_) (fun z => ?_) | with_reducible refine c_eq ?_ ?_ (fun z => ?_) (fun z => ?_) | with_reducible refine c_ne ?_ ?_ (fun z => ?_) (fun z => ?_)
      · omega
      · omega
      · omega
      · refine s_inN ?_ (fun ea => ?_)
        · omega
        try simp only [ea]
        clear ea
        refine sX8_isLetter (by omega) ?_
        first | with_reducible refine b_eq (fun z2 => ?_) (fun z2 => ?_) | with_reducible refine b_ne (fun z2 => ?_) (fun z2 => ?_)
        · refine zX8_tokenEnd_74 ?_
          rw [← e, rnE_e (fun z => z2 (by have := z.2; unfold cLt at this; exact of_decide_eq_true this))] at k
          exact k
        · rw [show (i : Int) + 1 = ((i + 1 : Nat) : Int) by omega]
          refine ih ?_
          rw [← e, rnE_s hi (by unfold cLt; exact decide_eq_true z2)]
  have dg : ¬ cLt (g 27 p) = true → cDg (g 27 p) = true → ∀ i, i ≤ n → rnE cDg (g 27) n i = rnE cDg (g 27) n (p + 1) → aX8_tokenEnd T (d + 2) Q X 51 [some (mx_R 26), some (mx_I (p : Int)), some (mx_I (n : Int)), some (mx_I (i : Int))] [] g (0, 0) := by
    intro hl hl2
    rw [if_neg hl, if_pos hl2] at k
    refine upto (P := fun i => rnE cDg (g 27) n i = rnE cDg (g 27) n (p + 1) → aX8_tokenEnd T (d + 2) Q X 51 [some (mx_R 26), some (mx_I (p : Int)), some (mx_I (n : Int)), some (mx_I (i : Int))] [] g (0, 0)) ?_ (fun i hi ih => ?_)
    · intro e
      refine zX8_tokenEnd_51 ?_
      first | with_reducible refine c_lt ?_ ?_ (fun z => ?_) (fun z => ?_) | with_reducible refine c_le ?_ ?_ (fun z => ?_) (fun z => ?_) | with_reducible refine c_eq ?_ ?_ (fun z => ?_) (fun z => ?_) | with_reducible refine c_ne ?_ ?_ (fun z => ?_) (fun z => ?_)
      · omega
      · omega
      · refine zX8_tokenEnd_74 ?_
        rw [← e, rnE_e (fun z => absurd z.1 (Nat.lt_irrefl _))] at k
        exact k
      · omega
    · intro e
      have bi := hb i (by omega)
      refine zX8_tokenEnd_51 ?_
      first | with_reducible refine c_lt ?_ ?_ (fun z => ?_) (fun z => ?_) | with_reducible refine c_le ?_ ?_ (fun z => ?_) (fun z => ?_) | with_reducible refine c_eq ?_ ?_ (fun z => ?_) (fun z => ?_) | with_reducible refine c_ne ?_ ?_ (fun z => ?_) (fun z => ?_)
      · omega
      · omega
      · omega
      · refine s_inN ?_ (fun ea => ?_)
        · omega
        try simp only [ea]
        clear ea
        refine sX8_isDigit (by omega) ?_
        first | with_reducible refine b_eq (fun z2 => ?_) (fun z2 => ?_) | with_reducible refine b_ne (fun z2 => ?_) (fun z2 => ?_)
        · refine zX8_tokenEnd_74 ?_
          rw [← e, rnE_e (fun z => z2 (by have := z.2; unfold cDg at this; exact of_decide_eq_true this))] at k
          exact k
        · rw [show (i : Int) + 1 = ((i + 1 : Nat) : Int) by omega]
          refine ih ?_
          rw [← e, rnE_s hi (by unfold cDg; exact decide_eq_true z2)]
  refine zX8_tokenEnd ?_
  refine s_inN ?_ (fun ea => ?_)
  · omega
  try simp only [ea]
  clear ea
  refine sX8_isLetter (by omega) ?_
  rw [show (p : Int) + 1 = ((p + 1 : Nat) : Int) by omega]
  first | with_reducible refine b_eq (fun z1 => ?_) (fun z1 => ?_) | with_reducible refine b_ne (fun z1 => ?_) (fun z1 => ?_)
  · have hl : ¬ cLt (g 27 p) = true := fun z => z1 (by unfold cLt at z; exact of_decide_eq_true z)
    refine s_inN ?_ (fun ea => ?_)
    · omega
    try simp only [ea]
    clear ea
    refine sX8_isDigit (by omega) ?_
    first | with_reducible refine b_eq (fun z2 => ?_) (fun z2 => ?_) | with_reducible refine b_ne (fun z2 => ?_) (fun z2 => ?_)
    · have hl2 : ¬ cDg (g 27 p) = true := fun z => z2 (by unfold cDg at z; exact of_decide_eq_true z)
      rw [if_neg hl, if_neg hl2] at k
      exact zX8_tokenEnd_74 k
    · exact dg hl (by unfold cDg; exact decide_eq_true z2) (p + 1) (by omega) rfl
  · exact lt (by unfold cLt; exact decide_eq_true z1) (p + 1) (by omega) rfl
theorem sX8_valueOf {T : Nat × (Nat → Int32)} {d : Nat} {Q : mz_K} {X : mz_X} {g : mz_S} {p m : Nat} (hp : p + m ≤ 400) (k : Q (vlF (g 27) p m) g) : zC T (d + 1) 117 [mx_R 26, mx_I (p : Int), mx_I ((p + m : Nat) : Int)] g Q X := by
  have main : ∀ i : Nat, i ≤ m → aX8_valueOf T d Q X 5 [some (mx_R 26), some (mx_I (p : Int)), some (mx_I ((p + m : Nat) : Int)), some (mx_I (vlF (g 27) p i)), some (mx_I ((p + i : Nat) : Int))] [] g (0, 0) := by
    refine upto ?_ (fun i hi ih => ?_)
    · refine zX8_valueOf_5 ?_
      first | with_reducible refine c_lt ?_ ?_ (fun z => ?_) (fun z => ?_) | with_reducible refine c_le ?_ ?_ (fun z => ?_) (fun z => ?_) | with_reducible refine c_eq ?_ ?_ (fun z => ?_) (fun z => ?_) | with_reducible refine c_ne ?_ ?_ (fun z => ?_) (fun z => ?_)
      · omega
      · omega
      · exact k
      · omega
    · refine zX8_valueOf_5 ?_
      first | with_reducible refine c_lt ?_ ?_ (fun z => ?_) (fun z => ?_) | with_reducible refine c_le ?_ ?_ (fun z => ?_) (fun z => ?_) | with_reducible refine c_eq ?_ ?_ (fun z => ?_) (fun z => ?_) | with_reducible refine c_ne ?_ ?_ (fun z => ?_) (fun z => ?_)
      · omega
      · omega
      · omega
      · refine s_inN ?_ (fun ea => ?_)
        · omega
        try simp only [ea]
        clear ea
        rw [show ((p + i : Nat) : Int) + 1 = ((p + (i + 1) : Nat) : Int) by omega]
        exact ih
  exact zX8_valueOf (main 0 (by omega))
/-- words: one walk along their spellings -/
def flatW : List (List Int) → List Int
  | [] => []
  | w :: r => w ++ 32 :: flatW r
theorem flat_tx : flatW wds = mx_tx.getD 0 [] := by decide
theorem wk_loop {T : Nat × (Nat → Int32)} {d : Nat} {Q : mz_K} {X : mz_X} {g : mz_S} {q e : Nat} (hb : WfBy g) (hq : q < e) (he : e ≤ 400) (LL : Nat) (hLL : (mx_tx.getD 0 []).length = LL) (hLLv : LL = 120) : ∀ (ws : List (List Int)) (o : Nat) (k : Int) (o6 : Option mx_v), (∀ i, (mx_tx.getD 0 []).getD (o + i) 0 = (flatW ws).getD i 0) → o + (flatW ws).length = LL → (∀ w ∈ ws, ∀ i, i < w.length → ¬ w.getD i 0 = 32) → Q (wkL (g 27) q e ws k) g → aX8_wordKind T (d + 5) Q X 10 [some (mx_R 26), some (mx_I (q : Int)), some (mx_I (e : Int)), some (mx_I k), some (mx_I 0), some (mx_I (o : Int)), o6] [] g (0, 0) := by
  intro ws
  induction ws with
  | nil =>
    intro o k o6 h1 h2 h3 kk
    refine zX8_wordKind_10 (sLen_10 ?_)
    have : (flatW []).length = 0 := rfl
    first | with_reducible refine c_lt ?_ ?_ (fun z => ?_) (fun z => ?_) | with_reducible refine c_le ?_ ?_ (fun z => ?_) (fun z => ?_) | with_reducible refine c_eq ?_ ?_ (fun z => ?_) (fun z => ?_) | with_reducible refine c_ne ?_ ?_ (fun z => ?_) (fun z => ?_)
    · omega
    · omega
    · exact kk
    · omega
  | cons w r ih =>
    intro o k o6 h1 h2 h3 kk
    have hfl : flatW (w :: r) = w ++ 32 :: flatW r := rfl
    rw [hfl] at h1 h2
    rw [List.length_append, List.length_cons] at h2
    -- same behind i letters
    have main : ∀ i, i ≤ w.length → ∀ (sm : Int) (o6 : Option mx_v), ((sm = i ∧ q + i ≤ e ∧ ∀ j, j < i → g 27 (q + j) = w.getD j 0) ∨ (sm = -1 ∧ ¬ wdE (g 27) q e w = true)) → aX8_wordKind T (d + 5) Q X 10 [some (mx_R 26), some (mx_I (q : Int)), some (mx_I (e : Int)), some (mx_I k), some (mx_I sm), some (mx_I ((o + i : Nat) : Int)), o6] [] g (0, 0) := by
      refine upto (P := fun i => ∀ (sm : Int) (o6 : Option mx_v), ((sm = i ∧ q + i ≤ e ∧ ∀ j, j < i → g 27 (q + j) = w.getD j 0) ∨ (sm = -1 ∧ ¬ wdE (g 27) q e w = true)) → aX8_wordKind T (d + 5) Q X 10 [some (mx_R 26), some (mx_I (q : Int)), some (mx_I (e : Int)), some (mx_I k), some (mx_I sm), some (mx_I ((o + i : Nat) : Int)), o6] [] g (0, 0)) ?_ (fun i hi ih2 => ?_)
      · intro sm o6 hsm
        have ch := h1 w.length
        rw [List.getD_eq_getElem?_getD (l := w ++ 32 :: flatW r), List.getElem?_append_right (Nat.le_refl _), Nat.sub_self] at ch
        have ch2 : (mx_tx.getD 0 []).getD (o + w.length) 0 = 32 := ch
        have go : ¬ wdE (g 27) q e w = true → ∀ c : Int, aX8_wordKind T (d + 5) Q X 93 [some (mx_R 26), some (mx_I (q : Int)), some (mx_I (e : Int)), some (mx_I (k + 1)), some (mx_I 0), some (mx_I ((o + w.length : Nat) : Int)), some (mx_I c)] [] g (0, 0) := by
          intro hw c
          refine zX8_wordKind_93 ?_
          rw [show ((o + w.length : Nat) : Int) + 1 = ((o + (w.length + 1) : Nat) : Int) by omega]
          have kk2 : wkL (g 27) q e (w :: r) k = wkL (g 27) q e r (k + 1) := if_neg hw
          rw [kk2] at kk
          refine ih (o + (w.length + 1)) (k + 1) _ (fun i => ?_) (by omega) (fun w' hw' => h3 w' (List.mem_cons_of_mem _ hw')) kk
          have := h1 (w.length + 1 + i)
          rw [List.getD_eq_getElem?_getD (l := w ++ 32 :: flatW r), List.getElem?_append_right (by omega), show w.length + 1 + i - w.length = i + 1 by omega, List.getElem?_cons_succ, ← List.getD_eq_getElem?_getD] at this
          rw [← this]; congr 1; omega
        refine zX8_wordKind_10 (sLen_10 ?_)
        first | with_reducible refine c_lt ?_ ?_ (fun z => ?_) (fun z => ?_) | with_reducible refine c_le ?_ ?_ (fun z => ?_) (fun z => ?_) | with_reducible refine c_eq ?_ ?_ (fun z => ?_) (fun z => ?_) | with_reducible refine c_ne ?_ ?_ (fun z => ?_) (fun z => ?_)
        · omega
        · omega
        · omega
        · refine sChar_10 (by omega) ?_
          rw [ch2]
          refine ⟨fun z => absurd rfl z, fun _ => ?_⟩
          rcases hsm with ⟨a1, a2, a3⟩ | ⟨a1, a2⟩
          · first | with_reducible refine c_lt ?_ ?_ (fun z2 => ?_) (fun z2 => ?_) | with_reducible refine c_le ?_ ?_ (fun z2 => ?_) (fun z2 => ?_) | with_reducible refine c_eq ?_ ?_ (fun z2 => ?_) (fun z2 => ?_) | with_reducible refine c_ne ?_ ?_ (fun z2 => ?_) (fun z2 => ?_)
            · omega
            · omega
            · refine go (fun hw => ?_) _
              have := wdE_iff.mp hw
              omega
            · have hw : wdE (g 27) q e w = true := wdE_iff.mpr ⟨by omega, a3⟩
              have kk2 : wkL (g 27) q e (w :: r) k = k := if_pos hw
              rw [kk2] at kk
              exact kk
          · first | with_reducible refine c_lt ?_ ?_ (fun z2 => ?_) (fun z2 => ?_) | with_reducible refine c_le ?_ ?_ (fun z2 => ?_) (fun z2 => ?_) | with_reducible refine c_eq ?_ ?_ (fun z2 => ?_) (fun z2 => ?_) | with_reducible refine c_ne ?_ ?_ (fun z2 => ?_) (fun z2 => ?_)
            · omega
            · omega
            · exact go a2 _
            · omega
      · intro sm o6 hsm
        have ch := h1 i
        rw [List.getD_eq_getElem?_getD (l := w ++ 32 :: flatW r), List.getElem?_append_left hi, ← List.getD_eq_getElem?_getD] at ch
        have n32 := h3 w (List.mem_cons_self ..) i hi
        have tr := tx_10 (o + i) (by omega)
        refine zX8_wordKind_10 (sLen_10 ?_)
        first | with_reducible refine c_lt ?_ ?_ (fun z => ?_) (fun z => ?_) | with_reducible refine c_le ?_ ?_ (fun z => ?_) (fun z => ?_) | with_reducible refine c_eq ?_ ?_ (fun z => ?_) (fun z => ?_) | with_reducible refine c_ne ?_ ?_ (fun z => ?_) (fun z => ?_)
        · omega
        · omega
        · omega
        · refine sChar_10 (by omega) ?_
          rw [ch] at tr ⊢
          have at93 : ∀ sm', ((sm' = ((i + 1 : Nat) : Int) ∧ q + (i + 1) ≤ e ∧ ∀ j, j < i + 1 → g 27 (q + j) = w.getD j 0) ∨ (sm' = -1 ∧ ¬ wdE (g 27) q e w = true)) → aX8_wordKind T (d + 5) Q X 93 [some (mx_R 26), some (mx_I (q : Int)), some (mx_I (e : Int)), some (mx_I k), some (mx_I sm'), some (mx_I ((o + i : Nat) : Int)), some (mx_I (w.getD i 0))] [] g (0, 0) := by
            intro sm' hs'
            refine zX8_wordKind_93 ?_
            rw [show ((o + i : Nat) : Int) + 1 = ((o + (i + 1) : Nat) : Int) by omega]
            exact ih2 sm' _ hs'
          first | with_reducible refine c_lt ?_ ?_ (fun z2 => ?_) (fun z2 => ?_) | with_reducible refine c_le ?_ ?_ (fun z2 => ?_) (fun z2 => ?_) | with_reducible refine c_eq ?_ ?_ (fun z2 => ?_) (fun z2 => ?_) | with_reducible refine c_ne ?_ ?_ (fun z2 => ?_) (fun z2 => ?_)
          · omega
          · omega
          · rcases hsm with ⟨a1, a2, a3⟩ | ⟨a1, a2⟩
            · first | with_reducible refine c_lt ?_ ?_ (fun z3 => ?_) (fun z3 => ?_) | with_reducible refine c_le ?_ ?_ (fun z3 => ?_) (fun z3 => ?_) | with_reducible refine c_eq ?_ ?_ (fun z3 => ?_) (fun z3 => ?_) | with_reducible refine c_ne ?_ ?_ (fun z3 => ?_) (fun z3 => ?_)
              · omega
              · omega
              · omega
              · have no : ¬ wdE (g 27) q e w = true → aX8_wordKind T (d + 5) Q X 90 [some (mx_R 26), some (mx_I (q : Int)), some (mx_I (e : Int)), some (mx_I k), some (mx_I sm), some (mx_I ((o + i : Nat) : Int)), some (mx_I (w.getD i 0))] [] g (0, 0) := fun hw => zX8_wordKind_90 (zX8_wordKind_91 (at93 (-1) (Or.inr ⟨rfl, hw⟩)))
                first | with_reducible refine c_lt ?_ ?_ (fun z4 => ?_) (fun z4 => ?_) | with_reducible refine c_le ?_ ?_ (fun z4 => ?_) (fun z4 => ?_) | with_reducible refine c_eq ?_ ?_ (fun z4 => ?_) (fun z4 => ?_) | with_reducible refine c_ne ?_ ?_ (fun z4 => ?_) (fun z4 => ?_)
                · omega
                · omega
                · refine no (fun hw => ?_)
                  have := wdE_iff.mp hw
                  omega
                · have bi := hb (q + i) (by omega)
                  refine s_inE (q + i) ?_ ?_ (fun ea => ?_)
                  · omega
                  · omega
                  try simp only [ea]
                  clear ea
                  first | with_reducible refine c_lt ?_ ?_ (fun z5 => ?_) (fun z5 => ?_) | with_reducible refine c_le ?_ ?_ (fun z5 => ?_) (fun z5 => ?_) | with_reducible refine c_eq ?_ ?_ (fun z5 => ?_) (fun z5 => ?_) | with_reducible refine c_ne ?_ ?_ (fun z5 => ?_) (fun z5 => ?_)
                  · omega
                  · omega
                  · refine no (fun hw => ?_)
                    exact z5 ((wdE_iff.mp hw).2 i hi)
                  · refine zX8_wordKind_91 (at93 _ (Or.inl ⟨by omega, by omega, fun j hj => ?_⟩))
                    rcases Nat.lt_or_ge j i with y | y
                    · exact a3 j y
                    · rw [show j = i by omega]; exact z5
            · subst a1
              first | with_reducible refine c_lt ?_ ?_ (fun z3 => ?_) (fun z3 => ?_) | with_reducible refine c_le ?_ ?_ (fun z3 => ?_) (fun z3 => ?_) | with_reducible refine c_eq ?_ ?_ (fun z3 => ?_) (fun z3 => ?_) | with_reducible refine c_ne ?_ ?_ (fun z3 => ?_) (fun z3 => ?_)
              · omega
              · omega
              · exact at93 _ (Or.inr ⟨rfl, a2⟩)
              · omega
          · omega
    have := main 0 (Nat.zero_le _) 0 o6 (Or.inl ⟨rfl, by omega, fun j hj => by omega⟩)
    exact this
theorem sX8_wordKind {T : Nat × (Nat → Int32)} {d : Nat} {Q : mz_K} {X : mz_X} {g : mz_S} {q e : Nat} (hb : WfBy g) (hq : q < e) (he : e ≤ 400) (k : Q (wkL (g 27) q e wds 128) g) : zC T (d + 6) 118 [mx_R 26, mx_I (q : Int), mx_I (e : Int)] g Q X := by
  refine zX8_wordKind ?_
  have := wk_loop (T := T) (d := d) (Q := Q) (X := X) hb hq he _ rfl (by decide) wds 0 128 none (fun i => by rw [flat_tx, Nat.zero_add]) (by rw [flat_tx, Nat.zero_add]) (by decide) k
  exact this
theorem sJ0_indexOf {T : Nat × (Nat → Int32)} {d : Nat} {Q : mz_K} {X : mz_X} {g : mz_S} {c : Int} (hc : 0 ≤ c ∧ c ≤ 255) (k1 : cSg c = true → ∀ i : Int, 0 ≤ i ∧ i ≤ 13 → Q i g) (k2 : ¬ cSg c = true → Q (-1) g) : zC T (d + 5) 332 [mx_S 11, mx_I c] g Q X := by
  refine zJ0_indexOf_0f7a4 (zJ0_indexOf_7cf53 (sLa_11 ⟨fun z => absurd z (by decide), fun _ => sLen_11 ?_⟩))
  refine zJ1_indexOf_4cfef (zJ1_canEncode_9a6ad ?_)
  first | with_reducible refine c_lt ?_ ?_ (fun z1 => ?_) (fun z1 => ?_) | with_reducible refine c_le ?_ ?_ (fun z1 => ?_) (fun z1 => ?_) | with_reducible refine c_eq ?_ ?_ (fun z1 => ?_) (fun z1 => ?_) | with_reducible refine c_ne ?_ ?_ (fun z1 => ?_) (fun z1 => ?_)
  · omega
  · omega
  · omega
  · first | with_reducible refine c_lt ?_ ?_ (fun z2 => ?_) (fun z2 => ?_) | with_reducible refine c_le ?_ ?_ (fun z2 => ?_) (fun z2 => ?_) | with_reducible refine c_eq ?_ ?_ (fun z2 => ?_) (fun z2 => ?_) | with_reducible refine c_ne ?_ ?_ (fun z2 => ?_) (fun z2 => ?_)
    · omega
    · omega
    · omega
    · refine zJ1_canEncode_9a6ad_16 ⟨zb1, fun _ => ?_, fun z => absurd (by decide) z⟩
      refine sJ9_max (by omega) (by omega) (sJ9_min (by omega) (by omega) ?_)
      rw [show max (0 : Int) 0 = 0 from rfl, show min (14 : Int) 14 = 14 from rfl]
      refine ⟨fun _ => ?_, fun z => absurd (by decide) z⟩
      refine zJ1_indexOfChar_4cfef ?_
      have tr : ∀ i : Nat, i < 14 → 37 ≤ (mx_tx.getD 1 []).getD i 0 ∧ (mx_tx.getD 1 []).getD i 0 ≤ 93 := by decide
      have bm : c.bmod 256 = c ∨ c.bmod 256 < 0 := by rw [Int.bmod_def]; split <;> omega
      have fin : ∀ i : Nat, i ≤ 14 → (∀ j, j < i → ¬ (mx_tx.getD 1 []).getD j 0 = c) → aJ1_indexOfChar_4cfef T (d + 1) (fun r4 g4 => aJ0_indexOf_7cf53 T (d + 3) Q X 36 [some (mx_S 11), some (mx_I c), some (mx_I 0)] [mx_I r4] g4 (0, 0)) X 7 [some (mx_S 101), some (mx_I c), some (mx_I 0), some (mx_I 14), some (mx_I (mx_i2b c)), some (mx_I (i : Int))] [] g (0, 0) := by
        refine upto ?_ (fun i hi ih => ?_)
        · intro hn
          refine zJ1_indexOfChar_4cfef_7 ?_
          first | with_reducible refine c_lt ?_ ?_ (fun z => ?_) (fun z => ?_) | with_reducible refine c_le ?_ ?_ (fun z => ?_) (fun z => ?_) | with_reducible refine c_eq ?_ ?_ (fun z => ?_) (fun z => ?_) | with_reducible refine c_ne ?_ ?_ (fun z => ?_) (fun z => ?_)
          · omega
          · omega
          · refine zJ0_indexOf_7cf53_36 (k2 (fun hs => ?_))
            unfold cSg at hs
            rw [List.contains_iff_mem, show ([59, 58, 60, 62, 61, 43, 45, 42, 47, 37, 40, 41, 91, 93] : List Int) = mx_tx.getD 1 [] from by decide] at hs
            obtain ⟨j, hj, e⟩ := List.getElem_of_mem hs
            have h14 : (mx_tx.getD 1 []).length = 14 := by decide
            refine hn j (by omega) ?_
            rw [List.getD_eq_getElem?_getD, List.getElem?_eq_getElem hj, e]; rfl
          · omega
        · intro hn
          refine zJ1_indexOfChar_4cfef_7 ?_
          first | with_reducible refine c_lt ?_ ?_ (fun z => ?_) (fun z => ?_) | with_reducible refine c_le ?_ ?_ (fun z => ?_) (fun z => ?_) | with_reducible refine c_eq ?_ ?_ (fun z => ?_) (fun z => ?_) | with_reducible refine c_ne ?_ ?_ (fun z => ?_) (fun z => ?_)
          · omega
          · omega
          · omega
          · refine s_inN ?_ (fun ea => ?_)
            · omega
            try simp only [ea]
            clear ea
            have t1 := tr i hi
            rw [i2b_v, w32_of (by omega) (by omega)]
            refine ⟨fun z2 => ?_, fun z2 => ?_⟩
            · rw [show (i : Int) + 1 = ((i + 1 : Nat) : Int) by omega]
              refine ih (fun j hj => ?_)
              rcases Nat.lt_or_ge j i with y | y
              · exact hn j y
              · rw [show j = i by omega]
                intro z3
                have hb : c.bmod 256 = c := by rw [Int.bmod_def]; split <;> omega
                exact z2 (by rw [hb]; exact z3)
            · have z2' := Decidable.not_not.mp z2
              refine zJ0_indexOf_7cf53_36 (k1 ?_ _ (by omega))
              have e : (mx_tx.getD 1 []).getD i 0 = c := by
                rcases bm with y2 | y2
                · rw [y2] at z2'; exact z2'
                · omega
              unfold cSg
              rw [List.contains_iff_mem, show ([59, 58, 60, 62, 61, 43, 45, 42, 47, 37, 40, 41, 91, 93] : List Int) = mx_tx.getD 1 [] from by decide, ← e]
              have h14 : (mx_tx.getD 1 []).length = 14 := by decide
              have key : ∀ (l : List Int) (i : Nat), i < l.length → l.getD i 0 ∈ l := by
                intro l i h
                rw [List.getD_eq_getElem?_getD, List.getElem?_eq_getElem h]
                exact List.getElem_mem _
              exact key _ i (by omega)
      exact fin 0 (by omega) (fun j hj => by omega)
