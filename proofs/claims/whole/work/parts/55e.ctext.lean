/-! customs on both sides; the call text -/
def TxI (g : mz_S) (L b t : Nat) (ls : List pA) : Prop := (1 ≤ g 41 t ∧ g 41 t ≤ 255) ∧ (0 ≤ g 42 t ∧ g 42 t ≤ 999) ∧ g 120 t = g 41 t ∧ g 121 t = g 42 t ∧ g 122 t = g 44 t ∧ g 44 t = (ls.length : Int) ∧ ls.length ≤ 24 ∧ (∃ F : Nat, g 43 t = F ∧ F + ls.length ≤ L ∧ LnsC g F b ls) ∧ LnsR g t 700 ls ∧ ∀ al ∈ ls, AWf al
def IC (W : Int) (g : mz_S) : Prop := ∃ (nt L b : Nat) (al : Nat → List pA), nt ≤ 6 ∧ g 39 3 = nt ∧ g 99 36 = nt ∧ g 31 4 = L ∧ L ≤ 24 * nt ∧ g 31 11 = b ∧ b ≤ 400 * nt ∧ (∀ t, t < nt → TxI g L b t (al t)) ∧ OrdC (g 40) (g 42) nt ∧ (0 ≤ g 39 11 ∧ g 39 11 ≤ W) ∧ (∀ i, i < 1000 → 0 ≤ g 46 i ∧ g 46 i ≤ g 39 11) ∧ g 99 34 = g 31 2 ∧ g 99 35 = g 31 3
theorem LnC.same {g g' : mz_S} {l a : Nat} {al : pA} (h : LnC g l al a) (e : ∀ q ∈ [32, 33, 34, 35, 36, 37, 38], g' q = g q) : LnC g' l al a := by
  unfold LnC at *
  rw [e 32 (by decide), e 33 (by decide), e 34 (by decide), e 35 (by decide), e 36 (by decide), e 37 (by decide), e 38 (by decide)]
  exact h
theorem LnR.same {g g' : mz_S} {tt l a : Nat} {al : pA} (h : LnR g tt l al a) (e : ∀ q ∈ [123, 124, 125, 126, 127, 128, 129], g' q = g q) : LnR g' tt l al a := by
  unfold LnR CodR at *
  rw [e 123 (by decide), e 124 (by decide), e 125 (by decide), e 126 (by decide), e 127 (by decide), e 128 (by decide), e 129 (by decide)]
  exact h
theorem TxI.same {g g' : mz_S} {L b t : Nat} {ls : List pA} (h : TxI g L b t ls) (e : ∀ q ∈ [32, 33, 34, 35, 36, 37, 38, 41, 42, 43, 44, 120, 121, 122, 123, 124, 125, 126, 127, 128, 129], g' q = g q) : TxI g' L b t ls := by
  obtain ⟨h1, h2, h3, h4, h5, h6, h7, ⟨F, f1, f2, f3⟩, h8, h9⟩ := h
  unfold TxI
  rw [e 41 (by decide), e 42 (by decide), e 43 (by decide), e 44 (by decide), e 120 (by decide), e 121 (by decide), e 122 (by decide)]
  refine ⟨h1, h2, h3, h4, h5, h6, h7, ⟨F, f1, f2, fun j hj => ?_⟩, fun j hj => ?_, h9⟩
  · obtain ⟨a, a1, a2⟩ := f3 j hj
    exact ⟨a, a1.same (fun q hq => e q (by simp at hq ⊢; omega)), a2⟩
  · obtain ⟨a, a1, a2⟩ := h8 j hj
    exact ⟨a, a1.same (fun q hq => e q (by simp at hq ⊢; omega)), a2⟩
theorem IC.fr {W : Int} {S F : List Nat} {g g' : mz_S} (w : IC W g) (h : Ch S F g g') (hS : ∀ q ∈ [31, 32, 33, 34, 35, 36, 37, 38, 39, 40, 41, 42, 43, 44, 46, 120, 121, 122, 123, 124, 125, 126, 127, 128, 129], q ∉ S) (hF : ∀ f ∈ [34, 35, 36], f ∉ F) : IC W g' := by
  have e : ∀ q ∈ [31, 32, 33, 34, 35, 36, 37, 38, 39, 40, 41, 42, 43, 44, 46, 120, 121, 122, 123, 124, 125, 126, 127, 128, 129], g' q = g q := fun q hq => h.1 q (hS q hq) (by intro z; subst z; revert hq; decide)
  obtain ⟨nt, L, b, al, h1, h2, h3, h4, h5, h6, h7, h8, h9, h10, h11, h12, h13⟩ := w
  refine ⟨nt, L, b, al, h1, ?_, ?_, ?_, h5, ?_, h7, fun t ht => (h8 t ht).same (fun q hq => e q (by simp at hq ⊢; omega)), ?_, ?_, ?_, ?_, ?_⟩
  · rw [e 39 (by decide)]; exact h2
  · rw [h.2 36 (hF 36 (by decide))]; exact h3
  · rw [e 31 (by decide)]; exact h4
  · rw [e 31 (by decide)]; exact h6
  · rw [e 40 (by decide), e 42 (by decide)]; exact h9
  · rw [e 39 (by decide)]; exact h10
  · rw [e 46 (by decide), e 39 (by decide)]; exact h11
  · rw [h.2 34 (hF 34 (by decide)), e 31 (by decide)]; exact h12
  · rw [h.2 35 (hF 35 (by decide)), e 31 (by decide)]; exact h13
def txC : List Nat := [26, 28, 29, 30, 31, 32, 33, 34, 35, 36, 37, 38, 39, 40, 41, 42, 43, 44, 120, 121, 122, 123, 124, 125, 126, 127, 128, 129, 179]
def txF : List Nat := [0, 26, 27, 28, 29, 30, 31, 32, 33, 34, 35, 36, 37, 38]
theorem LnsC.fr {g g' : mz_S} {F b b' L : Nat} {ls : List pA} (h : LnsC g F b ls) (hL : F + ls.length ≤ L) (hq : ∀ q ∈ [32, 33, 34, 35, 36, 37], ∀ i, i < L → g' q i = g q i) (hc : ∀ i, i < b → g' 38 i = g 38 i) (hb : b ≤ b') : LnsC g' F b' ls := by
  intro j hj
  obtain ⟨a, a1, a2⟩ := h j hj
  exact ⟨a, a1.fr (b := b) (fun q hq' => hq q hq' _ (by omega)) hc a2, by omega⟩
theorem LnsR.fr {g g' : mz_S} {tt : Nat} {ls : List pA} (h : LnsR g tt 700 ls) (M : Nat) (hM : tt < M) (hl : ls.length ≤ 24) (hq : ∀ q ∈ [124, 125, 126, 127, 128, 129], ∀ i, i < 24 * M → g' q i = g q i) (hc : ∀ i, i < 700 * M → g' 123 i = g 123 i) : LnsR g' tt 700 ls := by
  intro j hj
  obtain ⟨a, a1, a2⟩ := h j hj
  exact ⟨a, a1.fr (b := 700) (fun q hq' => hq q hq' _ (by omega)) (fun i hi => hc i (by omega)) a2, a2⟩
theorem NTk.cg {b b' : Nat → Int} {n N : Nat} (h : ∀ i, i < n → b i = b' i) (w : NTk b n N) : NTk b' n N := by
  obtain ⟨w1, w2, w3⟩ := w
  refine ⟨w1, ?_, fun i hi => ?_⟩
  · rw [← tk_congr h (N - 1) 0 (Nat.zero_le _)]; exact w2
  · rw [← tk_congr h i 0 (Nat.zero_le _)]; exact w3 i hi
theorem tk_endG {b : Nat → Int} {n : Nat} : ∀ k p, p ≤ n → n - p ≤ k → ∃ N, (1 ≤ N ∧ N ≤ k + 1) ∧ ((tk b n (N - 1) p).1 = 155 ∨ (tk b n (N - 1) p).1 = 156) ∧ ∀ i, i + 1 < N → ¬ (tk b n i p).1 = 155 ∧ ¬ (tk b n i p).1 = 156 := by
  intro k
  induction k with
  | zero =>
    intro p hp hk
    have h := lexT_ok (b := b) hp
    refine ⟨1, by omega, ?_, fun i hi => by omega⟩
    show (lexT b n p).1 = 155 ∨ _
    refine Or.inl (Classical.byContradiction fun z => ?_)
    have := h.2.2.2.2.1 z
    omega
  | succ k ih =>
    intro p hp hk
    have h := lexT_ok (b := b) hp
    by_cases z : (lexT b n p).1 = 155 ∨ (lexT b n p).1 = 156
    · exact ⟨1, by omega, z, fun i hi => by omega⟩
    · have h5 := h.2.2.2.2.1 (fun y => z (Or.inl y))
      obtain ⟨N, n1, n2, n3⟩ := ih (lexT b n p).2.2.1 h.2.2.2.1 (by omega)
      refine ⟨N + 1, by omega, ?_, fun i hi => ?_⟩
      · rw [show N + 1 - 1 = N - 1 + 1 by omega]; exact n2
      · cases i with
        | zero => exact not_or.mp z
        | succ i => exact n3 i (by omega)
theorem tk_end {b : Nat → Int} {n : Nat} (hn : n ≤ 400) : ∃ N, NTk b n N := by
  obtain ⟨N, h1, h2, h3⟩ := tk_endG (b := b) (n := n) n 0 (Nat.zero_le _) (by omega)
  exact ⟨N, by omega, h2, h3⟩
theorem tokR_cg {b b' : Nat → Int} {n N : Nat} (h : ∀ i, i < n → b i = b' i) : tokR b n N = tokR b' n N := by
  unfold tokR
  have e : ∀ i, tk b n i 0 = tk b' n i 0 := fun i => tk_congr h i 0 (Nat.zero_le _)
  simp only [e]
theorem ptext_awf {b : Nat → Int} {n N : Nat} (w : NTk b n N) (h : (ptext (tokR b n N)).1.2.1 = 0) : ∀ al ∈ (ptext (tokR b n N)).2, AWf al := by
  refine pgo_wf (t := tokR b n N) (N := N) (fun i hi => ?_) (fun i => ?_) w.1.2 26 0 (0, 0, -1, []) [] rfl (fun al z => absurd z (List.not_mem_nil)) h
  · unfold tokR
    dsimp only
    split
    · next z => rw [show i = N - 1 by omega]; exact w.2.1
    · exact Or.inl rfl
  · unfold tokR
    dsimp only
    split
    · exact (tk_ok i 0 (Nat.zero_le _)).2.2.2.2
    · omega
/-- the reference's text, after the class's, at one state -/
theorem rText {T : Nat × (Nat → Int32)} {d m nt N : Nat} {X' : mz_X} {Q : mz_K} {gc g : mz_S} {towns day : Int} (p1 : 0 ≤ g 26 1 ∧ g 26 1 ≤ 400) (p2 : g 99 26 = g 26 1) (p4 : ∀ i : Nat, (i : Int) < g 26 1 → g 119 i = g 27 i) (p5 : ∀ i, i < 400 → 0 ≤ g 119 i ∧ g 119 i ≤ 255) (h3 : g 99 36 = nt) (h6 : nt ≤ 6) (hm : (m : Int) ≤ g 26 1) (ht : 1 ≤ towns ∧ towns ≤ 255) (hd : 0 ≤ day ∧ day ≤ 999) (q119 : gc 119 = g 119) (q9 : ∀ f, gc 99 f = g 99 f) (hN : NTk (g 27) m N)
    (k0 : nt = 6 → Q (-1) (mx_up (mx_up gc 99 0 0) 99 26 0))
    (k1 : nt < 6 → ∀ g', Ch [123, 124, 125, 126, 127, 128, 129, 120, 121, 122] [0, 26, 27, 28, 29, 30, 31, 32, 33, 34, 35, 36, 37, 38] gc g' → (∀ q ∈ [124, 125, 126, 127, 128, 129], ∀ i, i < 24 * nt → g' q i = gc q i) → (∀ i, i < 700 * nt → g' 123 i = gc 123 i) → g' 99 0 = 0 → g' 99 26 = 0 → g' 99 34 = (ptext (tokR (g 27) m N)).1.2.1 → (¬ (ptext (tokR (g 27) m N)).1.2.1 = 0 → g' 99 35 = (ptext (tokR (g 27) m N)).1.2.2.1 ∧ g' 99 36 = nt ∧ g' 120 = gc 120 ∧ g' 121 = gc 121 ∧ g' 122 = gc 122 → Q (-10 - (ptext (tokR (g 27) m N)).1.2.1) g') ∧ ((ptext (tokR (g 27) m N)).1.2.1 = 0 → g' 99 35 = -1 → g' 99 36 = nt + 1 → g' 120 = lset (gc 120) nt towns → g' 121 = lset (gc 121) nt day → g' 122 = lset (gc 122) nt ((ptext (tokR (g 27) m N)).2.length : Int) → LnsR g' nt 700 (ptext (tokR (g 27) m N)).2 → Q ((ptext (tokR (g 27) m N)).2.length : Int) g')) : zC T (d + 220) 264 [mx_R 99, mx_I (m : Int), mx_I towns, mx_I day] gc Q X' := by
  have bt : ∀ i, i < m → g 27 i = g 119 i := fun i hi => (p4 i (by omega)).symm
  have hN' : NTk (gc 119) m N := by rw [q119]; exact hN.cg bt
  refine sX12_text (d := d + 219) (tt := nt) (by rw [q119]; exact p5) (by rw [q9, p2]; exact hm) (by rw [q9, p2]; exact p1) (by rw [q9]; exact h3) h6 ht hd (by omega) k0 (fun z N' hN2 => ?_) ⟨N, hN'⟩
  rw [hN2.one hN', show tokR (gc 119) m N = tokR (g 27) m N by rw [q119]; exact (tokR_cg bt).symm]
  exact k1 z
theorem TxI.grow {g g' : mz_S} {L L' b b' t M : Nat} {ls : List pA} (h : TxI g L b t ls) (e : ∀ q ∈ [41, 42, 43, 44, 120, 121, 122], g' q t = g q t) (hq : ∀ q ∈ [32, 33, 34, 35, 36, 37], ∀ i, i < L → g' q i = g q i) (hc : ∀ i, i < b → g' 38 i = g 38 i) (hM : t < M) (hr : ∀ q ∈ [124, 125, 126, 127, 128, 129], ∀ i, i < 24 * M → g' q i = g q i) (hrc : ∀ i, i < 700 * M → g' 123 i = g 123 i) (hL : L ≤ L') (hb : b ≤ b') : TxI g' L' b' t ls := by
  obtain ⟨h1, h2, h3, h4, h5, h6, h7, ⟨F, f1, f2, f3⟩, h8, h9⟩ := h
  unfold TxI
  rw [e 41 (by decide), e 42 (by decide), e 43 (by decide), e 44 (by decide), e 120 (by decide), e 121 (by decide), e 122 (by decide)]
  exact ⟨h1, h2, h3, h4, h5, h6, h7, ⟨F, f1, by omega, f3.fr f2 hq hc hb⟩, h8.fr M hM h7 hr hrc, h9⟩
theorem C_text {T : Nat × (Nat → Int32)} {d : Nat} {X X' : mz_X} {g : mz_S} {W n towns day : Int} (w : IC W g) (wp : IP g) (hn : R32 n) (ht : R32 towns) (hd : R32 day) : zC T (d + 220) 359 [mx_R 0, mx_I n, mx_I towns, mx_I day, mx_R 179] g (fun kk g1 => zC T (d + 220) 264 [mx_R 99, mx_I n, mx_I towns, mx_I day] g1 (fun r g2 => AnsI kk r g2 ∧ IC W g2 ∧ IP g2 ∧ Qy txC txF g g2) X') X := by
  have wp' := wp
  obtain ⟨p1, p2, p3, p4, p5⟩ := wp
  have w' := w
  obtain ⟨nt, L, b, al, h1, h2, h3, h4, h5, h6, h7, h8, h9, h10, h11, h12, h13⟩ := w
  have nr : ¬ ((0 ≤ n ∧ n ≤ g 26 1) ∧ (1 ≤ towns ∧ towns ≤ 255) ∧ (0 ≤ day ∧ day ≤ 999)) → zC T (d + 220) 264 [mx_R 99, mx_I n, mx_I towns, mx_I day] g (fun r g2 => AnsI 1 r g2 ∧ IC W g2 ∧ IP g2 ∧ Qy txC txF g g2) X' := by
    intro z
    have bad : AnsI 1 0 (mx_up (mx_up g 99 0 0) 99 0 1) ∧ IC W (mx_up (mx_up g 99 0 0) 99 0 1) ∧ IP (mx_up (mx_up g 99 0 0) 99 0 1) ∧ Qy txC txF g (mx_up (mx_up g 99 0 0) 99 0 1) :=
      ⟨⟨by omega, up_s, fun z => by omega⟩, w'.fr (ch_bad g 1) (by decide) (by decide), wp'.fr (ch_bad g 1) (by decide) (by decide), (ch_bad g 1).sub (by decide) (by decide), fun z => z.fr (ch_bad g 1) (by decide)⟩
    refine zX12_text ?_
    intro g1 e1
    rw [← e1] at bad
    have f26 : g1 99 26 = g 26 1 := by rw [e1, up_i (by decide)]; exact p2
    rw [f26, w32_of (n := g 26 1) (by omega) (by omega)]
    repeat' first
      | with_reducible refine zX12_text_38 ?_
      | with_reducible refine zX12_text_118 ?_
      | with_reducible refine zX12_text_142 ?_
      | with_reducible refine sX11_needFound (fun _ => ?_) (fun _ => ?_)
      | with_reducible refine sX11_needArgument (fun _ => ?_) (fun _ => ?_)
      | with_reducible refine sX11_needState (fun _ => ?_) (fun _ => ?_)
      | with_reducible refine sX11_needPlace (fun _ => ?_) (fun _ => ?_)
      | with_reducible refine nF_t ?_
      | with_reducible refine nF_f ?_
      | with_reducible refine nA_t ?_
      | with_reducible refine nA_f ?_
      | with_reducible refine nS_t ?_
      | with_reducible refine nS_f ?_
      | with_reducible refine nP_t ?_
      | with_reducible refine nP_f ?_
      | with_reducible refine sX11_isTown (by omega) (by omega) ?_
      | with_reducible refine sX11_isBroker (by omega) (by omega) ?_
      | with_reducible refine sX11_isWord (by omega) (by omega) ?_
      | with_reducible refine sX11_isCoin (by omega) ?_
      | with_reducible refine sX11_isDay (by omega) ?_
      | with_reducible refine sX11_isTray (by omega) ?_
      | with_reducible refine sX12_isTray (by omega) ?_
      | with_reducible refine sX11_within (by omega) (by omega) (by omega) ?_
      | with_reducible refine sX12_isTownC (by assumption) (by assumption) (by omega) ?_
      | with_reducible refine sX12_isBrokerC (by assumption) (by assumption) (by omega) ?_
      | with_reducible refine sX12_isCoin (by omega) ?_
      | with_reducible refine sX12_isDay (by omega) ?_
      | with_reducible refine sX12_withinW (by omega) (by omega) (by omega) ?_
      | with_reducible refine sX12_fails ?_
      | with_reducible refine b_eq (fun _ => ?_) (fun _ => ?_)
      | with_reducible refine b_ne (fun _ => ?_) (fun _ => ?_)
      | with_reducible refine c_lt (by omega) (by omega) (fun _ => ?_) (fun _ => ?_)
      | with_reducible refine c_le (by omega) (by omega) (fun _ => ?_) (fun _ => ?_)
      | with_reducible refine c_eq (by omega) (by omega) (fun _ => ?_) (fun _ => ?_)
      | with_reducible refine c_ne (by omega) (by omega) (fun _ => ?_) (fun _ => ?_)
      | with_reducible refine l_gt (by omega) (by omega) (fun _ => ?_) (fun _ => ?_)
      | with_reducible refine l_lt (by omega) (by omega) (fun _ => ?_) (fun _ => ?_)
      | with_reducible refine l_ge (by omega) (by omega) (fun _ => ?_) (fun _ => ?_)
      | with_reducible refine l_le (by omega) (by omega) (fun _ => ?_) (fun _ => ?_)
      | with_reducible refine l_eq (by omega) (by omega) (fun _ => ?_) (fun _ => ?_)
      | with_reducible refine l_ne (by omega) (by omega) (fun _ => ?_) (fun _ => ?_)
      | refine ⟨by decide, by decide, ?_⟩
      | fail
    all_goals first | exact bad | (exfalso; omega)
  refine wL_text (zX11_text ?_)
  repeat' first
    | with_reducible refine zX11_text_37 ?_
    | with_reducible refine zX11_text_38 ?_
    | with_reducible refine zX11_text_63 ?_
    | with_reducible refine zX11_text_89 ?_
    | with_reducible refine sX11_needFound (fun _ => ?_) (fun _ => ?_)
    | with_reducible refine sX11_needArgument (fun _ => ?_) (fun _ => ?_)
    | with_reducible refine sX11_needState (fun _ => ?_) (fun _ => ?_)
    | with_reducible refine sX11_needPlace (fun _ => ?_) (fun _ => ?_)
    | with_reducible refine nF_t ?_
    | with_reducible refine nF_f ?_
    | with_reducible refine nA_t ?_
    | with_reducible refine nA_f ?_
    | with_reducible refine nS_t ?_
    | with_reducible refine nS_f ?_
    | with_reducible refine nP_t ?_
    | with_reducible refine nP_f ?_
    | with_reducible refine sX11_isTown (by omega) (by omega) ?_
    | with_reducible refine sX11_isBroker (by omega) (by omega) ?_
    | with_reducible refine sX11_isWord (by omega) (by omega) ?_
    | with_reducible refine sX11_isCoin (by omega) ?_
    | with_reducible refine sX11_isDay (by omega) ?_
    | with_reducible refine sX11_isTray (by omega) ?_
    | with_reducible refine sX12_isTray (by omega) ?_
    | with_reducible refine sX11_within (by omega) (by omega) (by omega) ?_
    | with_reducible refine sX12_isTownC (by assumption) (by assumption) (by omega) ?_
    | with_reducible refine sX12_isBrokerC (by assumption) (by assumption) (by omega) ?_
    | with_reducible refine sX12_isCoin (by omega) ?_
    | with_reducible refine sX12_isDay (by omega) ?_
    | with_reducible refine sX12_withinW (by omega) (by omega) (by omega) ?_
    | with_reducible refine sX12_fails ?_
    | with_reducible refine b_eq (fun _ => ?_) (fun _ => ?_)
    | with_reducible refine b_ne (fun _ => ?_) (fun _ => ?_)
    | with_reducible refine c_lt (by omega) (by omega) (fun _ => ?_) (fun _ => ?_)
    | with_reducible refine c_le (by omega) (by omega) (fun _ => ?_) (fun _ => ?_)
    | with_reducible refine c_eq (by omega) (by omega) (fun _ => ?_) (fun _ => ?_)
    | with_reducible refine c_ne (by omega) (by omega) (fun _ => ?_) (fun _ => ?_)
    | with_reducible refine l_gt (by omega) (by omega) (fun _ => ?_) (fun _ => ?_)
    | with_reducible refine l_lt (by omega) (by omega) (fun _ => ?_) (fun _ => ?_)
    | with_reducible refine l_ge (by omega) (by omega) (fun _ => ?_) (fun _ => ?_)
    | with_reducible refine l_le (by omega) (by omega) (fun _ => ?_) (fun _ => ?_)
    | with_reducible refine l_eq (by omega) (by omega) (fun _ => ?_) (fun _ => ?_)
    | with_reducible refine l_ne (by omega) (by omega) (fun _ => ?_) (fun _ => ?_)
    | refine ⟨by decide, by decide, ?_⟩
    | fail
  all_goals first | exact ⟨rfl, nr (by omega)⟩ | skip
  have hr : (0 ≤ n ∧ n ≤ g 26 1) ∧ (1 ≤ towns ∧ towns ≤ 255) ∧ (0 ≤ day ∧ day ≤ 999) := by omega
  obtain ⟨m, rfl⟩ := Int.eq_ofNat_of_zero_le hr.1.1
  have hm4 : m ≤ 400 := by omega
  have hb : WfBy g := p3
  obtain ⟨N, hN⟩ : ∃ N, NTk (g 27) m N := tk_end hm4
  refine zX3_hasRoom ?_
  rw [h2]
  first | with_reducible refine c_lt ?_ ?_ (fun z6 => ?_) (fun z6 => ?_) | with_reducible refine c_le ?_ ?_ (fun z6 => ?_) (fun z6 => ?_) | with_reducible refine c_eq ?_ ?_ (fun z6 => ?_) (fun z6 => ?_) | with_reducible refine c_ne ?_ ?_ (fun z6 => ?_) (fun z6 => ?_)
  · omega
  · omega
  · have e6 : nt = 6 := by omega
    refine zX3_hasRoom_14 ⟨by decide, ⟨fun _ => ?_, fun z => absurd rfl z⟩⟩
    refine zX11_text_63 ?_
    intro g1 e1
    refine ⟨fun _ => ?_, fun z => absurd (by decide) z⟩
    refine zX11_text_89 ?_
    refine rText (g := g) (nt := nt) p1 p2 p4 p5 h3 h1 hr.1.2 hr.2.1 hr.2.2 (by rw [e1]; simp [up_at]) (fun f => by rw [e1, up_q (by decide), up_q (by decide)]) hN (fun _ => ?_) (fun z => by omega)
    have cc : Ch [26, 179] [0, 26] g (mx_up (mx_up (mx_up g1 179 0 (w32 (-1))) 99 0 0) 99 26 0) := by
      rw [e1]
      exact ((((Ch.rf g).up (by decide) (by decide)).up (by decide) (by decide)).up9 (by decide)).up9 (by decide)
    refine ⟨⟨by omega, by rw [up_i (by decide), up_s], fun _ => by rw [up_q (by decide), up_q (by decide), up_s]⟩, w'.fr cc (by decide) (by decide), ?_, cc.sub (by decide) (by decide), fun z => z.fr cc (by decide)⟩
    refine ⟨?_, ?_, ?_, ?_, ?_⟩
    · rw [up_q (by decide), up_q (by decide), up_q (by decide), e1, up_s]; omega
    · rw [up_s, up_q (by decide), up_q (by decide), up_q (by decide), e1, up_s]
    · rw [cc.1 27 (by decide) (by decide)]; exact p3
    · intro i hi
      rw [up_q (by decide), up_q (by decide), up_q (by decide), e1, up_s] at hi
      omega
    · rw [cc.1 119 (by decide) (by decide)]; exact p5
  · refine zX3_hasRoom_14 ⟨by decide, ⟨fun z => absurd z (by decide), fun _ => ?_⟩⟩
    have ro : ∀ t, t < nt → TxI g L b t (al t) := h8
    refine sX7_readText (d := d + 217) (L := L) (B := b) hb hm4 (by omega) (by omega) h4 h6 (by omega) (fun g1 N' hN' hx hft eL eb => ?_) (fun g1 N' hN' hx hft eL hl eb => ?_)
    · rw [hN'.one hN] at hx hft ⊢
      clear hN' N'
      refine zX11_text_63 ?_
      intro g2 e2
      have cy : Ch [26, 28, 29, 30, 31, 32, 33, 34, 35, 36, 37, 38, 179] [] g (mx_up g2 179 0 (w32 (-10 - (ptext (tokR (g 27) m N)).1.2.1))) := by
        rw [e2]; exact ((hx.1.sub (by decide) (by decide)).up (by decide) (by decide)).up (by decide) (by decide)
      have i2 : mx_up g2 179 0 (w32 (-10 - (ptext (tokR (g 27) m N)).1.2.1)) 26 1 = 0 := by rw [up_q (by decide), e2, up_s]
      have kf := hx.2.2.2.2.2.2
      refine ⟨fun _ => ?_, fun z => ?_⟩
      · refine zX11_text_89 ?_
        generalize egc : mx_up g2 179 0 (w32 (-10 - (ptext (tokR (g 27) m N)).1.2.1)) = gc at cy i2
        have v179 : gc 179 0 = w32 (-10 - (ptext (tokR (g 27) m N)).1.2.1) := by rw [← egc, up_s]
        have qc : ∀ q, q ≠ 26 → q ≠ 179 → gc q = g1 q := fun q a b => by rw [← egc, up_at, if_neg b, e2, up_at, if_neg a]
        refine rText (g := g) (nt := nt) p1 p2 p4 p5 h3 h1 hr.1.2 hr.2.1 hr.2.2 (cy.1 119 (by decide) (by decide)) (fun f => cy.2 f (by simp)) hN (fun z => by omega) (fun _ g' hc sq s123 v0 v26 v34 => ⟨fun _ y => ?_, fun z => absurd z hft⟩)
        have cg : Ch txC txF g g' := (cy.sub (by decide) (by decide)).tr (hc.sub (by decide) (by decide))
        have q1 : ∀ q, q ∉ [123, 124, 125, 126, 127, 128, 129, 120, 121, 122] → q ≠ 99 → q ≠ 26 → q ≠ 179 → g' q = g1 q := fun q a b c d => by rw [hc.1 q a b]; exact qc q c d
        refine ⟨⟨by omega, v0, fun _ => by rw [hc.1 179 (by decide) (by decide)]; exact v179⟩, ?_, ?_, cg, fun z => z.fr cg (by decide)⟩
        · refine ⟨nt, L, b, al, h1, ?_, y.2.1, ?_, h5, ?_, h7, fun t ht => ?_, ?_, ?_, ?_, ?_, ?_⟩
          · rw [q1 39 (by decide) (by decide) (by decide) (by decide), hx.1.1 39 (by decide) (by decide)]; exact h2
          · rw [q1 31 (by decide) (by decide) (by decide) (by decide)]; exact eL
          · rw [q1 31 (by decide) (by decide) (by decide) (by decide)]; exact eb
          · refine (h8 t ht).grow (M := nt) (fun q hq => ?_) (fun q hq i hi => ?_) (fun i hi => ?_) ht (fun q hq i hi => ?_) (fun i hi => ?_) (Nat.le_refl _) (Nat.le_refl _)
            · have : g' q = g q := by
                simp only [List.mem_cons, List.not_mem_nil, or_false] at hq
                rcases hq with z | z | z | z | z | z | z <;> subst z
                · rw [hc.1 41 (by decide) (by decide), cy.1 41 (by decide) (by decide)]
                · rw [hc.1 42 (by decide) (by decide), cy.1 42 (by decide) (by decide)]
                · rw [hc.1 43 (by decide) (by decide), cy.1 43 (by decide) (by decide)]
                · rw [hc.1 44 (by decide) (by decide), cy.1 44 (by decide) (by decide)]
                · rw [y.2.2.1, cy.1 120 (by decide) (by decide)]
                · rw [y.2.2.2.1, cy.1 121 (by decide) (by decide)]
                · rw [y.2.2.2.2, cy.1 122 (by decide) (by decide)]
              rw [this]
            · rw [q1 q (by simp at hq ⊢; omega) (by simp at hq; omega) (by simp at hq; omega) (by simp at hq; omega)]; exact hx.2.2.1 q hq i hi
            · rw [q1 38 (by decide) (by decide) (by decide) (by decide)]; exact hx.2.2.2.1 i hi
            · rw [sq q hq i hi, cy.1 q (by simp at hq ⊢; omega) (by simp at hq; omega)]
            · rw [s123 i hi, cy.1 123 (by decide) (by decide)]
          · rw [q1 40 (by decide) (by decide) (by decide) (by decide), q1 42 (by decide) (by decide) (by decide) (by decide), hx.1.1 40 (by decide) (by decide), hx.1.1 42 (by decide) (by decide)]; exact h9
          · rw [q1 39 (by decide) (by decide) (by decide) (by decide), hx.1.1 39 (by decide) (by decide)]; exact h10
          · rw [q1 39 (by decide) (by decide) (by decide) (by decide), q1 46 (by decide) (by decide) (by decide) (by decide), hx.1.1 39 (by decide) (by decide), hx.1.1 46 (by decide) (by decide)]; exact h11
          · rw [v34, q1 31 (by decide) (by decide) (by decide) (by decide)]; exact hx.2.2.2.2.1.symm
          · rw [y.1, q1 31 (by decide) (by decide) (by decide) (by decide)]; exact hx.2.2.2.2.2.1.symm
        · have z26 : g' 26 1 = 0 := by rw [hc.1 26 (by decide) (by decide)]; exact i2
          refine ⟨by omega, by rw [v26, z26], ?_, fun i hi => by omega, ?_⟩
          · rw [cg.1 27 (by decide) (by decide)]; exact p3
          · rw [cg.1 119 (by decide) (by decide)]; exact p5
      · rw [w32_of (by omega) (by omega)] at z; exact absurd (show _ < w32 0 by rw [show w32 0 = 0 from rfl]; omega) z
    · rw [hN'.one hN] at hx hft eL hl eb ⊢
      clear hN' N'
      obtain ⟨b', eb, b1, b2, b3⟩ := eb
      refine zX11_text_63 ?_
      intro g2 e2
      have c2 : Ch [26, 28, 29, 30, 31, 32, 33, 34, 35, 36, 37, 38] [] g g2 := by
        rw [e2]; exact hx.1.up (by decide) (by decide)
      have awf := ptext_awf hN hft
      have pl := ptext_pl hft
      have f31 : g2 31 4 - ((ptext (tokR (g 27) m N)).2.length : Int) = (L : Int) := by rw [e2, up_q (by decide), eL]; omega
      generalize hls : (ptext (tokR (g 27) m N)).2 = ls at *
      refine ⟨fun z => ?_, fun _ => ?_⟩
      · exfalso
        rw [w32_of (by omega) (by omega), show w32 0 = 0 from rfl] at z; omega
      refine sX3_addText (d := d + 217) (nt := nt) (by rw [c2.1 39 (by decide) (by decide)]; exact h2) (by omega) (by rw [c2.1 40 (by decide) (by decide), c2.1 42 (by decide) (by decide)]; exact h9) (fun t ht => by rw [c2.1 42 (by decide) (by decide)]; exact (h8 t ht).2.1) hr.2.2 (fun g3 p hp c3 a39 a3 a40 a41 a42 a43 a44 aO => ?_)
      rw [f31] at a43
      refine zX11_text_89 ?_
      have cy : Ch [26, 28, 29, 30, 31, 32, 33, 34, 35, 36, 37, 38, 39, 40, 41, 42, 43, 44, 179] [] g (mx_up g3 179 0 (w32 (ls.length : Int))) := ((c2.sub (by decide) (by decide)).tr (c3.sub (by decide) (by decide))).up (by decide) (by decide)
      generalize egc : mx_up g3 179 0 (w32 (ls.length : Int)) = gc at cy
      have v179 : gc 179 0 = w32 (ls.length : Int) := by rw [← egc, up_s]
      have qc : ∀ q, q ≠ 179 → gc q = g3 q := fun q b => by rw [← egc, up_at, if_neg b]
      refine rText (g := g) (nt := nt) p1 p2 p4 p5 h3 h1 hr.1.2 hr.2.1 hr.2.2 (cy.1 119 (by decide) (by decide)) (fun f => cy.2 f (by simp)) hN (fun z => by omega) (fun _ g' hc sq s123 v0 v26 v34 => ⟨fun z => absurd hft z, fun _ v35 v36 v120 v121 v122 hR => ?_⟩)
      rw [hls] at v122 hR ⊢
      have cg : Ch txC txF g g' := (cy.sub (by decide) (by decide)).tr (hc.sub (by decide) (by decide))
      have q3 : ∀ q, q ∉ [123, 124, 125, 126, 127, 128, 129, 120, 121, 122] → q ≠ 99 → q ≠ 179 → g' q = g3 q := fun q a b d => by rw [hc.1 q a b]; exact qc q d
      have q1 : ∀ q, q ∉ [123, 124, 125, 126, 127, 128, 129, 120, 121, 122] → q ≠ 99 → q ≠ 179 → q ∉ [39, 40, 41, 42, 43, 44] → q ≠ 26 → g' q = g1 q := fun q a b d e f => by rw [q3 q a b d, c3.1 q e b, e2, up_at, if_neg f]
      refine ⟨⟨by omega, v0, fun _ => by rw [hc.1 179 (by decide) (by decide)]; exact v179⟩, ?_, ?_, cg, fun z => z.fr cg (by decide)⟩
      · refine ⟨nt + 1, L + ls.length, b', fun t => if t = nt then ls else al t, by omega, ?_, ?_, ?_, by omega, ?_, by omega, fun t ht => ?_, ?_, ?_, ?_, ?_, ?_⟩
        · rw [q3 39 (by decide) (by decide) (by decide)]; exact a3
        · rw [v36]; omega
        · rw [q1 31 (by decide) (by decide) (by decide) (by decide) (by decide)]; exact eL
        · rw [q1 31 (by decide) (by decide) (by decide) (by decide) (by decide)]; exact eb
        · by_cases hz : t = nt
          · subst hz
            dsimp only
            rw [if_pos rfl]
            have w41 : g' 41 t = towns := by rw [q3 41 (by decide) (by decide) (by decide), a41, lset_s]
            have w42 : g' 42 t = day := by rw [q3 42 (by decide) (by decide) (by decide), a42, lset_s]
            have w43 : g' 43 t = L := by rw [q3 43 (by decide) (by decide) (by decide), a43, lset_s]
            have w44 : g' 44 t = ls.length := by rw [q3 44 (by decide) (by decide) (by decide), a44, lset_s]
            unfold TxI
            rw [w41, w42, w43, w44, v120, v121, v122, lset_s, lset_s, lset_s]
            refine ⟨hr.2.1, hr.2.2, rfl, rfl, rfl, rfl, hl, ⟨L, rfl, Nat.le_refl _, ?_⟩, hR, awf⟩
            exact b3.fr (L := L + ls.length) (Nat.le_refl _) (fun q hq i hi => by rw [q1 q (by simp at hq ⊢; omega) (by simp at hq; omega) (by simp at hq; omega) (by simp at hq ⊢; omega) (by simp at hq; omega)]) (fun i hi => by rw [q1 38 (by decide) (by decide) (by decide) (by decide) (by decide)]) (Nat.le_refl _)
          · dsimp only
            rw [if_neg hz]
            refine (h8 t (by omega)).grow (M := nt) (fun q hq => ?_) (fun q hq i hi => ?_) (fun i hi => ?_) (by omega) (fun q hq i hi => ?_) (fun i hi => ?_) (by omega) b1
            · simp only [List.mem_cons, List.not_mem_nil, or_false] at hq
              rcases hq with z | z | z | z | z | z | z <;> subst z
              · rw [q3 41 (by decide) (by decide) (by decide), a41, lset_n hz, c2.1 41 (by decide) (by decide)]
              · rw [q3 42 (by decide) (by decide) (by decide), a42, lset_n hz, c2.1 42 (by decide) (by decide)]
              · rw [q3 43 (by decide) (by decide) (by decide), a43, lset_n hz, c2.1 43 (by decide) (by decide)]
              · rw [q3 44 (by decide) (by decide) (by decide), a44, lset_n hz, c2.1 44 (by decide) (by decide)]
              · rw [v120, lset_n hz, cy.1 120 (by decide) (by decide)]
              · rw [v121, lset_n hz, cy.1 121 (by decide) (by decide)]
              · rw [v122, lset_n hz, cy.1 122 (by decide) (by decide)]
            · rw [q1 q (by simp at hq ⊢; omega) (by simp at hq; omega) (by simp at hq; omega) (by simp at hq ⊢; omega) (by simp at hq; omega)]; exact hx.2.2.1 q hq i hi
            · rw [q1 38 (by decide) (by decide) (by decide) (by decide) (by decide)]; exact hx.2.2.2.1 i hi
            · rw [sq q hq i hi, cy.1 q (by simp at hq ⊢; omega) (by simp at hq; omega)]
            · rw [s123 i hi, cy.1 123 (by decide) (by decide)]
        · rw [q3 40 (by decide) (by decide) (by decide), q3 42 (by decide) (by decide) (by decide)]; exact aO
        · rw [q3 39 (by decide) (by decide) (by decide), a39 11 (by decide), c2.1 39 (by decide) (by decide)]; exact h10
        · rw [q3 39 (by decide) (by decide) (by decide), a39 11 (by decide), c2.1 39 (by decide) (by decide), cg.1 46 (by decide) (by decide)]; exact h11
        · rw [v34, q1 31 (by decide) (by decide) (by decide) (by decide) (by decide)]; exact hx.2.2.2.2.1.symm
        · rw [v35, q1 31 (by decide) (by decide) (by decide) (by decide) (by decide), hx.2.2.2.2.2.1, pl]
      · have z26 : g' 26 1 = 0 := by rw [hc.1 26 (by decide) (by decide), qc 26 (by decide), c3.1 26 (by decide) (by decide), e2, up_s]
        refine ⟨by omega, by rw [v26, z26], ?_, fun i hi => by omega, ?_⟩
        · rw [cg.1 27 (by decide) (by decide)]; exact p3
        · rw [cg.1 119 (by decide) (by decide)]; exact p5
