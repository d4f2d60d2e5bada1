/-! the call text: what the class reads -/
def NTk (bt : Nat → Int) (n N : Nat) : Prop := (1 ≤ N ∧ N ≤ 401) ∧ ((tk bt n (N - 1) 0).1 = 155 ∨ (tk bt n (N - 1) 0).1 = 156) ∧ ∀ i, i + 1 < N → ¬ (tk bt n i 0).1 = 155 ∧ ¬ (tk bt n i 0).1 = 156
theorem NTk.one {bt : Nat → Int} {n N N' : Nat} (h : NTk bt n N) (h' : NTk bt n N') : N = N' := by
  obtain ⟨a, b, c⟩ := h
  obtain ⟨a', b', c'⟩ := h'
  rcases Nat.lt_trichotomy N N' with z | z | z
  · have := c' (N - 1) (by omega); omega
  · exact z
  · have := c (N' - 1) (by omega); omega
def RtX (g g' : mz_S) (L B : Nat) (r : pS × List pA) : Prop := Ch [26, 28, 29, 30, 31, 32, 33, 34, 35, 36, 37, 38] [] g g' ∧ (∀ q, q ≠ 5 → g' 26 q = g 26 q) ∧ (∀ q ∈ [32, 33, 34, 35, 36, 37], ∀ i, i < L → g' q i = g q i) ∧ (∀ i, i < B → g' 38 i = g 38 i) ∧ g' 31 2 = r.1.2.1 ∧ g' 31 3 = r.1.2.2.1 ∧ (0 ≤ r.1.2.1 ∧ r.1.2.1 ≤ 5)
theorem sX7_readText {T : Nat × (Nat → Int32)} {d : Nat} {Q : mz_K} {X : mz_X} {g : mz_S} {n L B : Nat} (hb : WfBy g) (hn : n ≤ 400) (hL : L ≤ 120) (hB : B ≤ 2000) (eL : g 31 4 = L) (eB : g 31 11 = B) (hd : 190 ≤ d)
    (k1 : ∀ g' N, NTk (g 27) n N → RtX g g' L B (ptext (tokR (g 27) n N)) → ¬ (ptext (tokR (g 27) n N)).1.2.1 = 0 → g' 31 4 = L → g' 31 11 = B → Q (-10 - (ptext (tokR (g 27) n N)).1.2.1) g')
    (k2 : ∀ g' N, NTk (g 27) n N → RtX g g' L B (ptext (tokR (g 27) n N)) → (ptext (tokR (g 27) n N)).1.2.1 = 0 → g' 31 4 = ((L + (ptext (tokR (g 27) n N)).2.length : Nat) : Int) → (ptext (tokR (g 27) n N)).2.length ≤ 24 → (∃ b : Nat, g' 31 11 = b ∧ B ≤ b ∧ b ≤ B + 400 ∧ LnsC g' L b (ptext (tokR (g 27) n N)).2) → Q ((ptext (tokR (g 27) n N)).2.length : Int) g') : zC T (d + 1) 93 [mx_R 31, mx_I (n : Int)] g Q X := by
  obtain ⟨d, rfl⟩ : ∃ d', d = d' + 9 := ⟨d - 9, by omega⟩
  refine zX7_readText (sX8_cut hb hn (fun g1 hg1 => ?_))
  obtain ⟨a1, a2, a3, N, a4, a5, a6, a7, a8, a9⟩ := hg1
  intro g2 e2
  intro g3 e3
  intro g4 e4
  have nt : NTk (g 27) n N := ⟨by omega, by rw [show N - 1 = N - 1 - 0 by omega]; exact a8, fun i hi => a9 i (by omega)⟩
  have c4 : Ch [31] [] g1 g4 := by rw [e4, e3, e2]; exact (((Ch.rf g1).up (by decide) (by decide)).up (by decide) (by decide)).up (by decide) (by decide)
  have c14 : Ch [26, 28, 29, 30, 31] [] g g4 := (a1.sub (by decide) (by decide)).tr (c4.sub (by decide) (by decide))
  have q31 : ∀ p, p ≠ 1 → p ≠ 2 → p ≠ 3 → g4 31 p = g 31 p := fun p h1 h2 h3 => by
    rw [e4, up_i h3, e3, up_i h2, e2, up_i h1, a1.1 31 (by decide) (by decide)]
  have f28 : ∀ q, q ∈ [26, 28, 29, 30] → g4 q = g1 q := fun q hq => c4.1 q (by simp at hq ⊢; omega) (by simp at hq; omega)
  have tw : TkW g4 N := by
    refine ⟨by omega, by rw [f28 26 (by decide)]; exact a6, fun i hi => ?_, ?_⟩
    · have q := a7 i (by omega)
      rw [Nat.zero_add] at q
      have ok := tk_ok (b := g 27) (n := n) i 0 (Nat.zero_le _)
      rw [f28 28 (by decide), f28 30 (by decide), q.1, q.2.2]
      exact ⟨ok.1, ok.2.2.2.2⟩
    · have q := (a7 (N - 1) (by omega)).1
      rw [Nat.zero_add] at q
      rw [f28 28 (by decide), q]
      exact nt.2.1
  have et : tokC g4 N = tokR (g 27) n N := by
    unfold tokC tokR
    refine Prod.ext ?_ (Prod.ext ?_ ?_)
    · funext i
      dsimp only
      split
      · next z => have q := a7 i (by omega); rw [Nat.zero_add] at q; rw [f28 28 (by decide), q.1]
      · rfl
    · funext i
      dsimp only
      split
      · next z => have q := a7 i (by omega); rw [Nat.zero_add] at q; rw [f28 29 (by decide), q.2.1]
      · rfl
    · funext i
      dsimp only
      split
      · next z => have q := a7 i (by omega); rw [Nat.zero_add] at q; rw [f28 30 (by decide), q.2.2]
      · rfl
  have r0 : RdP N (0, 0, -1, []) g4 := ⟨by rw [e4, up_i (by decide), e3, up_i (by decide), e2, up_s]; rfl, by rw [e4, up_i (by decide), e3, up_s], by rw [e4, up_s], by show 0 < N; omega, by dsimp only; omega⟩
  have L4 : g4 31 4 = ((L + 0 : Nat) : Int) := by rw [q31 4 (by decide) (by decide) (by decide), eL]; rfl
  have B4 : g4 31 11 = (B : Int) := by rw [q31 11 (by decide) (by decide) (by decide), eB]
  rw [L4, B4]
  refine rt_loop (d := d + 9) (L := L) (B := B) tw hL hB (by omega) 26 0 (0, 0, -1, []) [] g4 (by omega) (by omega) rfl ⟨Ch.rf g4, fun _ _ _ _ => rfl, fun _ _ => rfl⟩ r0 (fun _ => ⟨L4, rfl, by omega, B, B4, Nat.le_refl _, by show B ≤ B + 0; omega, fun j hj => absurd hj (Nat.not_lt_zero _)⟩) (fun g' j hg' => ?_)
  rw [et] at hg'
  have hg : RtOut g4 N L B (ptext (tokR (g 27) n N)) g' := hg'
  generalize hr : ptext (tokR (g 27) n N) = r at hg k1 k2
  obtain ⟨hF, hP, hO⟩ := hg
  have cc : Ch [26, 28, 29, 30, 31, 32, 33, 34, 35, 36, 37, 38] [] g g' := (c14.sub (by decide) (by decide)).tr (hF.1.sub (by decide) (by decide))
  have s26 : ∀ q, q ≠ 5 → g' 26 q = g 26 q := fun q hq => by rw [hF.1.1 26 (by decide) (by decide), f28 26 (by decide)]; exact a2 q hq
  have sq : ∀ q ∈ [32, 33, 34, 35, 36, 37], ∀ i, i < L → g' q i = g q i := fun q hq i hi => by rw [hF.2.1 q hq i hi, c14.1 q (by simp at hq ⊢; omega) (by simp at hq; omega)]
  have s38 : ∀ i, i < B → g' 38 i = g 38 i := fun i hi => by rw [hF.2.2 i hi, c14.1 38 (by decide) (by decide)]
  have hft := hP.2.2.2.2
  refine zX7_readText_65 ?_
  rw [hP.2.1]
  first | with_reducible refine c_lt ?_ ?_ (fun z => ?_) (fun z => ?_) | with_reducible refine c_le ?_ ?_ (fun z => ?_) (fun z => ?_) | with_reducible refine c_eq ?_ ?_ (fun z => ?_) (fun z => ?_) | with_reducible refine c_ne ?_ ?_ (fun z => ?_) (fun z => ?_)
  · omega
  · omega
  · intro g5 e5
    intro g6 e6
    have v2 : g6 31 2 = r.1.2.1 := by rw [e6, up_i (by decide), e5, up_i (by decide)]; exact hP.2.1
    rw [v2]
    have c6 : Ch [31] [] g' g6 := by rw [e6, e5]; exact ((Ch.rf g').up (by decide) (by decide)).up (by decide) (by decide)
    have v3 : g6 31 3 = r.1.2.2.1 := by rw [e6, up_i (by decide), e5, up_i (by decide)]; exact hP.2.2.1
    have k := k1 g6 N nt
    rw [hr] at k
    refine k ⟨cc.tr (c6.sub (by decide) (by decide)), fun q hq => by rw [c6.1 26 (by decide) (by decide)]; exact s26 q hq, fun q hq i hi => by rw [c6.1 q (by simp at hq ⊢; omega) (by simp at hq; omega)]; exact sq q hq i hi, fun i hi => by rw [c6.1 38 (by decide) (by decide)]; exact s38 i hi, v2, v3, hft⟩ z (by rw [e6, up_i (by decide), e5, up_s]; omega) (by rw [e6, up_s])
  · obtain ⟨o1, o2, o3⟩ := hO z
    rw [o1, show ((L + r.2.length : Nat) : Int) - ((L + 0 : Nat) : Int) = (r.2.length : Int) by omega]
    have k := k2 g' N nt
    rw [hr] at k
    exact k ⟨cc, s26, sq, s38, hP.2.1, hP.2.2.1, hft⟩ z o1 o2 o3
/-- the reference's text -/
theorem sX12_text {T : Nat × (Nat → Int32)} {d : Nat} {Q : mz_K} {X : mz_X} {g : mz_S} {n tt : Nat} {towns day : Int} (hb : ∀ i, i < 400 → 0 ≤ g 119 i ∧ g 119 i ≤ 255) (hn : (n : Int) ≤ g 99 26) (ht6 : 0 ≤ g 99 26 ∧ g 99 26 ≤ 400) (et : g 99 36 = tt) (ht : tt ≤ 6) (ht1 : 1 ≤ towns ∧ towns ≤ 255) (hd1 : 0 ≤ day ∧ day ≤ 999) (hd : 200 ≤ d)
    (k0 : tt = 6 → Q (-1) (mx_up (mx_up g 99 0 0) 99 26 0))
    (k1 : tt < 6 → ∀ N, NTk (g 119) n N → ∀ g', Ch [123, 124, 125, 126, 127, 128, 129, 120, 121, 122] [0, 26, 27, 28, 29, 30, 31, 32, 33, 34, 35, 36, 37, 38] g g' → (∀ q ∈ [124, 125, 126, 127, 128, 129], ∀ i, i < 24 * tt → g' q i = g q i) → (∀ i, i < 700 * tt → g' 123 i = g 123 i) → g' 99 0 = 0 → g' 99 26 = 0 → g' 99 34 = (ptext (tokR (g 119) n N)).1.2.1 → (¬ (ptext (tokR (g 119) n N)).1.2.1 = 0 → g' 99 35 = (ptext (tokR (g 119) n N)).1.2.2.1 ∧ g' 99 36 = tt ∧ g' 120 = g 120 ∧ g' 121 = g 121 ∧ g' 122 = g 122 → Q (-10 - (ptext (tokR (g 119) n N)).1.2.1) g') ∧ ((ptext (tokR (g 119) n N)).1.2.1 = 0 → g' 99 35 = -1 → g' 99 36 = tt + 1 → g' 120 = lset (g 120) tt towns → g' 121 = lset (g 121) tt day → g' 122 = lset (g 122) tt ((ptext (tokR (g 119) n N)).2.length : Int) → LnsR g' tt 700 (ptext (tokR (g 119) n N)).2 → Q ((ptext (tokR (g 119) n N)).2.length : Int) g')) (hNT : ∃ N, NTk (g 119) n N) : zC T (d + 1) 264 [mx_R 99, mx_I (n : Int), mx_I towns, mx_I day] g Q X := by
  obtain ⟨N, nt⟩ := hNT
  obtain ⟨d, rfl⟩ : ∃ d', d = d' + 3 := ⟨d - 3, by omega⟩
  refine zX12_text ?_
  intro g1 e1
  have f26 : g1 99 26 = g 99 26 := by rw [e1, up_i (by decide)]
  rw [f26, w32_of (n := g 99 26) (by omega) (by omega)]
  refine sX12_withinW (by omega) (by omega) (by omega) ?_
  first | with_reducible refine b_eq (fun z1 => ?_) (fun z1 => ?_) | with_reducible refine b_ne (fun z1 => ?_) (fun z1 => ?_)
  · omega
  · refine sX12_withinW (by omega) (by omega) (by omega) ?_
    first | with_reducible refine b_eq (fun z2 => ?_) (fun z2 => ?_) | with_reducible refine b_ne (fun z2 => ?_) (fun z2 => ?_)
    · omega
    · refine sX12_isDay (by omega) ?_
      first | with_reducible refine b_eq (fun z3 => ?_) (fun z3 => ?_) | with_reducible refine b_ne (fun z3 => ?_) (fun z3 => ?_)
      · intro g5 e5
        have f36 : g5 99 36 = tt := by rw [e5, up_i (by decide), e1, up_i (by decide)]; exact et
        rw [f36]
        first | with_reducible refine c_lt ?_ ?_ (fun z4 => ?_) (fun z4 => ?_) | with_reducible refine c_le ?_ ?_ (fun z4 => ?_) (fun z4 => ?_) | with_reducible refine c_eq ?_ ?_ (fun z4 => ?_) (fun z4 => ?_) | with_reducible refine c_ne ?_ ?_ (fun z4 => ?_) (fun z4 => ?_)
        · omega
        · omega
        · have ht' : tt < 6 := by omega
          intro g6 e6
          intro g7 e7
          intro g8 e8
          intro g9 e9
          intro g10 e10
          have c10 : Ch [] [0, 26, 27, 28, 32, 37, 38] g g10 := by
            rw [e10, e9, e8, e7, e6, e5, e1]
            exact (((((((Ch.rf g).up9 (by decide)).up9 (by decide)).up9 (by decide)).up9 (by decide)).up9 (by decide)).up9 (by decide)).up9 (by decide)
          have q119 : g10 119 = g 119 := c10.1 119 (by decide) (by decide)
          have v27 : g10 99 27 = n := by rw [e10, up_i (by decide), e9, up_i (by decide), e8, up_i (by decide), e7, up_i (by decide), e6, up_s]
          have v28 : g10 99 28 = ((0 : Nat) : Int) := by rw [e10, up_i (by decide), e9, up_i (by decide), e8, up_i (by decide), e7, up_s]; rfl
          refine sX12_goesOn v27 (by omega) v28 (by omega) (by rw [q119]; exact hb) (fun c hc htk => ?_)
          rw [q119] at htk
          have cg : Ch [] [0, 26, 27, 28, 29, 30, 31, 32, 37, 38] g c := (c10.sub (by decide) (by decide)).tr (hc.sub (by decide) (by decide))
          have c119 : c 119 = g 119 := cg.1 119 (by decide) (by decide)
          have w32' : c 99 32 = 0 := by rw [hc.2 32 (by decide), e10, up_i (by decide), e9, up_i (by decide), e8, up_s]
          have w37 : c 99 37 = 0 := by rw [hc.2 37 (by decide), e10, up_i (by decide), e9, up_s]
          have w38 : c 99 38 = 0 := by rw [hc.2 38 (by decide), e10, up_s]
          have w36 : c 99 36 = tt := by rw [cg.2 36 (by decide)]; exact et
          have w27 : c 99 27 = n := by rw [hc.2 27 (by decide)]; exact v27
          have hW : RdW c n N tt := ⟨by omega, nt.1, w27, w36, ht', by rw [c119]; exact hb, by rw [c119]; exact nt.2.1, by rw [c119]; exact nt.2.2⟩
          have r0 : RdR c n N tt 0 0 (0, 0, -1, []) c := by
            refine ⟨Ch.rf c, fun _ _ => rfl, w32', by dsimp only; omega, fun z => absurd rfl z, by have := nt.1; show 0 < N; omega, fun _ => ⟨?_, w38, ?_, fun i hi => absurd hi (Nat.not_lt_zero _)⟩⟩
            · rw [c119]; exact htk
            · rw [w37]; rfl
          have := rtR_loop (T := T) (d := d + 3) (Q := Q) (X := X) (u := (0, 0)) (x1 := (n : Int)) (x2 := towns) (x3 := day) hW (by omega) 26 0 (0, 0, -1, []) [] c 0 (by omega) (by omega) rfl ⟨Ch.rf c, fun _ _ _ _ => rfl, fun _ _ => rfl⟩ r0 (fun _ => ⟨rfl, by omega, fun j hj => absurd hj (Nat.not_lt_zero _)⟩) (fun g' j hg' hj => ?_)
          · exact this
          · rw [c119] at hg' hj
            have hg : RtOutR c n N tt (ptext (tokR (g 119) n N)) g' := hg'
            have hj : (ptext (tokR (g 119) n N)).1.2.1 = 0 → j = (ptext (tokR (g 119) n N)).2.length := hj
            have k := k1 ht' N nt
            have plz := ptext_pl (t := tokR (g 119) n N)
            generalize ptext (tokR (g 119) n N) = r at hg hj k plz
            obtain ⟨hF, h32, hft, h33, hO⟩ := hg
            have cc : Ch [123, 124, 125, 126, 127, 128, 129] [0, 26, 27, 28, 29, 30, 31, 32, 33, 37, 38] g g' := (cg.sub (by decide) (by decide)).tr (hF.1.sub (by decide) (by decide))
            have v0 : g' 99 0 = 0 := by rw [hF.1.2 0 (by decide), hc.2 0 (by decide), e10, up_i (by decide), e9, up_i (by decide), e8, up_i (by decide), e7, up_i (by decide), e6, up_i (by decide), e5, up_i (by decide), e1, up_s]
            have v26 : g' 99 26 = 0 := by rw [hF.1.2 26 (by decide), hc.2 26 (by decide), e10, up_i (by decide), e9, up_i (by decide), e8, up_i (by decide), e7, up_i (by decide), e6, up_i (by decide), e5, up_s]
            have v36 : g' 99 36 = tt := by rw [cc.2 36 (by decide)]; exact et
            have sq : ∀ q ∈ [124, 125, 126, 127, 128, 129], ∀ i, i < 24 * tt → g' q i = g q i := fun q hq i hi => by rw [hF.2.1 q hq i hi, cg.1 q (by simp) (by simp at hq; omega)]
            have s123 : ∀ i, i < 700 * tt → g' 123 i = g 123 i := fun i hi => by rw [hF.2.2 i hi, cg.1 123 (by decide) (by decide)]
            refine zX12_text_118 ?_
            intro gA eA
            have a32 : gA 99 32 = r.1.2.1 := by rw [eA, up_i (by decide)]; exact h32
            have a33 : gA 99 33 = g' 99 33 := by rw [eA, up_i (by decide)]
            rw [a32, a33]
            first | with_reducible refine c_lt ?_ ?_ (fun y => ?_) (fun y => ?_) | with_reducible refine c_le ?_ ?_ (fun y => ?_) (fun y => ?_) | with_reducible refine c_eq ?_ ?_ (fun y => ?_) (fun y => ?_) | with_reducible refine c_ne ?_ ?_ (fun y => ?_) (fun y => ?_)
            · omega
            · omega
            · rw [h33 y]
              refine zX12_text_142 ?_
              intro gB eB
              have b32 : gB 99 32 = r.1.2.1 := by rw [eB, up_i (by decide)]; exact a32
              rw [b32]
              first | with_reducible refine c_lt ?_ ?_ (fun y2 => ?_) (fun y2 => ?_) | with_reducible refine c_le ?_ ?_ (fun y2 => ?_) (fun y2 => ?_) | with_reducible refine c_eq ?_ ?_ (fun y2 => ?_) (fun y2 => ?_) | with_reducible refine c_ne ?_ ?_ (fun y2 => ?_) (fun y2 => ?_)
              · omega
              · omega
              · exact absurd y2 y
              · have cB : Ch [123, 124, 125, 126, 127, 128, 129, 120, 121, 122] [0, 26, 27, 28, 29, 30, 31, 32, 33, 34, 35, 36, 37, 38] g gB := by
                  rw [eB, eA]; exact ((cc.sub (by decide) (by decide)).up9 (by decide)).up9 (by decide)
                have qB : ∀ q, q ≠ 99 → gB q = g' q := fun q hq => by rw [eB, up_at, if_neg hq, eA, up_at, if_neg hq]
                refine (k gB cB (fun q hq i hi => by rw [qB q (by simp at hq; omega)]; exact sq q hq i hi) (fun i hi => by rw [qB 123 (by decide)]; exact s123 i hi) (by rw [eB, up_i (by decide), eA, up_i (by decide)]; exact v0) (by rw [eB, up_i (by decide), eA, up_i (by decide)]; exact v26) (by rw [eB, up_i (by decide), eA, up_s]; exact h32)).1 y ⟨by rw [eB, up_s], by rw [eB, up_i (by decide), eA, up_i (by decide)]; exact v36, ?_, ?_, ?_⟩
                · rw [qB 120 (by decide), cc.1 120 (by decide) (by decide)]
                · rw [qB 121 (by decide), cc.1 121 (by decide) (by decide)]
                · rw [qB 122 (by decide), cc.1 122 (by decide) (by decide)]
            · rw [hj y]
              obtain ⟨o1, o2⟩ := hO y
              refine zX12_text_142 ?_
              intro gB eB
              have b32 : gB 99 32 = r.1.2.1 := by rw [eB, up_i (by decide)]; exact a32
              have b36 : gB 99 36 = tt := by rw [eB, up_i (by decide), eA, up_i (by decide)]; exact v36
              rw [b32, b36]
              first | with_reducible refine c_lt ?_ ?_ (fun y2 => ?_) (fun y2 => ?_) | with_reducible refine c_le ?_ ?_ (fun y2 => ?_) (fun y2 => ?_) | with_reducible refine c_eq ?_ ?_ (fun y2 => ?_) (fun y2 => ?_) | with_reducible refine c_ne ?_ ?_ (fun y2 => ?_) (fun y2 => ?_)
              · omega
              · omega
              · refine s_inN ?_ (fun ea => ?_)
                · omega
                try simp only [ea]
                clear ea
                intro gC eC
                rw [show gC 99 36 = tt by rw [eC, up_q (by decide)]; exact b36]
                refine s_inN ?_ (fun ea => ?_)
                · omega
                try simp only [ea]
                clear ea
                intro gD eD
                rw [show gD 99 36 = tt by rw [eD, up_q (by decide), eC, up_q (by decide)]; exact b36]
                refine s_inN ?_ (fun ea => ?_)
                · omega
                try simp only [ea]
                clear ea
                intro gE eE
                rw [show gE 99 36 = tt by rw [eE, up_q (by decide), eD, up_q (by decide), eC, up_q (by decide)]; exact b36]
                intro gF eF
                have cF : Ch [123, 124, 125, 126, 127, 128, 129, 120, 121, 122] [0, 26, 27, 28, 29, 30, 31, 32, 33, 34, 35, 36, 37, 38] g gF := by
                  rw [eF, eE, eD, eC, eB, eA]
                  exact ((((((cc.sub (by decide) (by decide)).up9 (by decide)).up9 (by decide)).up (by decide) (by decide)).up (by decide) (by decide)).up (by decide) (by decide)).up9 (by decide)
                have q9 : ∀ f, f ≠ 36 → f ≠ 35 → f ≠ 34 → gF 99 f = g' 99 f := fun f h1 h2 h3 => by rw [eF, up_i h1, eE, up_q (by decide), eD, up_q (by decide), eC, up_q (by decide), eB, up_i h2, eA, up_i h3]
                have qF : ∀ q, q ≠ 99 → q ≠ 120 → q ≠ 121 → q ≠ 122 → gF q = g' q := fun q h1 h2 h3 h4 => by rw [eF, up_at, if_neg h1, eE, up_at, if_neg h4, eD, up_at, if_neg h3, eC, up_at, if_neg h2, eB, up_at, if_neg h1, eA, up_at, if_neg h1]
                refine (k gF cF (fun q hq i hi => by rw [qF q (by simp at hq; omega) (by simp at hq; omega) (by simp at hq; omega) (by simp at hq; omega)]; exact sq q hq i hi) (fun i hi => by rw [qF 123 (by decide) (by decide) (by decide) (by decide)]; exact s123 i hi) (by rw [q9 0 (by decide) (by decide) (by decide)]; exact v0) (by rw [q9 26 (by decide) (by decide) (by decide)]; exact v26) ?_).2 y ?_ ?_ ?_ ?_ ?_ ?_
                · rw [eF, up_i (by decide), eE, up_q (by decide), eD, up_q (by decide), eC, up_q (by decide), eB, up_i (by decide), eA, up_s]; exact h32
                · rw [eF, up_i (by decide), eE, up_q (by decide), eD, up_q (by decide), eC, up_q (by decide), eB, up_s]
                · rw [eF, up_s]
                · have : g' 120 = g 120 := cc.1 120 (by decide) (by decide)
                  rw [eF, eE, eD, eC, eB, eA]; simp [up_at, this]
                · have : g' 121 = g 121 := cc.1 121 (by decide) (by decide)
                  rw [eF, eE, eD, eC, eB, eA]; simp [up_at, this]
                · have : g' 122 = g 122 := cc.1 122 (by decide) (by decide)
                  rw [eF, eE, eD, eC, eB, eA]; simp [up_at, this]
                · intro jj hjj
                  obtain ⟨a, a1, a2⟩ := o2 jj hjj
                  exact ⟨a, a1.fr (b := 700) (fun q hq => by rw [qF q (by simp at hq; omega) (by simp at hq; omega) (by simp at hq; omega) (by simp at hq; omega)]) (fun i _ => by rw [qF 123 (by decide) (by decide) (by decide) (by decide)]) a2, a2⟩
              · exact absurd y y2
        · have := k0 (by omega)
          rw [← e1, ← e5] at this
          exact this
      · omega
