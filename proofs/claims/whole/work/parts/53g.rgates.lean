/-! gates of the reference; atom, one; all members together -/
theorem CodR.patch {g g' : mz_S} {A B i : Nat} {l : List (Int × Int)} (h : CodR g A B l) (hi : i < l.length) (hk : (l.getD i (0, 0)).1 = 150 ∨ (l.getD i (0, 0)).1 = 151) (hg : ∀ j, j ≠ A + B + offR l i + 1 → g' 123 j = g 123 j) (hv : g' 123 (A + B + offR l i + 1) = ((B + lenR l : Nat) : Int)) : CodR g' A B (l.set i ((l.getD i (0, 0)).1, (l.length : Int))) := by
  intro j hj
  rw [List.length_set] at hj ⊢
  simp only [offR_set]
  have a := h j hj
  by_cases z : j = i
  · subst z
    have eg : (l.set j ((l.getD j (0, 0)).1, (l.length : Int))).getD j (0, 0) = ((l.getD j (0, 0)).1, (l.length : Int)) := by
      rw [List.getD_eq_getElem?_getD, List.getElem?_set_self hj]; rfl
    rw [eg]
    refine ⟨by rw [hg _ (by omega)]; exact a.1, fun y => ?_, fun _ _ => ⟨⟨by dsimp only; omega, by dsimp only; omega⟩, ?_⟩⟩
    · dsimp only at y; omega
    · rw [hv]; rfl
  · have eg : (l.set i ((l.getD i (0, 0)).1, (l.length : Int))).getD j (0, 0) = l.getD j (0, 0) := by
      rw [List.getD_eq_getElem?_getD, List.getElem?_set_ne (fun y => z y.symm), ← List.getD_eq_getElem?_getD]
    rw [eg]
    have s1 := offR_step (l := l) hj
    have s2 := offR_step (l := l) hi
    have s3 : szR (l.getD i (0, 0)) = 2 := if_pos (by omega)
    have ne : A + B + offR l j ≠ A + B + offR l i + 1 := by
      rcases Nat.lt_or_ge j i with y | y
      · have := offR_mono (l := l) (i := j) (j := i) (by omega) (by omega); omega
      · have := offR_mono (l := l) (i := i + 1) (j := j) (by omega) (by omega); omega
    have ne2 : ∀ y : szR (l.getD j (0, 0)) = 2, A + B + offR l j + 1 ≠ A + B + offR l i + 1 := by
      intro _
      rcases Nat.lt_or_ge j i with y | y
      · have := offR_mono (l := l) (i := j) (j := i) (by omega) (by omega); omega
      · have := offR_mono (l := l) (i := i + 1) (j := j) (by omega) (by omega); omega
    refine ⟨by rw [hg _ ne]; exact a.1, fun y => ?_, fun y y2 => ⟨(a.2.2 y y2).1, ?_⟩⟩
    · rw [hg _ (ne2 (if_pos (by omega)))]; exact a.2.1 y
    · rw [hg _ (ne2 (if_pos (by omega)))]; exact (a.2.2 y y2).2
theorem SR_l5 {T : Nat × (Nat → Int32)} {c : mz_S} {n N tt B f : Nat} (hW : RdW c n N tt) (iha : SRa T c n N tt B f) (ihl : SRl T c n N tt B f) (op : Nat) (s : pS) (d : Nat) (Q : mz_K) (X : mz_X) (g : mz_S) (u : Nat × Nat) (o : Option mx_v) (hp : PreR c n N tt B 11 (f + 1) 5 op s g) (hd : depR 6 op ≤ d) (kk : ∀ g', RdR c n N tt B op (prs (tokR (c 119) n N) (f + 1) 5 op s) g' → Q 0 g') : aX12_readPart T d Q X 4 [some (mx_R 99), o] [] g u := by
  obtain ⟨p1, p2, p3, p4⟩ := hp
  have hN := hW.pN
  have hn1 := hW.2.1
  have hr := pkR_rng (c := c) (n := n) p3.2.2.2.2.2.1
  unfold depR at hd
  obtain ⟨d, rfl⟩ : ∃ d', d = d' + 6 := ⟨d - 6, by omega⟩
  rw [prs_5] at kk
  refine zX12_readPart_4 (sW_and p3 ?_)
  first | with_reducible refine b_eq (fun z1 => ?_) (fun z1 => ?_) | with_reducible refine b_ne (fun z1 => ?_) (fun z1 => ?_)
  · rw [if_neg z1] at kk
    exact kk g p3
  · rw [if_pos z1] at kk
    have hs := pM_adv hN (s := s) (by omega)
    have PH := plcH_R hW
    have pa := (plc_adv PH (s := s) (by omega)).2 (by omega)
    have e2 : (padv s).2.2.2 = s.2.2.2 := rfl
    have e3 : (padv s).2.1 = 0 := hs.2.1
    have le := len_emit (k := 151) (v := 0) e3
    have ll : (pemit 151 0 (padv s)).2.2.2.length = s.2.2.2.length + 1 := by rw [le.1, List.length_append, e2]; rfl
    have lr : lenR (pemit 151 0 (padv s)).2.2.2 = lenR s.2.2.2 + 2 := by rw [le.1, e2, lenR_app1]; rfl
    have plp := plcT_le (c := c) (n := n) (padv s).1
    have hn4 := hW.1
    have t6 := hW.2.2.2.2.1
    refine sX12_next hW p3 (by omega) (fun g2 r2 => ?_)
    have e32 : g2 99 32 = 0 := by rw [r2.2.2.1]; exact e3
    have e36 : g2 99 36 = tt := by rw [r2.1.2 36 (by decide)]; exact hW.2.2.2.1
    have e37 : g2 99 37 = ((B + lenR s.2.2.2 : Nat) : Int) := (r2.2.2.2.2.2.2 e3).2.2.1
    refine sX12_emitR (c := c) (n := n) (N := N) (m := B + lenR s.2.2.2) r2.fb (fun z => absurd e32 z) e36 (fun _ => e37) (fun _ => by omega) (fun _ => ?_)
    obtain ⟨g3, eg3⟩ : ∃ g3, g3 = mx_up (mx_up g2 123 (700 * tt + (B + lenR s.2.2.2)) 2) 99 37 ((B + lenR s.2.2.2 + 1 : Nat) : Int) := ⟨_, rfl⟩
    rw [← eg3]
    have f32 : g3 99 32 = 0 := by rw [eg3, up_i (by decide), up_q (by decide)]; exact e32
    have f36 : g3 99 36 = tt := by rw [eg3, up_i (by decide), up_q (by decide)]; exact e36
    have f37 : g3 99 37 = ((B + lenR s.2.2.2 + 1 : Nat) : Int) := by rw [eg3, up_s]
    rw [f37]
    refine sX12_emitR (c := c) (n := n) (N := N) (m := B + lenR s.2.2.2 + 1) (by omega) (fun z => absurd f32 z) f36 (fun _ => f37) (fun _ => by omega) (fun _ => ?_)
    obtain ⟨g4, eg4⟩ : ∃ g4, g4 = mx_up (mx_up g3 123 (700 * tt + (B + lenR s.2.2.2 + 1)) 0) 99 37 ((B + lenR s.2.2.2 + 1 + 1 : Nat) : Int) := ⟨_, rfl⟩
    rw [← eg4]
    have r4 : RdR c n N tt B op (pemit 151 0 (padv s)) g4 := by
      refine r2.emit e3 ?_ ?_ (fun i hi => ?_) ?_ (fun z => absurd z (by decide)) (fun _ => rfl)
      · rw [eg4, eg3]; exact ((((Ch.rf g2).up (by decide) (by decide)).up9 (by decide)).up (by decide) (by decide)).up9 (by decide)
      · rw [eg4, up_s]; rfl
      · rw [e2] at hi
        rw [eg4, up_q (by decide), up_i (by omega), eg3, up_q (by decide), up_i (by omega)]
      · rw [e2, eg4, up_q (by decide), up_i (by omega), eg3, up_q (by decide), show 700 * tt + B + lenR s.2.2.2 = 700 * tt + (B + lenR s.2.2.2) by omega, up_s]; rfl
    have M := pM_le hN (f := f) (sel := 6) (n := op) (s := pemit 151 0 (padv s)) (by decide)
    rw [pM_emit] at M
    have P : pPh (plcT c n) 1 (pemit 151 0 (padv s)) (prs (tokR (c 119) n N) f 6 op (pemit 151 0 (padv s))) := prs_Ph PH f 6 (by decide) op (pemit 151 0 (padv s))
    unfold pPh at P
    rw [lr, le.2.1] at P
    obtain ⟨l, hl⟩ := (prs_G hN f 6 (by decide) op (pemit 151 0 (padv s))).2.2
    refine iha.2.2.2.1 op _ (d + 6) _ _ g4 ⟨p1, by rw [pM_emit]; omega, r4, by rw [lr, le.2.1]; omega⟩ (by unfold depR; omega) (fun g5 r5 => ?_)
    have next : ∀ g6, RdR c n N tt B op (ppatch s.2.2.2.length (prs (tokR (c 119) n N) f 6 op (pemit 151 0 (padv s)))) g6 → aX12_readPart T (d + 6) Q X 63 [some (mx_R 99), some (mx_I ((B + lenR s.2.2.2 + 1 : Nat) : Int))] [] g6 u := by
      intro g6 r6
      have pn : (ppatch s.2.2.2.length (prs (tokR (c 119) n N) f 6 op (pemit 151 0 (padv s)))).1 = (prs (tokR (c 119) n N) f 6 op (pemit 151 0 (padv s))).1 := rfl
      exact zX12_readPart_63 (ihl.2.2.1 op _ (d + 6) Q X g6 u _ ⟨p1, by rw [pM_patch]; omega, r6, by rw [lenR_patch, pn]; omega⟩ (by unfold depR; omega) kk)
    have h5 := r5.fb
    have h53 := r5.2.2.1
    first | with_reducible refine c_lt ?_ ?_ (fun y => ?_) (fun y => ?_) | with_reducible refine c_le ?_ ?_ (fun y => ?_) (fun y => ?_) | with_reducible refine c_eq ?_ ?_ (fun y => ?_) (fun y => ?_) | with_reducible refine c_ne ?_ ?_ (fun y => ?_) (fun y => ?_)
    · omega
    · omega
    · have hb : ¬ (prs (tokR (c 119) n N) f 6 op (pemit 151 0 (padv s))).2.1 = 0 := by rw [← h53]; exact y
      refine next g5 ⟨r5.1, r5.2.1, r5.2.2.1, r5.2.2.2.1, r5.2.2.2.2.1, r5.2.2.2.2.2.1, fun z => absurd z hb⟩
    · have hb : (prs (tokR (c 119) n N) f 6 op (pemit 151 0 (padv s))).2.1 = 0 := by rw [← h53]; exact y
      obtain ⟨tk5, b1, b2, b3⟩ := r5.2.2.2.2.2.2 hb
      have g36 : g5 99 36 = tt := by rw [r5.1.2 36 (by decide)]; exact hW.2.2.2.1
      have pl5 := plcT_le (c := c) (n := n) (prs (tokR (c 119) n N) f 6 op (pemit 151 0 (padv s))).1
      have lp : s.2.2.2.length < (prs (tokR (c 119) n N) f 6 op (pemit 151 0 (padv s))).2.2.2.length := by rw [hl, List.length_append, ll]; omega
      have gt : (prs (tokR (c 119) n N) f 6 op (pemit 151 0 (padv s))).2.2.2.getD s.2.2.2.length (0, 0) = (151, 0) := by
        rw [hl, le.1, e2, List.append_assoc, List.getD_eq_getElem?_getD, List.getElem?_append_right (Nat.le_refl _), Nat.sub_self]; rfl
      have of : offR (prs (tokR (c 119) n N) f 6 op (pemit 151 0 (padv s))).2.2.2 s.2.2.2.length = lenR s.2.2.2 := by
        rw [hl, le.1, e2, List.append_assoc, offR_app (Nat.le_refl _)]; rfl
      rw [g36, b2]
      refine s_inE (700 * tt + (B + lenR s.2.2.2 + 1)) ?_ ?_ (fun ea => ?_)
      · omega
      · omega
      try simp only [ea]
      clear ea
      intro g6 e6
      refine next g6 ?_
      have c6 : Ch [123] [] g5 g6 := by rw [e6]; exact (Ch.rf g5).up (by decide) (by decide)
      refine ⟨r5.1.tr (c6.sub (by decide) (by decide)), fun i hi => ?_, ?_, r5.2.2.2.1, fun z => absurd hb z, r5.2.2.2.2.2.1, fun _ => ⟨tk5.fr c6 (by decide) (by decide), ?_, ?_, ?_⟩⟩
      · rw [e6, up_i (by omega)]; exact r5.2.1 i hi
      · rw [c6.2 32 (by decide)]; exact h53
      · rw [c6.2 38 (by decide)]; exact b1
      · rw [c6.2 37 (by decide), b2, lenR_patch]
      · have := b3.patch (i := s.2.2.2.length) (g' := g6) lp (by rw [gt]; decide) (fun j hj => by rw [e6, up_i (by rw [of] at hj; omega)]) (by rw [e6, of, show 700 * tt + B + lenR s.2.2.2 + 1 = 700 * tt + (B + lenR s.2.2.2 + 1) by omega, up_s])
        exact this
theorem SR_l8 {T : Nat × (Nat → Int32)} {c : mz_S} {n N tt B f : Nat} (hW : RdW c n N tt) (iha : SRa T c n N tt B f) (ihl : SRl T c n N tt B f) (op : Nat) (s : pS) (d : Nat) (Q : mz_K) (X : mz_X) (g : mz_S) (u : Nat × Nat) (o : Option mx_v) (hp : PreR c n N tt B 11 (f + 1) 8 op s g) (hd : depR 8 op ≤ d) (kk : ∀ g', RdR c n N tt B op (prs (tokR (c 119) n N) (f + 1) 8 op s) g' → Q 0 g') : aX12_readTest T d Q X 4 [some (mx_R 99), o] [] g u := by
  obtain ⟨p1, p2, p3, p4⟩ := hp
  have hN := hW.pN
  have hn1 := hW.2.1
  have hr := pkR_rng (c := c) (n := n) p3.2.2.2.2.2.1
  unfold depR at hd
  obtain ⟨d, rfl⟩ : ∃ d', d = d' + 6 := ⟨d - 6, by omega⟩
  rw [prs_8] at kk
  refine zX12_readTest_4 (sW_or p3 ?_)
  first | with_reducible refine b_eq (fun z1 => ?_) (fun z1 => ?_) | with_reducible refine b_ne (fun z1 => ?_) (fun z1 => ?_)
  · rw [if_neg z1] at kk
    exact kk g p3
  · rw [if_pos z1] at kk
    have hs := pM_adv hN (s := s) (by omega)
    have PH := plcH_R hW
    have pa := (plc_adv PH (s := s) (by omega)).2 (by omega)
    have e2 : (padv s).2.2.2 = s.2.2.2 := rfl
    have e3 : (padv s).2.1 = 0 := hs.2.1
    have le := len_emit (k := 150) (v := 0) e3
    have ll : (pemit 150 0 (padv s)).2.2.2.length = s.2.2.2.length + 1 := by rw [le.1, List.length_append, e2]; rfl
    have lr : lenR (pemit 150 0 (padv s)).2.2.2 = lenR s.2.2.2 + 2 := by rw [le.1, e2, lenR_app1]; rfl
    have plp := plcT_le (c := c) (n := n) (padv s).1
    have hn4 := hW.1
    have t6 := hW.2.2.2.2.1
    refine sX12_next hW p3 (by omega) (fun g2 r2 => ?_)
    have e32 : g2 99 32 = 0 := by rw [r2.2.2.1]; exact e3
    have e36 : g2 99 36 = tt := by rw [r2.1.2 36 (by decide)]; exact hW.2.2.2.1
    have e37 : g2 99 37 = ((B + lenR s.2.2.2 : Nat) : Int) := (r2.2.2.2.2.2.2 e3).2.2.1
    refine sX12_emitR (c := c) (n := n) (N := N) (m := B + lenR s.2.2.2) r2.fb (fun z => absurd e32 z) e36 (fun _ => e37) (fun _ => by omega) (fun _ => ?_)
    obtain ⟨g3, eg3⟩ : ∃ g3, g3 = mx_up (mx_up g2 123 (700 * tt + (B + lenR s.2.2.2)) 1) 99 37 ((B + lenR s.2.2.2 + 1 : Nat) : Int) := ⟨_, rfl⟩
    rw [← eg3]
    have f32 : g3 99 32 = 0 := by rw [eg3, up_i (by decide), up_q (by decide)]; exact e32
    have f36 : g3 99 36 = tt := by rw [eg3, up_i (by decide), up_q (by decide)]; exact e36
    have f37 : g3 99 37 = ((B + lenR s.2.2.2 + 1 : Nat) : Int) := by rw [eg3, up_s]
    rw [f37]
    refine sX12_emitR (c := c) (n := n) (N := N) (m := B + lenR s.2.2.2 + 1) (by omega) (fun z => absurd f32 z) f36 (fun _ => f37) (fun _ => by omega) (fun _ => ?_)
    obtain ⟨g4, eg4⟩ : ∃ g4, g4 = mx_up (mx_up g3 123 (700 * tt + (B + lenR s.2.2.2 + 1)) 0) 99 37 ((B + lenR s.2.2.2 + 1 + 1 : Nat) : Int) := ⟨_, rfl⟩
    rw [← eg4]
    have r4 : RdR c n N tt B op (pemit 150 0 (padv s)) g4 := by
      refine r2.emit e3 ?_ ?_ (fun i hi => ?_) ?_ (fun z => absurd z (by decide)) (fun _ => rfl)
      · rw [eg4, eg3]; exact ((((Ch.rf g2).up (by decide) (by decide)).up9 (by decide)).up (by decide) (by decide)).up9 (by decide)
      · rw [eg4, up_s]; rfl
      · rw [e2] at hi
        rw [eg4, up_q (by decide), up_i (by omega), eg3, up_q (by decide), up_i (by omega)]
      · rw [e2, eg4, up_q (by decide), up_i (by omega), eg3, up_q (by decide), show 700 * tt + B + lenR s.2.2.2 = 700 * tt + (B + lenR s.2.2.2) by omega, up_s]; rfl
    have M := pM_le hN (f := f) (sel := 7) (n := op) (s := pemit 150 0 (padv s)) (by decide)
    rw [pM_emit] at M
    have P : pPh (plcT c n) 1 (pemit 150 0 (padv s)) (prs (tokR (c 119) n N) f 7 op (pemit 150 0 (padv s))) := prs_Ph PH f 7 (by decide) op (pemit 150 0 (padv s))
    unfold pPh at P
    rw [lr, le.2.1] at P
    obtain ⟨l, hl⟩ := (prs_G hN f 7 (by decide) op (pemit 150 0 (padv s))).2.2
    refine iha.2.2.2.2.1 op _ (d + 6) _ _ g4 ⟨p1, by rw [pM_emit]; omega, r4, by rw [lr, le.2.1]; omega⟩ (by unfold depR; omega) (fun g5 r5 => ?_)
    have next : ∀ g6, RdR c n N tt B op (ppatch s.2.2.2.length (prs (tokR (c 119) n N) f 7 op (pemit 150 0 (padv s)))) g6 → aX12_readTest T (d + 6) Q X 63 [some (mx_R 99), some (mx_I ((B + lenR s.2.2.2 + 1 : Nat) : Int))] [] g6 u := by
      intro g6 r6
      have pn : (ppatch s.2.2.2.length (prs (tokR (c 119) n N) f 7 op (pemit 150 0 (padv s)))).1 = (prs (tokR (c 119) n N) f 7 op (pemit 150 0 (padv s))).1 := rfl
      exact zX12_readTest_63 (ihl.2.2.2 op _ (d + 6) Q X g6 u _ ⟨p1, by rw [pM_patch]; omega, r6, by rw [lenR_patch, pn]; omega⟩ (by unfold depR; omega) kk)
    have h5 := r5.fb
    have h53 := r5.2.2.1
    first | with_reducible refine c_lt ?_ ?_ (fun y => ?_) (fun y => ?_) | with_reducible refine c_le ?_ ?_ (fun y => ?_) (fun y => ?_) | with_reducible refine c_eq ?_ ?_ (fun y => ?_) (fun y => ?_) | with_reducible refine c_ne ?_ ?_ (fun y => ?_) (fun y => ?_)
    · omega
    · omega
    · have hb : ¬ (prs (tokR (c 119) n N) f 7 op (pemit 150 0 (padv s))).2.1 = 0 := by rw [← h53]; exact y
      refine next g5 ⟨r5.1, r5.2.1, r5.2.2.1, r5.2.2.2.1, r5.2.2.2.2.1, r5.2.2.2.2.2.1, fun z => absurd z hb⟩
    · have hb : (prs (tokR (c 119) n N) f 7 op (pemit 150 0 (padv s))).2.1 = 0 := by rw [← h53]; exact y
      obtain ⟨tk5, b1, b2, b3⟩ := r5.2.2.2.2.2.2 hb
      have g36 : g5 99 36 = tt := by rw [r5.1.2 36 (by decide)]; exact hW.2.2.2.1
      have pl5 := plcT_le (c := c) (n := n) (prs (tokR (c 119) n N) f 7 op (pemit 150 0 (padv s))).1
      have lp : s.2.2.2.length < (prs (tokR (c 119) n N) f 7 op (pemit 150 0 (padv s))).2.2.2.length := by rw [hl, List.length_append, ll]; omega
      have gt : (prs (tokR (c 119) n N) f 7 op (pemit 150 0 (padv s))).2.2.2.getD s.2.2.2.length (0, 0) = (150, 0) := by
        rw [hl, le.1, e2, List.append_assoc, List.getD_eq_getElem?_getD, List.getElem?_append_right (Nat.le_refl _), Nat.sub_self]; rfl
      have of : offR (prs (tokR (c 119) n N) f 7 op (pemit 150 0 (padv s))).2.2.2 s.2.2.2.length = lenR s.2.2.2 := by
        rw [hl, le.1, e2, List.append_assoc, offR_app (Nat.le_refl _)]; rfl
      rw [g36, b2]
      refine s_inE (700 * tt + (B + lenR s.2.2.2 + 1)) ?_ ?_ (fun ea => ?_)
      · omega
      · omega
      try simp only [ea]
      clear ea
      intro g6 e6
      refine next g6 ?_
      have c6 : Ch [123] [] g5 g6 := by rw [e6]; exact (Ch.rf g5).up (by decide) (by decide)
      refine ⟨r5.1.tr (c6.sub (by decide) (by decide)), fun i hi => ?_, ?_, r5.2.2.2.1, fun z => absurd hb z, r5.2.2.2.2.2.1, fun _ => ⟨tk5.fr c6 (by decide) (by decide), ?_, ?_, ?_⟩⟩
      · rw [e6, up_i (by omega)]; exact r5.2.1 i hi
      · rw [c6.2 32 (by decide)]; exact h53
      · rw [c6.2 38 (by decide)]; exact b1
      · rw [c6.2 37 (by decide), b2, lenR_patch]
      · have := b3.patch (i := s.2.2.2.length) (g' := g6) lp (by rw [gt]; decide) (fun j hj => by rw [e6, up_i (by rw [of] at hj; omega)]) (by rw [e6, of, show 700 * tt + B + lenR s.2.2.2 + 1 = 700 * tt + (B + lenR s.2.2.2 + 1) by omega, up_s])
        exact this
/-- opens -/
theorem RdR.op {c : mz_S} {n N tt B op op' : Nat} {s : pS} {g : mz_S} {v : Int} (h : RdR c n N tt B op s g) (hv : s.2.1 = 0 → v = op') : RdR c n N tt B op' s (mx_up g 99 38 v) := by
  obtain ⟨a1, a2, a3, a4, a5, a6, a7⟩ := h
  have cc : Ch [] [38] g (mx_up g 99 38 v) := (Ch.rf g).up9 (by decide)
  refine ⟨a1.up9 (by decide), fun i hi => by rw [up_q (by decide)]; exact a2 i hi, by rw [up_i (by decide)]; exact a3, a4, fun z => by rw [up_i (by decide)]; exact a5 z, a6, fun z => ?_⟩
  obtain ⟨b1, b2, b3, b4⟩ := a7 z
  exact ⟨b1.fr cc (by decide) (by decide), by rw [up_s]; exact hv z, by rw [up_i (by decide)]; exact b3, b4.fr (fun i _ => by rw [up_q (by decide)])⟩
theorem sX12_opens {T : Nat × (Nat → Int32)} {d : Nat} {Q : mz_K} {X : mz_X} {g : mz_S} {c : mz_S} {n N tt B op : Nat} {s : pS} (hW : RdW c n N tt) (h : RdR c n N tt B op s g) (ho : op ≤ 5) (hk : ¬ pk (tokR (c 119) n N) s = 155 ∧ ¬ pk (tokR (c 119) n N) s = 156) (k1 : 5 ≤ op → ∀ g', RdR c n N tt B op (pfail (tokR (c 119) n N) 5 s) g' → Q 0 g') (k2 : op < 5 → ∀ g', RdR c n N tt B (op + 1) (padv s) g' → Q 1 g') : zC T (d + 3) 254 [mx_R 99] g Q X := by
  have hs := pk_n hW.pN hk
  have e38 : g 99 38 = op := (h.2.2.2.2.2.2 hs.1).2.1
  refine zX12_opens ?_
  rw [e38]
  first | with_reducible refine c_lt ?_ ?_ (fun z => ?_) (fun z => ?_) | with_reducible refine c_le ?_ ?_ (fun z => ?_) (fun z => ?_) | with_reducible refine c_eq ?_ ?_ (fun z => ?_) (fun z => ?_) | with_reducible refine c_ne ?_ ?_ (fun z => ?_) (fun z => ?_)
  · omega
  · omega
  · rintro _ rfl
    exact sX12_next hW (h.op (op' := op + 1) (fun _ => by omega)) hk (fun g' hg' => ⟨zb1, k2 (by omega) g' hg'⟩)
  · exact sX12_wrong h (by omega) (fun g' hg' => ⟨zb0, k1 (by omega) g' hg'⟩)
theorem SR_atom {T : Nat × (Nat → Int32)} {c : mz_S} {n N tt B f : Nat} (hW : RdW c n N tt) (iha : SRa T c n N tt B f) : metR T c n N tt B (f + 1) 0 255 := by
  intro op s d Q X g hp hd k
  obtain ⟨p1, p2, p3, p4⟩ := hp
  have hN := hW.pN
  have hn1 := hW.2.1
  have hr := pkR_rng (c := c) (n := n) p3.2.2.2.2.2.1
  have hfb := p3.fb
  have h32 := p3.2.2.1
  unfold depR at hd
  obtain ⟨d, rfl⟩ : ∃ d', d = d' + 8 := ⟨d - 8, by omega⟩
  have hn4 := hW.1
  have plp := plcT_le (c := c) (n := n) s.1
  refine zX12_readAtom ?_
  first | with_reducible refine c_lt ?_ ?_ (fun z0 => ?_) (fun z0 => ?_) | with_reducible refine c_le ?_ ?_ (fun z0 => ?_) (fun z0 => ?_) | with_reducible refine c_eq ?_ ?_ (fun z0 => ?_) (fun z0 => ?_) | with_reducible refine c_ne ?_ ?_ (fun z0 => ?_) (fun z0 => ?_)
  · omega
  · omega
  · have ft0 : s.2.1 = 0 := by rw [← h32]; exact z0
    obtain ⟨t1, t2, t3, t4, t5, t6⟩ := (p3.2.2.2.2.2.2 ft0).1
    have tr := tcl_rng (tk (c 119) n s.1 0).1
    have ek : pk (tokR (c 119) n N) s = (tk (c 119) n s.1 0).1 := by rw [pk_ok ft0]; exact if_pos p3.2.2.2.2.2.1
    have tc := (tcl_c (tk (c 119) n s.1 0).1).2.2.1
    rw [prs_0] at k
    refine sX12_nameNow p3 ?_
    rw [t3]
    first | with_reducible refine c_lt ?_ ?_ (fun z1 => ?_) (fun z1 => ?_) | with_reducible refine c_le ?_ ?_ (fun z1 => ?_) (fun z1 => ?_) | with_reducible refine c_eq ?_ ?_ (fun z1 => ?_) (fun z1 => ?_) | with_reducible refine c_ne ?_ ?_ (fun z1 => ?_) (fun z1 => ?_)
    · omega
    · omega
    · have n154 : ¬ pk (tokR (c 119) n N) s = 154 := fun y => z1 (tc.mpr (by rw [← ek]; exact y))
      rw [if_neg n154] at k
      by_cases z2 : 136 ≤ pk (tokR (c 119) n N) s ∧ pk (tokR (c 119) n N) s ≤ 144
      · rw [if_pos z2] at k ⊢
        first | with_reducible refine c_lt ?_ ?_ (fun y => ?_) (fun y => ?_) | with_reducible refine c_le ?_ ?_ (fun y => ?_) (fun y => ?_) | with_reducible refine c_eq ?_ ?_ (fun y => ?_) (fun y => ?_) | with_reducible refine c_ne ?_ ?_ (fun y => ?_) (fun y => ?_)
        · omega
        · omega
        · omega
        · refine sX12_emit1 (k := pk (tokR (c 119) n N) s) hW p3 (fun _ => by omega) ?_ (by omega) (fun g1 r1 => ?_)
          · unfold opcR
            rw [if_neg (by omega), if_neg (by omega), if_neg (by omega), if_neg (by omega), if_neg (by omega), if_neg (by omega), if_neg (by omega), if_neg (by omega), if_neg (by omega), if_neg (by omega), if_neg (by omega), if_neg (by omega)]
          · exact sX12_next hW r1 (by rw [pk_emit]; omega) (fun g2 r2 => zX12_readAtom_106 (k g2 r2))
      · rw [if_neg z2] at k ⊢
        refine ⟨fun _ => ?_, fun y => absurd rfl y⟩
        refine sX12_isSign p3 (by omega) ?_
        first | with_reducible refine b_eq (fun z3 => ?_) (fun z3 => ?_) | with_reducible refine b_ne (fun z3 => ?_) (fun z3 => ?_)
        · rw [if_neg z3] at k
          exact sX12_wrong p3 (by omega) (fun g' hg' => zX12_readAtom_106 (k g' hg'))
        · rw [if_pos z3] at k
          have hs := pM_adv hN (s := s) (by omega)
          have pa := (plc_adv (plcH_R hW) (s := s) (by omega)).1
          refine sX12_opens hW p3 p1 (by omega) (fun h5 g' hg' => ?_) (fun h5 g' hg' => ?_)
          · rw [if_pos h5] at k
            exact ⟨fun y => absurd rfl y, fun _ => k g' hg'⟩
          · rw [if_neg (by omega)] at k
            refine ⟨fun _ => ?_, fun y => absurd (by decide) y⟩
            have e2 : (padv s).2.2.2 = s.2.2.2 := rfl
            refine iha.2.2.1 (op + 1) (padv s) (d + 7) _ _ g' ⟨by omega, by omega, hg', by rw [e2]; omega⟩ (by unfold depR; omega) (fun g2 r2 => ?_)
            refine sX12_need hW r2 (by omega) (fun g3 r3 => ?_)
            rintro _ rfl
            refine zX12_readAtom_106 (k _ (r3.op (fun z => ?_)))
            have := (r3.2.2.2.2.2.2 z).2.1
            omega
    · have e154 : pk (tokR (c 119) n N) s = 154 := by rw [ek]; exact tc.mp z1
      rw [if_pos e154] at k
      have e37 := (p3.2.2.2.2.2.2 ft0).2.2.1
      have t7 := hW.2.2.2.2.1
      have e36 : g 99 36 = tt := by rw [p3.1.2 36 (by decide)]; exact hW.2.2.2.1
      refine sX12_emitR (c := c) (n := n) (N := N) (m := B + lenR s.2.2.2) hfb (fun y => absurd z0 y) e36 (fun _ => e37) (fun _ => by omega) (fun _ => ?_)
      obtain ⟨g3, eg3⟩ : ∃ g3, g3 = mx_up (mx_up g 123 (700 * tt + (B + lenR s.2.2.2)) 0) 99 37 ((B + lenR s.2.2.2 + 1 : Nat) : Int) := ⟨_, rfl⟩
      rw [← eg3]
      have f32 : g3 99 32 = 0 := by rw [eg3, up_i (by decide), up_q (by decide)]; exact z0
      have f36 : g3 99 36 = tt := by rw [eg3, up_i (by decide), up_q (by decide)]; exact e36
      have f37 : g3 99 37 = ((B + lenR s.2.2.2 + 1 : Nat) : Int) := by rw [eg3, up_s]
      have f31 : g3 99 31 = (tokR (c 119) n N).2.2 s.1 := by
        rw [eg3, up_i (by decide), up_q (by decide), t4.1 (by rw [← ek]; exact e154)]
        exact (if_pos p3.2.2.2.2.2.1).symm
      rw [f31]
      refine sX12_emitR (c := c) (n := n) (N := N) (m := B + lenR s.2.2.2 + 1) (by omega) (fun z => absurd f32 z) f36 (fun _ => f37) (fun _ => by omega) (fun _ => ?_)
      obtain ⟨g4, eg4⟩ : ∃ g4, g4 = mx_up (mx_up g3 123 (700 * tt + (B + lenR s.2.2.2 + 1)) ((tokR (c 119) n N).2.2 s.1)) 99 37 ((B + lenR s.2.2.2 + 1 + 1 : Nat) : Int) := ⟨_, rfl⟩
      rw [← eg4]
      have r4 : RdR c n N tt B op (pemit 154 ((tokR (c 119) n N).2.2 s.1) s) g4 := by
        refine p3.emit ft0 ?_ ?_ (fun i hi => ?_) ?_ (fun _ => ?_) (fun z => absurd z (by decide))
        · rw [eg4, eg3]; exact ((((Ch.rf g).up (by decide) (by decide)).up9 (by decide)).up (by decide) (by decide)).up9 (by decide)
        · rw [eg4, up_s]; rfl
        · rw [eg4, up_q (by decide), up_i (by omega), eg3, up_q (by decide), up_i (by omega)]
        · rw [eg4, up_q (by decide), up_i (by omega), eg3, up_q (by decide), show 700 * tt + B + lenR s.2.2.2 = 700 * tt + (B + lenR s.2.2.2) by omega, up_s]; rfl
        · rw [eg4, up_q (by decide), show 700 * tt + B + lenR s.2.2.2 + 1 = 700 * tt + (B + lenR s.2.2.2 + 1) by omega, up_s]
      exact sX12_next hW r4 (by rw [pk_emit]; omega) (fun g2 r2 => zX12_readAtom_106 (k g2 r2))
  · have hb : ¬ s.2.1 = 0 := by rw [← h32]; exact z0
    rw [prs_bad _ _ 0 (by decide) _ _ hb] at k
    exact k g p3
