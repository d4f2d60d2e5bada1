/-! lines of the reference, one behind the other -/
theorem sX12_readLine {T : Nat × (Nat → Int32)} {d : Nat} {Q : mz_K} {X : mz_X} {g : mz_S} {n N tt B kk : Nat} {s : pS} (hW : RdW g n N tt) (h : RdR g n N tt B 0 s g) (h0 : s.2.2.2 = []) (hft : s.2.1 = 0) (hk : kk ≤ 24) (hB : 2 * B ≤ 3 * plcT g n s.1 + 6) (hd : 190 ≤ d)
    (k1 : ¬ (phead (tokR (g 119) n N) kk s).2.1 = 0 → ∀ g', RdR g n N tt B 0 (phead (tokR (g 119) n N) kk s) g' → Q 0 g')
    (k2 : phead (tokR (g 119) n N) kk s = s → kk ≠ 24 → ∀ g', LineR g g' (24 * tt + kk) (700 * tt + B) → (∃ B', RdR g' n N tt B' 0 (pre0 (pbody (tokR (g 119) n N) s).2) g' ∧ ((pbody (tokR (g 119) n N) s).2.2.1 = 0 → LnR g' tt (24 * tt + kk) (pbody (tokR (g 119) n N) s).1 B ∧ B ≤ B' ∧ 2 * B' ≤ 3 * plcT g n (pbody (tokR (g 119) n N) s).2.1 + 6 ∧ B' = B + lenR (sumR (pbody (tokR (g 119) n N) s).1) + lenR (pbody (tokR (g 119) n N) s).1.2.2.2.2)) → Q 0 g') : zC T (d + 1) 263 [mx_R 99, mx_I (kk : Int)] g Q X := by
  have hN := hW.pN
  have hn1 := hW.2.1
  have t6 := hW.2.2.2.2.1
  have hr := pkR_rng (c := g) (n := n) h.2.2.2.2.2.1
  obtain ⟨d, rfl⟩ : ∃ d', d = d' + 8 := ⟨d - 8, by omega⟩
  obtain ⟨t1, t2, t3, t4, t5, t6'⟩ := (h.2.2.2.2.2.2 hft).1
  have tr := tcl_rng (tk (g 119) n s.1 0).1
  have ek : pk (tokR (g 119) n N) s = (tk (g 119) n s.1 0).1 := by rw [pk_ok hft]; exact if_pos h.2.2.2.2.2.1
  have tc := (tcl_c (tk (g 119) n s.1 0).1).2.2.1
  have e32 : g 99 32 = 0 := by rw [h.2.2.1]; exact hft
  have e36 : g 99 36 = tt := hW.2.2.2.1
  have bad : ∀ g' (x2 : Int), ¬ (phead (tokR (g 119) n N) kk s).2.1 = 0 → RdR g n N tt B 0 (phead (tokR (g 119) n N) kk s) g' → aX12_readLine T (d + 8) Q X 45 [some (mx_R 99), some (mx_I (kk : Int)), some (mx_I x2), none] [] g' (0, 0) := by
    intro g' x2 z r'
    refine zX12_readLine_45 ?_
    have b' := r'.fb
    have e' := r'.2.2.1
    first | with_reducible refine c_lt ?_ ?_ (fun y => ?_) (fun y => ?_) | with_reducible refine c_le ?_ ?_ (fun y => ?_) (fun y => ?_) | with_reducible refine c_eq ?_ ?_ (fun y => ?_) (fun y => ?_) | with_reducible refine c_ne ?_ ?_ (fun y => ?_) (fun y => ?_)
    · omega
    · omega
    · exact absurd (by rw [← e']; exact y) z
    · exact k1 z g' r'
  have good : ∀ x2 : Int, (x2 = if pk (tokR (g 119) n N) s = 154 then 1 else 0) → phead (tokR (g 119) n N) kk s = s → kk ≠ 24 → aX12_readLine T (d + 8) Q X 45 [some (mx_R 99), some (mx_I (kk : Int)), some (mx_I x2), none] [] g (0, 0) := by
    intro x2 hx2 z z24
    have k2 := k2 z z24
    unfold pbody at k2
    refine zX12_readLine_45 ?_
    rw [e32, e36, show 24 * (tt : Int) + (kk : Int) = ((24 * tt + kk : Nat) : Int) by omega]
    refine ⟨fun _ => ?_, fun y => absurd rfl y⟩
    refine s_inN ?_ (fun ea => ?_)
    · omega
    try simp only [ea]
    clear ea
    intro g1 e1
    refine s_inN ?_ (fun ea => ?_)
    · omega
    try simp only [ea]
    clear ea
    intro g2 e2
    have f2 : LineR g g2 (24 * tt + kk) (700 * tt + B) := by rw [e2, e1]; exact ((LineR.rf g _ _).up (by decide) _).up (by decide) _
    have cc2 : Ch [124, 125, 126, 127, 128, 129] [] g g2 := by rw [e2, e1]; exact ((Ch.rf g).up (by decide) (by decide)).up (by decide) (by decide)
    have r2 : RdR g2 n N tt B 0 s g2 := h.re h0 cc2
    obtain ⟨hW2, t2'⟩ := f2.w hW
    have pl2 : ∀ i, plcT g2 n i = plcT g n i := fun i => by unfold plcT; rw [t2']
    unfold pnumb at k2
    have v0 : g2 125 (24 * tt + kk) = 0 := by rw [e2, up_q (by decide), e1, up_s]
    by_cases y2 : pk (tokR (g 119) n N) s = 154
    · rw [if_pos y2] at k2 hx2
      rw [hx2]
      refine ⟨fun y => absurd y (by decide), fun _ => ?_⟩
      refine sX12_readNumber hW2 r2 (fun g3 r3 => ?_)
      rw [t2'] at r3 ⊢
      have f3 : LineR g g3 (24 * tt + kk) (700 * tt + B) := f2.tr r3.line (Nat.le_refl _)
      refine s_inN ?_ (fun ea => ?_)
      · omega
      try simp only [ea]
      clear ea
      intro g4 e4
      have f4 : LineR g g4 (24 * tt + kk) (700 * tt + B) := by rw [e4]; exact f3.up (by decide) _
      obtain ⟨hW4, t4'⟩ := f4.w hW
      have p4 : (pnum (tokR (g 119) n N) s).2.2.2.2 = [] := by rw [pr_num]; exact h0
      have r4 := r3.re p4 (c' := g4) (by rw [e4]; exact up_ch (by decide))
      refine sX12_need hW4 r4 (by omega) (fun g5 r5 => ?_)
      rw [t4'] at r5
      have f5 : LineR g g5 (24 * tt + kk) (700 * tt + B) := f4.tr r5.line (Nat.le_refl _)
      obtain ⟨hW5, t5'⟩ := f5.w hW
      have p5 : (ptake (tokR (g 119) n N) 58 (pnum (tokR (g 119) n N) s).2).2.2.2 = [] := by rw [pr_take]; exact p4
      have r5' := r5.re p5 (c' := g5) (Ch.rf g5)
      have pl5 : ∀ i, plcT g5 n i = plcT g n i := fun i => by unfold plcT; rw [t5']
      have PH := plcH_R hW
      have mono : plcT g n s.1 ≤ plcT g n (ptake (tokR (g 119) n N) 58 (pnum (tokR (g 119) n N) s).2).1 := by
        have a1 : plcT g n s.1 ≤ plcT g n (pnum (tokR (g 119) n N) s).2.1 := by
          unfold pnum
          rw [if_pos y2]
          split
          · have := (plc_adv PH (s := s) (by omega)).1; show plcT g n s.1 ≤ plcT g n (padv s).1; omega
          · show plcT g n s.1 ≤ plcT g n (pfail _ 4 s).1; unfold pfail; split <;> exact Nat.le_refl _
        have a2 := pPh.take PH (s := (pnum (tokR (g 119) n N) s).2) (k := 58) (by decide)
        unfold pPh at a2
        rw [pr_take] at a2
        omega
      refine rr_97 hW5 r5' p5 (by omega) (by rw [pl5]; omega) (by omega) (fun g' f' v125 ⟨B', rb, rc⟩ => ?_)
      have v5 : g5 125 (24 * tt + kk) = (pnum (tokR (g 119) n N) s).1 := by rw [r5.1.1 125 (by decide) (by decide), e4, up_s]
      rw [t5'] at rb rc
      rw [v5] at rc
      refine k2 g' (f5.tr f' (Nat.le_refl _)) ⟨B', rb, fun z => ?_⟩
      have q := rc z
      rw [pl5] at q
      exact ⟨q.1, q.2.1, q.2.2.1, by rw [q.2.2.2]; congr 2; unfold psayR sumR; split <;> rfl⟩
    · rw [if_neg y2] at k2 hx2
      rw [hx2]
      refine ⟨fun _ => ?_, fun y => absurd rfl y⟩
      refine rr_97 hW2 r2 h0 (by omega) (by rw [pl2]; exact hB) (by omega) (fun g' f' v125 ⟨B', rb, rc⟩ => ?_)
      rw [t2'] at rb rc
      rw [v0] at rc
      refine k2 g' (f2.tr f' (Nat.le_refl _)) ⟨B', rb, fun z => ?_⟩
      have q := rc z
      rw [pl2] at q
      exact ⟨q.1, q.2.1, q.2.2.1, by rw [q.2.2.2]; congr 2; unfold psayR sumR; split <;> rfl⟩
  have at34 : ∀ x2 : Int, (x2 = if pk (tokR (g 119) n N) s = 154 then 1 else 0) → (pk (tokR (g 119) n N) s = 154 ∨ (128 ≤ pk (tokR (g 119) n N) s ∧ pk (tokR (g 119) n N) s ≤ 135)) → aX12_readLine T (d + 8) Q X 34 [some (mx_R 99), some (mx_I (kk : Int)), some (mx_I x2), none] [] g (0, 0) := by
    intro x2 hx2 z
    have e : phead (tokR (g 119) n N) kk s = if kk = 24 then pfail (tokR (g 119) n N) 3 s else s := by unfold phead; rw [if_neg (by omega)]
    refine zX12_readLine_34 ?_
    first | with_reducible refine c_lt ?_ ?_ (fun y => ?_) (fun y => ?_) | with_reducible refine c_le ?_ ?_ (fun y => ?_) (fun y => ?_) | with_reducible refine c_eq ?_ ?_ (fun y => ?_) (fun y => ?_) | with_reducible refine c_ne ?_ ?_ (fun y => ?_) (fun y => ?_)
    · omega
    · omega
    · exact good x2 hx2 (by rw [e, if_neg (by omega)]) (by omega)
    · rw [if_pos (by omega)] at e
      refine sX12_wrong h (by omega) (fun g' hg' => ?_)
      refine bad g' x2 ?_ (by rw [e]; exact hg')
      rw [e]; exact ft_fail (by decide)
  refine zX12_readLine ?_
  rw [t3]
  first | with_reducible refine c_lt ?_ ?_ (fun z1 => ?_) (fun z1 => ?_) | with_reducible refine c_le ?_ ?_ (fun z1 => ?_) (fun z1 => ?_) | with_reducible refine c_eq ?_ ?_ (fun z1 => ?_) (fun z1 => ?_) | with_reducible refine c_ne ?_ ?_ (fun z1 => ?_) (fun z1 => ?_)
  · omega
  · omega
  · have n154 : ¬ pk (tokR (g 119) n N) s = 154 := fun y => z1 (tc.mpr (by rw [← ek]; exact y))
    refine zX12_readLine_13 ⟨fun y => absurd rfl y, fun _ => sX12_saysNow h ?_⟩
    by_cases z2 : 128 ≤ pk (tokR (g 119) n N) s ∧ pk (tokR (g 119) n N) s ≤ 135
    · rw [if_pos z2]
      have hS : 0 ≤ (if pk (tokR (g 119) n N) s ≤ 131 then pk (tokR (g 119) n N) s - 128 else pk (tokR (g 119) n N) s - 126) ∧ (if pk (tokR (g 119) n N) s ≤ 131 then pk (tokR (g 119) n N) s - 128 else pk (tokR (g 119) n N) s - 126) ≤ 9 := by split <;> omega
      first | with_reducible refine c_lt ?_ ?_ (fun y => ?_) (fun y => ?_) | with_reducible refine c_le ?_ ?_ (fun y => ?_) (fun y => ?_) | with_reducible refine c_eq ?_ ?_ (fun y => ?_) (fun y => ?_) | with_reducible refine c_ne ?_ ?_ (fun y => ?_) (fun y => ?_)
      · omega
      · omega
      · exact at34 0 (by rw [if_neg n154]) (Or.inr z2)
      · omega
    · rw [if_neg z2]
      have e : phead (tokR (g 119) n N) kk s = pfail (tokR (g 119) n N) 2 s := by unfold phead; rw [if_pos ⟨n154, z2⟩]
      refine ⟨fun y => absurd rfl y, fun _ => sX12_wrong h (by omega) (fun g' hg' => ?_)⟩
      refine bad g' 0 ?_ (by rw [e]; exact hg')
      rw [e]; exact ft_fail (by decide)
  · have e154 : pk (tokR (g 119) n N) s = 154 := by rw [ek]; exact tc.mp z1
    refine zX12_readLine_13 ⟨fun _ => at34 1 (by rw [if_pos e154]) (Or.inl e154), fun y => absurd (by decide) y⟩
/-- what the reading leaves -/
def TextR (G G' : mz_S) (L M : Nat) : Prop := Ch [123, 124, 125, 126, 127, 128, 129] [28, 29, 30, 31, 32, 33, 37, 38] G G' ∧ (∀ q ∈ [124, 125, 126, 127, 128, 129], ∀ i, i < L → G' q i = G q i) ∧ ∀ i, i < M → G' 123 i = G 123 i
theorem TextR.tr {G G1 G2 : mz_S} {L M l m : Nat} (h : TextR G G1 L M) (h2 : LineR G1 G2 l m) (hl : L ≤ l) (hm : M ≤ m) : TextR G G2 L M := ⟨h.1.tr h2.1, fun q hq i hi => (h2.2.1 q hq i (by omega)).trans (h.2.1 q hq i hi), fun i hi => (h2.2.2 i (by omega)).trans (h.2.2 i hi)⟩
theorem TextR.w {G G' : mz_S} {n N tt L M : Nat} (h : TextR G G' L M) (hW : RdW G n N tt) : RdW G' n N tt ∧ G' 119 = G 119 :=
  ⟨hW.same (h.1.1 119 (by decide) (by decide)) (h.1.2 27 (by decide)) (h.1.2 36 (by decide)), h.1.1 119 (by decide) (by decide)⟩
def LnsR (g : mz_S) (tt b : Nat) (ls : List pA) : Prop := ∀ j, j < ls.length → ∃ a, LnR g tt (24 * tt + j) (ls.getD j (0, 0, 0, [], [])) a ∧ a + lenR (sumR (ls.getD j (0, 0, 0, [], []))) + lenR (ls.getD j (0, 0, 0, [], [])).2.2.2.2 ≤ b
theorem LnR.fr {g g' : mz_S} {tt l b a : Nat} {al : pA} (h : LnR g tt l al a) (hq : ∀ q ∈ [124, 125, 126, 127, 128, 129], g' q l = g q l) (hc : ∀ i, i < 700 * tt + b → g' 123 i = g 123 i) (hb : a + lenR (sumR al) + lenR al.2.2.2.2 ≤ b) : LnR g' tt l al a := by
  obtain ⟨h1, h2, h3, h4, h5, h6, h7, h8, h9⟩ := h
  refine ⟨?_, ?_, ?_, ?_, ?_, fun z => ?_, fun z => ?_, h8.fr (fun i hi => hc i (by omega)), h9.fr (fun i hi => hc i (by omega))⟩
  · rw [hq 127 (by decide)]; exact h1
  · rw [hq 128 (by decide)]; exact h2
  · rw [hq 129 (by decide)]; exact h3
  · rw [hq 125 (by decide)]; exact h4
  · rw [hq 124 (by decide)]; exact h5
  · rw [hq 126 (by decide)]; exact h6 z
  · rw [hq 126 (by decide)]; exact h7 z
def RtOutR (c : mz_S) (n N tt : Nat) (r : pS × List pA) (g' : mz_S) : Prop := TextR c g' (24 * tt) (700 * tt) ∧ g' 99 32 = r.1.2.1 ∧ (0 ≤ r.1.2.1 ∧ r.1.2.1 ≤ 5) ∧ (¬ r.1.2.1 = 0 → g' 99 33 = r.1.2.2.1) ∧ (r.1.2.1 = 0 → r.2.length ≤ 24 ∧ LnsR g' tt 700 r.2)
theorem rtR_loop {T : Nat × (Nat → Int32)} {d : Nat} {Q : mz_K} {X : mz_X} {c : mz_S} {u : Nat × Nat} {n N tt : Nat} {x1 x2 x3 : Int} (hW : RdW c n N tt) (hd : 195 ≤ d) (f : Nat) : ∀ (k : Nat) (s : pS) (ls : List pA) (g : mz_S) (B : Nat), k ≤ 24 → 26 - k ≤ f → s.2.2.2 = [] → TextR c g (24 * tt) (700 * tt) → RdR g n N tt B 0 s g → (s.2.1 = 0 → ls.length = k ∧ 2 * B ≤ 3 * plcT c n s.1 + 6 ∧ LnsR g tt B ls)
    → (∀ g' (j : Int), RtOutR c n N tt (pgo (tokR (c 119) n N) f k s ls) g' → ((pgo (tokR (c 119) n N) f k s ls).1.2.1 = 0 → j = (pgo (tokR (c 119) n N) f k s ls).2.length) → aX12_text T d Q X 118 [some (mx_R 99), some (mx_I x1), some (mx_I x2), some (mx_I x3), some (mx_I j)] [] g' u)
    → aX12_text T d Q X 92 [some (mx_R 99), some (mx_I x1), some (mx_I x2), some (mx_I x3), some (mx_I (k : Int))] [] g u := by
  obtain ⟨d, rfl⟩ : ∃ d', d = d' + 3 := ⟨d - 3, by omega⟩
  have hn4 := hW.1
  induction f with
  | zero => intro k s ls g B hk hf; omega
  | succ f ih =>
    intro k s ls g B hk hf p0 hF rC hI kk
    have hN := hW.pN
    obtain ⟨hWg, tg⟩ := hF.w hW
    have fb := rC.fb
    have e32 := rC.2.2.1
    have plg : ∀ i, plcT g n i = plcT c n i := fun i => by unfold plcT; rw [tg]
    have out : RtOutR c n N tt (s, ls) g := by
      refine ⟨hF, e32, rC.2.2.2.1, rC.2.2.2.2.1, fun z => ?_⟩
      obtain ⟨i1, i2, i3⟩ := hI z
      have pl := plcT_le (c := c) (n := n) s.1
      refine ⟨by show ls.length ≤ 24; omega, fun j hj => ?_⟩
      obtain ⟨a, a1, a2⟩ := i3 j hj
      exact ⟨a, a1, by dsimp only; omega⟩
    refine zX12_text_92 ?_
    first | with_reducible refine c_lt ?_ ?_ (fun z0 => ?_) (fun z0 => ?_) | with_reducible refine c_le ?_ ?_ (fun z0 => ?_) (fun z0 => ?_) | with_reducible refine c_eq ?_ ?_ (fun z0 => ?_) (fun z0 => ?_) | with_reducible refine c_ne ?_ ?_ (fun z0 => ?_) (fun z0 => ?_)
    · omega
    · omega
    · have hb : ¬ s.2.1 = 0 := by rw [← e32]; exact z0
      have e : pgo (tokR (c 119) n N) (f + 1) k s ls = (s, ls) := by unfold pgo; rw [if_pos (pk_bad hb)]
      rw [e] at kk
      exact kk g _ out (fun z => absurd z hb)
    · have hft : s.2.1 = 0 := by rw [← e32]; exact z0
      obtain ⟨t1, t2, t3, t4, t5, t6⟩ := (rC.2.2.2.2.2.2 hft).1
      rw [tg] at t3
      have tr := tcl_rng (tk (c 119) n s.1 0).1
      have ek : pk (tokR (c 119) n N) s = (tk (c 119) n s.1 0).1 := by rw [pk_ok hft]; exact if_pos rC.2.2.2.2.2.1
      have tc := (tcl_c (tk (c 119) n s.1 0).1).1
      obtain ⟨i1, i2, i3⟩ := hI hft
      rw [t3]
      first | with_reducible refine c_lt ?_ ?_ (fun z1 => ?_) (fun z1 => ?_) | with_reducible refine c_le ?_ ?_ (fun z1 => ?_) (fun z1 => ?_) | with_reducible refine c_eq ?_ ?_ (fun z1 => ?_) (fun z1 => ?_) | with_reducible refine c_ne ?_ ?_ (fun z1 => ?_) (fun z1 => ?_)
      · omega
      · omega
      · have e155 : pk (tokR (c 119) n N) s = 155 := by rw [ek]; exact tc.mp z1
        have e : pgo (tokR (c 119) n N) (f + 1) k s ls = (s, ls) := by unfold pgo; rw [if_pos e155]
        rw [e] at kk
        exact kk g _ out (fun _ => by show (k : Int) = (ls.length : Int); rw [i1])
      · have n155 : ¬ pk (tokR (c 119) n N) s = 155 := fun y => z1 (tc.mpr (by rw [← ek]; exact y))
        have e : pgo (tokR (c 119) n N) (f + 1) k s ls = if (phead (tokR (c 119) n N) k s).2.1 = 0 then pgo (tokR (c 119) n N) f (k + 1) (pre0 (pbody (tokR (c 119) n N) s).2) (ls ++ [(pbody (tokR (c 119) n N) s).1]) else (phead (tokR (c 119) n N) k s, ls) := by
          show (if pk (tokR (c 119) n N) s = 155 then _ else _) = _
          rw [if_neg n155]
        rw [e] at kk
        clear e out hI
        rw [show (k : Int) + 1 = ((k + 1 : Nat) : Int) by omega]
        refine sX12_readLine (kk := k) hWg rC p0 hft hk (by rw [plg]; exact i2) (by omega) (fun hb g' hg' => ?_) (fun hh h24 g' hF' ⟨B', rb, rc⟩ => ?_)
        · rw [tg] at hb hg'
          rw [if_neg hb] at kk
          have hF2 : TextR c g' (24 * tt) (700 * tt) := hF.tr (hg'.line (l := 24 * tt + k)) (by omega) (by omega)
          refine zX12_text_92 ?_
          have b' := hg'.fb
          have e' := hg'.2.2.1
          first | with_reducible refine c_lt ?_ ?_ (fun y0 => ?_) (fun y0 => ?_) | with_reducible refine c_le ?_ ?_ (fun y0 => ?_) (fun y0 => ?_) | with_reducible refine c_eq ?_ ?_ (fun y0 => ?_) (fun y0 => ?_) | with_reducible refine c_ne ?_ ?_ (fun y0 => ?_) (fun y0 => ?_)
          · omega
          · omega
          · exact kk g' _ ⟨hF2, e', hg'.2.2.2.1, hg'.2.2.2.2.1, fun z => absurd z hb⟩ (fun z => absurd z hb)
          · exact absurd (by rw [← e']; exact y0) hb
        · rw [tg] at hh rb rc
          have hh0 : (phead (tokR (c 119) n N) k s).2.1 = 0 := by rw [hh]; exact hft
          rw [if_pos hh0] at kk
          have hF2 : TextR c g' (24 * tt) (700 * tt) := hF.tr hF' (by omega) (by omega)
          refine ih (k + 1) (pre0 (pbody (tokR (c 119) n N) s).2) (ls ++ [(pbody (tokR (c 119) n N) s).1]) g' B' (by omega) (by omega) rfl hF2 rb (fun z => ?_) kk
          obtain ⟨l1, l2, l3, l4⟩ := rc z
          rw [plg] at l3
          refine ⟨by rw [List.length_append, i1]; rfl, l3, fun j hj => ?_⟩
          rw [List.length_append, i1] at hj
          have hj' : j < k + 1 := hj
          rcases Nat.lt_or_ge j k with y | y
          · obtain ⟨a, a1, a2⟩ := i3 j (by omega)
            have eg : (ls ++ [(pbody (tokR (c 119) n N) s).1]).getD j (0, 0, 0, [], []) = ls.getD j (0, 0, 0, [], []) := by
              rw [List.getD_eq_getElem?_getD, List.getD_eq_getElem?_getD, List.getElem?_append_left (by omega)]
            rw [eg]
            exact ⟨a, a1.fr (b := B) (fun q hq => hF'.2.1 q hq _ (by omega)) hF'.2.2 a2, by omega⟩
          · have ej : j = k := by omega
            subst ej
            have eg : (ls ++ [(pbody (tokR (c 119) n N) s).1]).getD j (0, 0, 0, [], []) = (pbody (tokR (c 119) n N) s).1 := by
              rw [List.getD_eq_getElem?_getD, List.getElem?_append_right (by omega), i1, Nat.sub_self]; rfl
            rw [eg]
            exact ⟨B, l1, by omega⟩
