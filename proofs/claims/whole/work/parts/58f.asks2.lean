/-! the reference asks: from its start -/
theorem lrx {g G : mz_S} {nt town : Nat} {day : Int} {al : Nat → List pA} (h : TxW g nt al) (e : ∀ q ∈ [123, 124, 125, 126, 127, 128, 129], G q = g q) (v : ∀ p, p < (fC g al nt town day).length → G 130 p = ((24 * ((fC g al nt town day).getD p (0, 0)).1 + ((fC g al nt town day).getD p (0, 0)).2 : Nat) : Int)) : LRx G (cnF al (fC g al nt town day)) (fC g al nt town day).length := by
  obtain ⟨h1, h2, h3, L, b, h4, h5, h6⟩ := h
  intro p hp
  have m : (fC g al nt town day).getD p (0, 0) ∈ fC g al nt town day := by
    rw [List.getD_eq_getElem?_getD, List.getElem?_eq_getElem hp]
    exact List.getElem_mem hp
  have mm := flat_mem.mp m
  have tt := (flC_all h3).mp mm.1
  have vv := v p hp
  unfold cnF
  generalize (fC g al nt town day).getD p (0, 0) = x at mm tt vv
  have tx := h6 _ tt.1
  have hx : x.2 < (al x.1).length := mm.2
  have h24 := tx.2.2.2.2.2.2.1
  obtain ⟨a, la, lb⟩ := tx.2.2.2.2.2.2.2.2.1 x.2 hx
  exact ⟨x.1, x.2, a, by omega, by omega, vv, la.same e, lb⟩
theorem sX12_asks {T : Nat × (Nat → Int32)} {d : Nat} {Q : mz_K} {X : mz_X} {g : mz_S} {c : mz_S} {nt a b town dy : Nat} {al : Nat → List pA} {n coin : Int} (wl : WfL0 c) (rl : ReL c g) (wb : WfB c) (rb : ReB c g) (tw : TxW c nt al) (h36 : g 99 36 = (nt : Int)) (e : ∀ q ∈ [120, 121, 122, 123, 124, 125, 126, 127, 128, 129], g q = c q) (ha : a < 12) (hb : b < 12) (h10 : c 10 a = (town : Int)) (hd0 : c 1 0 = (dy : Int)) (k : ∀ g', Ch [130, 131, 132, 133] [50, 54] g g' → (∀ s, s < 9 → g' 133 s = askP (nmF c a b n coin) (cnF al (fC c al nt town dy)) (fC c al nt town dy).length s (fC c al nt town dy).length) → Q 0 g') : zC T (d + 5) 272 [mx_R 99, mx_I (a : Int), mx_I (b : Int), mx_J n, mx_I coin] g Q X := by
  have ra := wb.2.1 a ha
  have rb' := wb.2.1 b hb
  have w0 := wl.1
  have r1 : g 99 1 = c 1 0 := rl.1
  have qa := rb.2.1 a ha
  have qb := rb.2.1 b hb
  refine zX12_asks ?_
  refine s_inE (0) ?_ ?_ (fun ea => ?_)
  · omega
  · omega
  try simp only [ea]
  clear ea
  intro g1 e1
  refine s_inE (1) ?_ ?_ (fun ea => ?_)
  · omega
  · omega
  try simp only [ea]
  clear ea
  intro g2 e2
  have c2 : Ch [131] [] g g2 := by rw [e2, e1]; exact ((Ch.rf g).up (by decide) (by decide)).up (by decide) (by decide)
  refine s_inN ?_ (fun ea => ?_)
  · omega
  try simp only [ea]
  clear ea
  refine s_inN ?_ (fun ea => ?_)
  · omega
  try simp only [ea]
  clear ea
  rw [c2.1 106 (by decide) (by decide), qa.1, qb.1]
  refine sX12_lagOf (c := c) wl (rl.fr c2 (by decide) (by decide)) (by omega) (by omega) ?_
  refine s_inE (2) ?_ ?_ (fun ea => ?_)
  · omega
  · omega
  try simp only [ea]
  clear ea
  intro g4 e4
  have c4 : Ch [131] [] g g4 := by rw [e4]; exact c2.up (by decide) (by decide)
  rw [c4.2 1 (by decide), r1]
  refine s_inN ?_ (fun ea => ?_)
  · omega
  try simp only [ea]
  clear ea
  rw [c4.1 108 (by decide) (by decide), qa.2.2.1]
  refine ⟨by decide, ?_⟩
  rw [idiv_of (by omega) (by omega)]
  refine s_inE (3) ?_ ?_ (fun ea => ?_)
  · omega
  · omega
  try simp only [ea]
  clear ea
  intro g5 e5
  have c5 : Ch [131] [] g g5 := by rw [e5]; exact c4.up (by decide) (by decide)
  refine s_inN ?_ (fun ea => ?_)
  · omega
  try simp only [ea]
  clear ea
  refine s_inN ?_ (fun ea => ?_)
  · omega
  try simp only [ea]
  clear ea
  rw [c5.1 107 (by decide) (by decide), qa.2.1, qb.2.1]
  have fin : ∀ v : Int, v = (if c 11 a = c 11 b then 1 else 0) → aX12_asks T (d + 4) Q X 85 [some (mx_R 99), some (mx_I (a : Int)), some (mx_I (b : Int)), some (mx_J n), none, some (mx_I coin), none, none, none, none, none, none] [mx_J v, mx_I 4, mx_R 131] g5 (0, 0) := by
    intro v hv
    refine zX12_asks_85 ?_
    refine s_inE (4) ?_ ?_ (fun ea => ?_)
    · omega
    · omega
    try simp only [ea]
    clear ea
    intro h1 f1
    rw [show h1 99 1 = c 1 0 by rw [f1, up_q (by decide), c5.2 1 (by decide)]; exact r1]
    refine s_inE (5) ?_ ?_ (fun ea => ?_)
    · omega
    · omega
    try simp only [ea]
    clear ea
    intro h2 f2
    rw [show h2 99 1 = c 1 0 by rw [f2, up_q (by decide), f1, up_q (by decide), c5.2 1 (by decide)]; exact r1]
    refine ⟨by decide, by decide, ?_⟩
    refine s_inE (6) ?_ ?_ (fun ea => ?_)
    · omega
    · omega
    try simp only [ea]
    clear ea
    intro h3 f3
    refine s_inN ?_ (fun ea => ?_)
    · omega
    try simp only [ea]
    clear ea
    rw [show h3 106 a = c 10 a by rw [f3, up_q (by decide), f2, up_q (by decide), f1, up_q (by decide), c5.1 106 (by decide) (by decide)]; exact qa.1]
    refine s_inE (7) ?_ ?_ (fun ea => ?_)
    · omega
    · omega
    try simp only [ea]
    clear ea
    intro h4 f4
    refine s_inN ?_ (fun ea => ?_)
    · omega
    try simp only [ea]
    clear ea
    rw [show h4 106 b = c 10 b by rw [f4, up_q (by decide), f3, up_q (by decide), f2, up_q (by decide), f1, up_q (by decide), c5.1 106 (by decide) (by decide)]; exact qb.1]
    refine s_inE (8) ?_ ?_ (fun ea => ?_)
    · omega
    · omega
    try simp only [ea]
    clear ea
    intro h5 f5
    have ch5 : Ch [131] [] g h5 := by rw [f5, f4, f3, f2, f1]; exact ((((c5.up (by decide) (by decide)).up (by decide) (by decide)).up (by decide) (by decide)).up (by decide) (by decide)).up (by decide) (by decide)
    have nm : ∀ i, i < 9 → h5 131 i = nmF c a b n coin i := by
      intro i hi
      rw [f5, f4, f3, f2, f1, e5, e4, e2, e1, hv]
      rcases (show i = 0 ∨ i = 1 ∨ i = 2 ∨ i = 3 ∨ i = 4 ∨ i = 5 ∨ i = 6 ∨ i = 7 ∨ i = 8 by omega) with z | z | z | z | z | z | z | z | z <;> subst z <;> simp [mx_up, nmF]
    have told : ∀ m i : Nat, i + m = 9 → ∀ G, Ch [133] [] h5 G → (∀ s, s < i → G 133 s = mx_uns.getD s 0) → aX12_asks T (d + 4) Q X 145 [some (mx_R 99), some (mx_I (a : Int)), some (mx_I (b : Int)), some (mx_J n), none, some (mx_I coin), some (mx_I (i : Int)), none, none, none, none, none] [] G (0, 0) := by
      intro m
      induction m with
      | zero =>
        intro i hi G cG hG
        have cgG : Ch [131, 133] [] g G := (ch5.sub (by decide) (by decide)).tr (cG.sub (by decide) (by decide))
        refine zX12_asks_145 ?_
        first | with_reducible refine c_lt ?_ ?_ (fun z => ?_) (fun z => ?_) | with_reducible refine c_le ?_ ?_ (fun z => ?_) (fun z => ?_) | with_reducible refine c_eq ?_ ?_ (fun z => ?_) (fun z => ?_) | with_reducible refine c_ne ?_ ?_ (fun z => ?_) (fun z => ?_)
        · omega
        · omega
        · refine s_inN ?_ (fun ea => ?_)
          · omega
          try simp only [ea]
          clear ea
          rw [cgG.1 106 (by decide) (by decide), qa.1, h10, cgG.2 1 (by decide), r1, hd0]
          refine rStand (d := d + 3) (g := c) tw (by rw [cgG.2 36 (by decide)]; exact h36) (fun q hq => by rw [cgG.1 q (by simp at hq ⊢; omega) (by simp at hq; omega)]; exact e q (by simp at hq ⊢; omega)) (by omega) (by omega) (fun G' cG' lr vv => ?_)
          have all : Ch [130, 131, 133] [50] g G' := (cgG.sub (by decide) (by decide)).tr (cG'.sub (by decide) (by decide))
          refine asks_R (d := d) (fC_lnP tw) lr (lrx tw (fun q hq => by rw [all.1 q (by simp at hq ⊢; omega) (by simp at hq; omega)]; exact e q (by simp at hq ⊢; omega)) vv) (fun s hs => by rw [cG'.1 133 (by decide) (by decide)]; exact hG s (by omega)) (fun g' cg' hv' => ?_)
          refine k g' ((all.sub (by decide) (by decide)).tr (cg'.sub (by decide) (by decide))) (fun s hs => ?_)
          rw [hv' s hs]
          refine askP_cg (fun i hi => ?_) _
          rw [cG'.1 131 (by decide) (by decide), cG.1 131 (by decide) (by decide)]
          exact nm i hi
        · omega
      | succ m ih =>
        intro i hi G cG hG
        have nx : ∀ v : Int, v = mx_uns.getD i 0 → aX12_asks T (d + 4) Q X 183 [some (mx_R 99), some (mx_I (a : Int)), some (mx_I (b : Int)), some (mx_J n), none, some (mx_I coin), some (mx_I (i : Int)), none, none, none, none, none] [mx_J v, mx_I (i : Int), mx_R 133] G (0, 0) := by
          intro v hv
          refine zX12_asks_183 ?_
          refine s_inN ?_ (fun ea => ?_)
          · omega
          try simp only [ea]
          clear ea
          intro G1 eG1
          rw [show (i : Int) + 1 = ((i + 1 : Nat) : Int) by omega]
          refine ih (i + 1) (by omega) G1 (by rw [eG1]; exact cG.up (by decide) (by decide)) (fun s hs => ?_)
          rw [eG1]
          by_cases y : s = i
          · subst y; rw [up_s]; exact hv
          · rw [up_i y]; exact hG s (by omega)
        have un : ∀ i : Nat, i < 9 → ¬ i = 1 → ¬ i = 2 → (0 : Int) = mx_uns.getD i 0 := by decide +kernel
        refine zX12_asks_145 ?_
        first | with_reducible refine c_lt ?_ ?_ (fun z => ?_) (fun z => ?_) | with_reducible refine c_le ?_ ?_ (fun z => ?_) (fun z => ?_) | with_reducible refine c_eq ?_ ?_ (fun z => ?_) (fun z => ?_) | with_reducible refine c_ne ?_ ?_ (fun z => ?_) (fun z => ?_)
        · omega
        · omega
        · omega
        · first | with_reducible refine c_lt ?_ ?_ (fun z1 => ?_) (fun z1 => ?_) | with_reducible refine c_le ?_ ?_ (fun z1 => ?_) (fun z1 => ?_) | with_reducible refine c_eq ?_ ?_ (fun z1 => ?_) (fun z1 => ?_) | with_reducible refine c_ne ?_ ?_ (fun z1 => ?_) (fun z1 => ?_)
          · omega
          · omega
          · first | with_reducible refine c_lt ?_ ?_ (fun z2 => ?_) (fun z2 => ?_) | with_reducible refine c_le ?_ ?_ (fun z2 => ?_) (fun z2 => ?_) | with_reducible refine c_eq ?_ ?_ (fun z2 => ?_) (fun z2 => ?_) | with_reducible refine c_ne ?_ ?_ (fun z2 => ?_) (fun z2 => ?_)
            · omega
            · omega
            · exact nx 0 (un i (by omega) (by omega) (by omega))
            · exact nx 1000000 (by rw [show i = 2 by omega]; rfl)
          · exact nx 60 (by rw [show i = 1 by omega]; rfl)
    exact told 9 0 (by omega) h5 (Ch.rf h5) (fun s hs => absurd hs (Nat.not_lt_zero _))
  first | with_reducible refine c_lt ?_ ?_ (fun z => ?_) (fun z => ?_) | with_reducible refine c_le ?_ ?_ (fun z => ?_) (fun z => ?_) | with_reducible refine c_eq ?_ ?_ (fun z => ?_) (fun z => ?_) | with_reducible refine c_ne ?_ ?_ (fun z => ?_) (fun z => ?_)
  · omega
  · omega
  · exact fin 0 (by rw [if_neg z])
  · exact fin 1 (by rw [if_pos (by omega)])
