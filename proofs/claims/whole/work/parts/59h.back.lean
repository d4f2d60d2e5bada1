/-! back on both sides -/
abbrev cbP (g : mz_S) (i : Nat) : Prop := g 60 i = 0 ∧ g 61 i = 0 ∧ g 13 (g 49 i).toNat = -1 ∧ ¬ thP g i ∧ (g 58 i = -1 ∨ ¬ thP g (g 58 i).toNat) ∧ g 52 i ≤ g 14 (g 49 i * 4 + g 51 i).toNat
theorem sX10_canTakeBack {T : Nat × (Nat → Int32)} {d : Nat} {Q : mz_K} {X : mz_X} {g : mz_S} {i : Nat} (wl : WfL0 g) (wb : WfB g) (w : WfW g) (hi : (i : Int) < g 48 4) (k : Q (pI (cbP g i)) g) : zC T (d + 4) 139 [mx_R 48, mx_I (i : Int)] g Q X := by
  have w1 := w.1
  have wb1 := wb.1
  obtain ⟨a1, a2, a3, a4, a5, a6, a7, a8, a9, a10, a11, a12, a13⟩ := w.2.1 i hi
  have rb := wb.2.1 (g 49 i).toNat (by omega)
  have rc := wb.2.2 (g 49 i * 4 + g 51 i).toNat (by omega)
  have no : ¬ cbP g i → aX10_canTakeBack T (d + 3) Q X 94 [some (mx_R 48), some (mx_I (i : Int)), some (mx_I (g 49 i))] [] g (0, 0) := by
    intro z
    refine zX10_canTakeBack_94 (zX10_canTakeBack_95 ⟨zb0, ?_⟩)
    rw [pI_f z] at k; exact k
  refine zX10_canTakeBack ?_
  refine s_inN ?_ (fun ea => ?_)
  · omega
  try simp only [ea]
  clear ea
  refine s_inN ?_ (fun ea => ?_)
  · omega
  try simp only [ea]
  clear ea
  first | with_reducible refine c_lt ?_ ?_ (fun h1 => ?_) (fun h1 => ?_) | with_reducible refine c_le ?_ ?_ (fun h1 => ?_) (fun h1 => ?_) | with_reducible refine c_eq ?_ ?_ (fun h1 => ?_) (fun h1 => ?_) | with_reducible refine c_ne ?_ ?_ (fun h1 => ?_) (fun h1 => ?_)
  · omega
  · omega
  · exact no (fun z => by have := z.1; omega)
  · refine s_inN ?_ (fun ea => ?_)
    · omega
    try simp only [ea]
    clear ea
    first | with_reducible refine c_lt ?_ ?_ (fun h2 => ?_) (fun h2 => ?_) | with_reducible refine c_le ?_ ?_ (fun h2 => ?_) (fun h2 => ?_) | with_reducible refine c_eq ?_ ?_ (fun h2 => ?_) (fun h2 => ?_) | with_reducible refine c_ne ?_ ?_ (fun h2 => ?_) (fun h2 => ?_)
    · omega
    · omega
    · exact no (fun z => by have := z.2.1; omega)
    · refine sX0_hasFallen (by omega) (by omega) ?_
      first | with_reducible refine b_eq (fun h3 => ?_) (fun h3 => ?_) | with_reducible refine b_ne (fun h3 => ?_) (fun h3 => ?_)
      · exact no (fun z => h3 z.2.2.1)
      · refine sX10_tellerHeardPaid wl wb w hi ?_
        first | with_reducible refine b_eq (fun h4 => ?_) (fun h4 => ?_) | with_reducible refine b_ne (fun h4 => ?_) (fun h4 => ?_)
        · exact no (fun z => z.2.2.2.1 h4)
        · have last : (g 58 i = -1 ∨ ¬ thP g (g 58 i).toNat) → aX10_canTakeBack T (d + 3) Q X 67 [some (mx_R 48), some (mx_I (i : Int)), some (mx_I (g 49 i))] [] g (0, 0) := by
            intro z
            refine zX10_canTakeBack_67 ?_
            refine s_inN ?_ (fun ea => ?_)
            · omega
            try simp only [ea]
            clear ea
            refine sX0_has (by omega) (by omega) ?_
            refine s_inN ?_ (fun ea => ?_)
            · omega
            try simp only [ea]
            clear ea
            first | with_reducible refine c_lt ?_ ?_ (fun h5 => ?_) (fun h5 => ?_) | with_reducible refine c_le ?_ ?_ (fun h5 => ?_) (fun h5 => ?_) | with_reducible refine c_eq ?_ ?_ (fun h5 => ?_) (fun h5 => ?_) | with_reducible refine c_ne ?_ ?_ (fun h5 => ?_) (fun h5 => ?_)
            · omega
            · omega
            · exact no (fun z => by have := z.2.2.2.2.2; omega)
            · refine zX10_canTakeBack_95 ⟨zb1, ?_⟩
              rw [pI_t ⟨by omega, by omega, Decidable.not_not.mp h3, h4, z, by omega⟩] at k; exact k
          refine s_inN ?_ (fun ea => ?_)
          · omega
          try simp only [ea]
          clear ea
          first | with_reducible refine c_lt ?_ ?_ (fun h5 => ?_) (fun h5 => ?_) | with_reducible refine c_le ?_ ?_ (fun h5 => ?_) (fun h5 => ?_) | with_reducible refine c_eq ?_ ?_ (fun h5 => ?_) (fun h5 => ?_) | with_reducible refine c_ne ?_ ?_ (fun h5 => ?_) (fun h5 => ?_)
          · omega
          · omega
          · exact last (Or.inl h5)
          · refine s_inN ?_ (fun ea => ?_)
            · omega
            try simp only [ea]
            clear ea
            obtain ⟨o, eo⟩ := Int.eq_ofNat_of_zero_le (show 0 ≤ g 58 i by omega)
            rw [eo]
            refine sX10_tellerHeardPaid wl wb w (by omega) ?_
            first | with_reducible refine b_eq (fun h6 => ?_) (fun h6 => ?_) | with_reducible refine b_ne (fun h6 => ?_) (fun h6 => ?_)
            · exact no (fun z => by rcases z.2.2.2.2.1 with y | y; exact h5 y; exact y (by rw [eo]; exact h6))
            · exact last (Or.inr (by rw [eo]; exact h6))
def bkT (g : mz_S) (i a : Nat) (j : Nat) : Int := if j = i ∨ (j : Int) = g 58 i then stV g j a (g 1 0) else g 55 j
def bkV (g : mz_S) (i : Nat) : Int := if ¬ g 56 i = -1 ∨ (¬ g 58 i = -1 ∧ ¬ g 56 (g 58 i).toNat = -1) then 0 else 1
theorem stV_cg {g g' : mz_S} {i b : Nat} {dy : Int} (h3 : g' 3 = g 3) (h10 : g' 10 = g 10) (h50 : g' 50 i = g 50 i) (h55 : g' 55 i = g 55 i) (h56 : g' 56 i = g 56 i) : stV g' i b dy = stV g i b dy := by
  unfold stV
  rw [h3, h10, h50, h55, h56]
theorem sX10_takeBack {T : Nat × (Nat → Int32)} {d : Nat} {Q : mz_K} {X : mz_X} {g : mz_S} {i a : Nat} (wl : WfL0 g) (wb : WfB g) (w : WfW g) (hi : (i : Int) < g 48 4) (e49 : g 49 i = (a : Int)) (hc : cbP g i) (k : ∀ B, Ch [61, 14, 55] [] g B → B 61 = lset (g 61) i 1 → B 14 = lset (g 14) (g 49 i * 4 + g 51 i).toNat (g 14 (g 49 i * 4 + g 51 i).toNat - g 52 i) → (∀ j, B 55 j = bkT g i a j) → Q (bkV g i) B) : zC T (d + 4) 140 [mx_R 48, mx_I (i : Int)] g Q X := by
  have w0 := wl.1
  have w1 := w.1
  have wb1 := wb.1
  obtain ⟨a1, a2, a3, a4, a5, a6, a7, a8, a9, a10, a11, a12, a13⟩ := w.2.1 i hi
  have rc := wb.2.2 (g 49 i * 4 + g 51 i).toNat (by omega)
  have rr := hc.2.2.2.2.2
  refine zX10_takeBack ?_
  refine s_inN ?_ (fun ea => ?_)
  · omega
  try simp only [ea]
  clear ea
  refine s_inN ?_ (fun ea => ?_)
  · omega
  try simp only [ea]
  clear ea
  refine ⟨zb1, ?_⟩
  intro G1 e1
  have c1 : Ch [61] [] g G1 := by rw [e1]; exact (Ch.rf g).up (by decide) (by decide)
  refine s_inN ?_ (fun ea => ?_)
  · omega
  try simp only [ea]
  clear ea
  refine s_inN ?_ (fun ea => ?_)
  · omega
  try simp only [ea]
  clear ea
  rw [c1.1 51 (by decide) (by decide), c1.1 52 (by decide) (by decide), w32_of (n := -(g 52 i)) (by omega) (by omega)]
  refine sX0_gets (d := d + 1) (wb.ch c1 (by decide)) (by omega) (by omega) (by omega) ?_
  obtain ⟨G2, e2⟩ : ∃ G2, G2 = mx_up G1 14 (g 49 i * 4 + g 51 i).toNat (min 10000000 (G1 14 (g 49 i * 4 + g 51 i).toNat + -(g 52 i))) := ⟨_, rfl⟩
  rw [← e2]
  have v14 : G2 14 = lset (g 14) (g 49 i * 4 + g 51 i).toNat (g 14 (g 49 i * 4 + g 51 i).toNat - g 52 i) := by
    rw [e2, up_at, if_pos rfl, c1.1 14 (by decide) (by decide), show min 10000000 (g 14 (g 49 i * 4 + g 51 i).toNat + -(g 52 i)) = g 14 (g 49 i * 4 + g 51 i).toNat - g 52 i by omega]
  have v61 : G2 61 = lset (g 61) i 1 := by rw [e2, up_at, if_neg (by decide), e1, up_at, if_pos rfl]
  have c2 : Ch [61, 14] [] g G2 := by rw [e2]; exact (c1.sub (by decide) (by decide)).up (by decide) (by decide)
  have wb2 : WfB G2 := by
    have := wb.ch c1 (by decide)
    rw [e2]
    refine this.up14 ?_
    rw [c1.1 14 (by decide) (by decide)]
    omega
  have wl2 : WfL0 G2 := wl.ch c2 (by decide)
  have wfW : ∀ B, Ch [61, 14] [] g B → B 61 = lset (g 61) i 1 → WfW B := by
    intro B c e
    unfold WfW WdI at w ⊢
    rw [c.1 9 (by decide) (by decide), c.1 48 (by decide) (by decide), c.1 49 (by decide) (by decide), c.1 50 (by decide) (by decide), c.1 51 (by decide) (by decide), c.1 52 (by decide) (by decide), c.1 53 (by decide) (by decide), c.1 54 (by decide) (by decide), c.1 55 (by decide) (by decide), c.1 56 (by decide) (by decide), c.1 57 (by decide) (by decide), c.1 58 (by decide) (by decide), c.1 59 (by decide) (by decide), c.1 60 (by decide) (by decide), e]
    refine ⟨w.1, fun j hj => ?_, fun j h1 h2 => ?_⟩
    · obtain ⟨b1, b2, b3, b4, b5, b6, b7, b8, b9, b10, b11, b12, b13⟩ := w.2.1 j hj
      refine ⟨b1, b2, b3, b4, b5, b6, b7, b8, b9, b10, b11, ?_, b13⟩
      unfold lset
      split
      · exact Or.inr rfl
      · exact b12
    · obtain ⟨b1, b2, b3, b4⟩ := w.2.2 j h1 h2
      refine ⟨b1, b2, b3, ?_⟩
      unfold lset
      rw [if_neg (by omega)]
      exact b4
  have ww2 := wfW G2 c2 v61
  refine sX10_isPaid (by omega) (by rw [c2.1 56 (by decide) (by decide)]; exact a8) ?_
  rw [c2.1 56 (by decide) (by decide), c2.1 1 (by decide) (by decide), e49]
  refine sX10_stopWhenHeard (d := d) wl2 wb2 ww2 (by rw [c2.1 48 (by decide) (by decide)]; exact hi) (by omega) ?_
  rw [stV_cg (g := g) (c2.1 3 (by decide) (by decide)) (c2.1 10 (by decide) (by decide)) (by rw [c2.1 50 (by decide) (by decide)]) (by rw [c2.1 55 (by decide) (by decide)]) (by rw [c2.1 56 (by decide) (by decide)])]
  obtain ⟨G3, e3⟩ : ∃ G3, G3 = mx_up G2 55 i (stV g i a (g 1 0)) := ⟨_, rfl⟩
  rw [← e3]
  have c3 : Ch [61, 14, 55] [] g G3 := by rw [e3]; exact (c2.sub (by decide) (by decide)).up (by decide) (by decide)
  have c23 : Ch [55] [] G2 G3 := by rw [e3]; exact (Ch.rf _).up (by decide) (by decide)
  have v55 : G3 55 = lset (g 55) i (stV g i a (g 1 0)) := by rw [e3, up_at, if_pos rfl, c2.1 55 (by decide) (by decide)]
  have ww3 : WfW G3 := by
    have sr := stV_rng (b := a) wl wb w hi (by omega) w0
    unfold WfW WdI at ww2 ⊢
    rw [c23.1 9 (by decide) (by decide), c23.1 48 (by decide) (by decide), c23.1 49 (by decide) (by decide), c23.1 50 (by decide) (by decide), c23.1 51 (by decide) (by decide), c23.1 52 (by decide) (by decide), c23.1 53 (by decide) (by decide), c23.1 54 (by decide) (by decide), c23.1 56 (by decide) (by decide), c23.1 57 (by decide) (by decide), c23.1 58 (by decide) (by decide), c23.1 59 (by decide) (by decide), c23.1 60 (by decide) (by decide), c23.1 61 (by decide) (by decide), v55]
    refine ⟨ww2.1, fun j hj => ?_, ww2.2.2⟩
    obtain ⟨b1, b2, b3, b4, b5, b6, b7, b8⟩ := ww2.2.1 j hj
    refine ⟨b1, b2, b3, b4, b5, b6, ?_, b8⟩
    rw [c2.1 55 (by decide) (by decide)] at b7
    unfold lset
    split
    · exact sr
    · exact b7
  have v14' : G3 14 = _ := (c23.1 14 (by decide) (by decide)).trans v14
  have v61' : G3 61 = _ := (c23.1 61 (by decide) (by decide)).trans v61
  have fin : ∀ (B : mz_S) (v : Int), Ch [61, 14, 55] [] g B → B 61 = lset (g 61) i 1 → B 14 = lset (g 14) (g 49 i * 4 + g 51 i).toNat (g 14 (g 49 i * 4 + g 51 i).toNat - g 52 i) → (∀ j, B 55 j = bkT g i a j) → (w32 v = w32 0 ↔ bkV g i = 1) → aX10_takeBack T (d + 3) Q X 106 [some (mx_R 48), some (mx_I (i : Int)), some (mx_I (a : Int)), some (mx_I v)] [] B (0, 0) := by
    intro B v b1 b2 b3 b4 b5
    have kk := k B b1 b2 b3 b4
    refine zX10_takeBack_106 ⟨fun z => zX10_takeBack_115 ?_, fun z => zX10_takeBack_115 ?_⟩
    · rw [b5.mp z] at kk; exact kk
    · have : bkV g i = 0 := by
        have : ¬ bkV g i = 1 := fun y => z (b5.mpr y)
        unfold bkV at this ⊢
        split at this <;> simp_all
      rw [this] at kk; exact kk
  refine s_inN ?_ (fun ea => ?_)
  · omega
  try simp only [ea]
  clear ea
  rw [c3.1 58 (by decide) (by decide)]
  first | with_reducible refine c_lt ?_ ?_ (fun h1 => ?_) (fun h1 => ?_) | with_reducible refine c_le ?_ ?_ (fun h1 => ?_) (fun h1 => ?_) | with_reducible refine c_eq ?_ ?_ (fun h1 => ?_) (fun h1 => ?_) | with_reducible refine c_ne ?_ ?_ (fun h1 => ?_) (fun h1 => ?_)
  · omega
  · omega
  · refine fin G3 _ c3 v61' v14' (fun j => ?_) ?_
    · rw [v55]
      unfold bkT lset
      by_cases y : j = i
      · subst y; rw [if_pos rfl, if_pos (Or.inl rfl)]
      · rw [if_neg y, if_neg (by omega)]
    · rw [pI_z]
      unfold bkV
      constructor
      · intro z; rw [if_neg (by omega)]
      · intro z y; rw [if_pos (Or.inl y)] at z; exact absurd z (by decide)
  · obtain ⟨o, eo⟩ := Int.eq_ofNat_of_zero_le (show 0 ≤ g 58 i by omega)
    have oi : o ≠ i := by omega
    have ho : (o : Int) < g 48 4 := by omega
    obtain ⟨b1, b2, b3, b4, b5, b6, b7, b8, b9, b10, b11, b12, b13⟩ := w.2.1 o ho
    have s87 : ∀ v x3 : Int, (w32 v = w32 0 ↔ bkV g i = 1) → aX10_takeBack T (d + 3) Q X 87 [some (mx_R 48), some (mx_I (i : Int)), some (mx_I (a : Int)), some (mx_I x3)] [mx_I v] G3 (0, 0) := by
      intro v x3 hv
      refine zX10_takeBack_87 ?_
      refine s_inN ?_ (fun ea => ?_)
      · omega
      try simp only [ea]
      clear ea
      rw [c3.1 58 (by decide) (by decide), eo, c3.1 1 (by decide) (by decide)]
      refine sX10_stopWhenHeard (d := d) (wl.ch c3 (by decide)) (wb2.ch c23 (by decide)) ww3 (by rw [c3.1 48 (by decide) (by decide)]; exact ho) (by omega) ?_
      have f55 : G3 55 o = g 55 o := by rw [v55]; unfold lset; rw [if_neg oi]
      rw [stV_cg (g := g) (c3.1 3 (by decide) (by decide)) (c3.1 10 (by decide) (by decide)) (by rw [c3.1 50 (by decide) (by decide)]) f55 (by rw [c3.1 56 (by decide) (by decide)])]
      refine fin _ v (c3.up (by decide) (by decide)) (by rw [up_at, if_neg (by decide)]; exact v61') (by rw [up_at, if_neg (by decide)]; exact v14') (fun j => ?_) hv
      rw [up_at, if_pos rfl, v55]
      unfold bkT lset
      by_cases y : j = o
      · subst y; rw [if_pos rfl, if_pos (Or.inr eo.symm)]
      · rw [if_neg y]
        by_cases y2 : j = i
        · subst y2; rw [if_pos rfl, if_pos (Or.inl rfl)]
        · rw [if_neg y2, if_neg (by omega)]
    first | with_reducible refine b_eq (fun h2 => ?_) (fun h2 => ?_) | with_reducible refine b_ne (fun h2 => ?_) (fun h2 => ?_)
    · refine zX10_takeBack_82 (s87 1 _ ?_)
      unfold bkV
      rw [if_pos (Or.inl h2)]
      decide
    · have h2' : g 56 i = -1 := Decidable.not_not.mp h2
      refine s_inN ?_ (fun ea => ?_)
      · omega
      try simp only [ea]
      clear ea
      rw [eo]
      refine sX10_isPaid (d := d + 2) (by omega) (by rw [c3.1 56 (by decide) (by decide)]; exact b8) ?_
      rw [c3.1 56 (by decide) (by decide)]
      have : ∀ v : Int, v = pI (¬ g 56 o = -1) → (w32 v = w32 0 ↔ bkV g i = 1) := by
        intro v hv
        rw [hv, pI_z]
        unfold bkV
        rw [eo, show ((o : Int)).toNat = o by omega]
        constructor
        · intro z; rw [if_neg (by omega)]
        · intro z y; rw [if_pos (Or.inr ⟨by omega, y⟩)] at z; exact absurd z (by decide)
      first | with_reducible refine b_eq (fun h3 => ?_) (fun h3 => ?_) | with_reducible refine b_ne (fun h3 => ?_) (fun h3 => ?_)
      · exact s87 0 _ (this 0 (by rw [pI_f h3]))
      · exact zX10_takeBack_82 (s87 1 _ (this 1 (by rw [pI_t h3])))
