/-! back: the reference, the call -/
theorem sX12_back {T : Nat × (Nat → Int32)} {d : Nat} {Q : mz_K} {X : mz_X} {g : mz_S} {c : mz_S} {x : Int} (wl : WfL0 c) (wb : WfB c) (w : WfW c) (rl : ReL c g) (rb : ReB c g) (rw' : ReW c g) (hx : R32 x)
    (k1 : ¬ (0 ≤ x ∧ x ≤ c 48 4 - 1) → Q 0 (mx_up (mx_up g 99 0 0) 99 0 1)) (k2 : ∀ i : Nat, x = (i : Int) → (i : Int) < c 48 4 → ¬ cbP c i → Q 0 (mx_up (mx_up g 99 0 0) 99 0 2))
    (k3 : ∀ i a : Nat, x = (i : Int) → (i : Int) < c 48 4 → cbP c i → c 49 i = (a : Int) → ∀ B, Ch [110, 146, 140] [] (mx_up g 99 0 0) B → B 146 = lset (g 146) i 1 → B 110 = lset (g 110) (c 49 i * 4 + c 51 i).toNat (g 110 (c 49 i * 4 + c 51 i).toNat - c 52 i) → (∀ j : Nat, (j : Int) < c 48 4 → B 140 j = bkT c i a j) → Q (bkV c i) B) : zC T (d + 5) 281 [mx_R 99, mx_I x] g Q X := by
  have w0 := wl.1
  have w1 := w.1
  have wb1 := wb.1
  refine zX12_back ?_
  intro G eG
  rw [← eG] at k1 k2 k3
  have cG : Ch [] [0] g G := by rw [eG]; exact ch_0 g 0
  have rl := rl.fr cG (by decide) (by decide)
  have rb := rb.fr cG (by decide) (by decide)
  have rw' := rw'.fr cG (by decide) (by decide)
  refine sX12_isWordC rw' w hx ?_
  first | with_reducible refine b_eq (fun h1 => ?_) (fun h1 => ?_) | with_reducible refine b_ne (fun h1 => ?_) (fun h1 => ?_)
  rotate_left
  · exact sX12_fails (k1 h1)
  obtain ⟨i, rfl⟩ := Int.eq_ofNat_of_zero_le h1.1
  have hi : (i : Int) < c 48 4 := by omega
  obtain ⟨a1, a2, a3, a4, a5, a6, a7, a8, a9, a10, a11, a12, a13⟩ := w.2.1 i hi
  obtain ⟨r1, r2, r3, r4, r5, r6, r7, r8, r9, r10, r11, r12, r13⟩ := rw'.2 i hi
  obtain ⟨a, e49⟩ := Int.eq_ofNat_of_zero_le a1.1
  have rc := wb.2.2 (c 49 i * 4 + c 51 i).toNat (by omega)
  have k2 := k2 i rfl hi
  have k3 := k3 i a rfl hi
  refine s_inN ?_ (fun ea => ?_)
  · omega
  try simp only [ea]
  clear ea
  rw [r1, e49]
  refine s_inN ?_ (fun ea => ?_)
  · omega
  try simp only [ea]
  clear ea
  refine s_inN ?_ (fun ea => ?_)
  · omega
  try simp only [ea]
  clear ea
  rw [(rb.2.1 a (by omega)).1, r10]
  have no : ¬ cbP c i → aX12_back T (d + 4) Q X 110 [some (mx_R 99), some (mx_I (i : Int)), some (mx_I (a : Int)), some (mx_I (c 10 a)), some (mx_I (c 58 i))] [] G (0, 0) := fun z => zX12_back_110 (sX12_fails (k2 z))
  refine s_inN ?_ (fun ea => ?_)
  · omega
  try simp only [ea]
  clear ea
  rw [r12]
  first | with_reducible refine c_lt ?_ ?_ (fun h2 => ?_) (fun h2 => ?_) | with_reducible refine c_le ?_ ?_ (fun h2 => ?_) (fun h2 => ?_) | with_reducible refine c_eq ?_ ?_ (fun h2 => ?_) (fun h2 => ?_) | with_reducible refine c_ne ?_ ?_ (fun h2 => ?_) (fun h2 => ?_)
  · omega
  · omega
  · exact no (fun z => by have := z.1; omega)
  · refine s_inN ?_ (fun ea => ?_)
    · omega
    try simp only [ea]
    clear ea
    rw [r13]
    first | with_reducible refine c_lt ?_ ?_ (fun h3 => ?_) (fun h3 => ?_) | with_reducible refine c_le ?_ ?_ (fun h3 => ?_) (fun h3 => ?_) | with_reducible refine c_eq ?_ ?_ (fun h3 => ?_) (fun h3 => ?_) | with_reducible refine c_ne ?_ ?_ (fun h3 => ?_) (fun h3 => ?_)
    · omega
    · omega
    · exact no (fun z => by have := z.2.1; omega)
    · refine sX12_hasFallen wb rb (by omega) ?_
      rw [show ((a : Int)).toNat = a by omega]
      first | with_reducible refine b_eq (fun h4 => ?_) (fun h4 => ?_) | with_reducible refine b_ne (fun h4 => ?_) (fun h4 => ?_)
      · exact no (fun z => by have := z.2.2.1; rw [e49] at this; exact h4 this)
      · have tt : ∀ j : Nat, c 49 j = (a : Int) → c 10 a = c 10 (c 49 j).toNat := fun j z => by rw [z]; rfl
        refine sX12_isPaidAt (d := d + 2) (c := c) wl wb w rl rb rw' (by omega) (fun _ => by rw [show ((i : Int)).toNat = i by omega]; exact tt i e49) ?_
        rw [show ((i : Int)).toNat = i by omega]
        first | with_reducible refine b_eq (fun h5 => ?_) (fun h5 => ?_) | with_reducible refine b_ne (fun h5 => ?_) (fun h5 => ?_)
        · exact no (fun z => z.2.2.2.1 h5.2)
        · refine sX12_isPaidAt (d := d + 2) (c := c) wl wb w rl rb rw' (by omega) (fun z => tt _ (by rw [a10 z]; exact e49)) ?_
          first | with_reducible refine b_eq (fun h6 => ?_) (fun h6 => ?_) | with_reducible refine b_ne (fun h6 => ?_) (fun h6 => ?_)
          · exact no (fun z => by rcases z.2.2.2.2.1 with y | y; exact h6.1 y; exact y h6.2)
          · refine s_inN ?_ (fun ea => ?_)
            · omega
            try simp only [ea]
            clear ea
            rw [r3, show 4 * (a : Int) + c 51 i = c 49 i * 4 + c 51 i by omega]
            refine s_in (by omega) (fun ea => ?_)
            rw [ea]
            refine s_inN ?_ (fun ea => ?_)
            · omega
            try simp only [ea]
            clear ea
            rw [r4, rb.2.2 _ (by omega)]
            first | with_reducible refine c_lt ?_ ?_ (fun h7 => ?_) (fun h7 => ?_) | with_reducible refine c_le ?_ ?_ (fun h7 => ?_) (fun h7 => ?_) | with_reducible refine c_eq ?_ ?_ (fun h7 => ?_) (fun h7 => ?_) | with_reducible refine c_ne ?_ ?_ (fun h7 => ?_) (fun h7 => ?_)
            · omega
            · omega
            rotate_left
            · exact no (fun z => by have := z.2.2.2.2.2; omega)
            have cd : cbP c i := ⟨by omega, by omega, by rw [e49]; exact Decidable.not_not.mp h4, fun z => h5 ⟨by omega, z⟩, by
              by_cases y : c 58 i = -1
              · exact Or.inl y
              · exact Or.inr (fun z => h6 ⟨y, z⟩), by omega⟩
            have k3 := k3 cd e49
            clear h2 h3 h4 h5 h6 h7 cd k2 no
            refine s_inN ?_ (fun ea => ?_)
            · omega
            try simp only [ea]
            clear ea
            refine s_in (by omega) (fun _ => ?_)
            refine s_inN ?_ (fun ea => ?_)
            · omega
            try simp only [ea]
            clear ea
            refine s_in (by omega) (fun _ => ?_)
            intro G2 e2
            refine s_inN ?_ (fun ea => ?_)
            · omega
            try simp only [ea]
            clear ea
            refine ⟨zb1, ?_⟩
            intro G3 e3
            have c3 : Ch [110, 146] [] G G3 := by rw [e3, e2]; exact ((Ch.rf G).up (by decide) (by decide)).up (by decide) (by decide)
            have v110 : G3 110 = lset (g 110) (c 49 i * 4 + c 51 i).toNat (g 110 (c 49 i * 4 + c 51 i).toNat - c 52 i) := by
              rw [e3, up_at, if_neg (by decide), e2, up_at, if_pos rfl, cG.1 110 (by decide) (by decide)]
            have v146 : G3 146 = lset (g 146) i 1 := by
              rw [e3, up_at, if_pos rfl, e2, up_at, if_neg (by decide), cG.1 146 (by decide) (by decide)]
            have rlB : ∀ B, Ch [110, 146, 140] [] G B → ReL c B := fun B cB => rl.fr cB (by decide) (by decide)
            have rbB : ∀ B, Ch [110, 146, 140] [] G B → ∀ j, j < 12 → B 106 j = c 10 j := fun B cB j hj => by rw [cB.1 106 (by decide) (by decide)]; exact (rb.2.1 j hj).1
            have p141 : ∀ B, Ch [110, 146, 140] [] G B → ∀ j : Nat, (j : Int) < c 48 4 → B 141 j = c 56 j := fun B cB j hj => by rw [cB.1 141 (by decide) (by decide)]; exact (rw'.2 j hj).2.2.2.2.2.2.2.1
            have c3' : Ch [110, 146, 140] [] G G3 := c3.sub (by decide) (by decide)
            have g140 : ∀ j : Nat, (j : Int) < c 48 4 → G 140 j = c 55 j := fun j hj => (rw'.2 j hj).2.2.2.2.2.2.1
            have fin : ∀ B, Ch [110, 146, 140] [] G B → B 146 = lset (g 146) i 1 → B 110 = lset (g 110) (c 49 i * 4 + c 51 i).toNat (g 110 (c 49 i * 4 + c 51 i).toNat - c 52 i) → (∀ j : Nat, (j : Int) < c 48 4 → B 140 j = bkT c i a j) → aX12_back T (d + 4) Q X 183 [some (mx_R 99), some (mx_I (i : Int)), some (mx_I (a : Int)), some (mx_I (c 10 a)), some (mx_I (c 58 i))] [] B (0, 0) := by
              intro B cB b1 b2 b3
              have kk := k3 B cB b1 b2 b3
              refine zX12_back_183 (sX12_isPaidH w (p141 B cB) (by omega) ?_)
              rw [show ((i : Int)).toNat = i by omega]
              unfold bkV at kk
              first | with_reducible refine b_eq (fun y1 => ?_) (fun y1 => ?_) | with_reducible refine b_ne (fun y1 => ?_) (fun y1 => ?_)
              · rw [if_pos (Or.inl y1.2)] at kk
                exact zX12_back_200 (zX12_back_205 kk)
              · refine sX12_isPaidH w (p141 B cB) (by omega) ?_
                first | with_reducible refine b_eq (fun y2 => ?_) (fun y2 => ?_) | with_reducible refine b_ne (fun y2 => ?_) (fun y2 => ?_)
                · rw [if_neg] at kk
                  · exact zX12_back_205 kk
                  · rintro (z | z)
                    · exact y1 ⟨by omega, z⟩
                    · exact y2 z
                · rw [if_pos (Or.inr y2)] at kk
                  exact zX12_back_200 (zX12_back_205 kk)
            have s161 : ∀ B, Ch [110, 146, 140] [] G B → B 146 = lset (g 146) i 1 → B 110 = lset (g 110) (c 49 i * 4 + c 51 i).toNat (g 110 (c 49 i * 4 + c 51 i).toNat - c 52 i) → B 140 = lset (G 140) i (stV c i a (c 1 0)) → aX12_back T (d + 4) Q X 161 [some (mx_R 99), some (mx_I (i : Int)), some (mx_I (a : Int)), some (mx_I (c 10 a)), some (mx_I (c 58 i))] [] B (0, 0) := by
              intro B cB b1 b2 b3
              refine zX12_back_161 ?_
              first | with_reducible refine c_lt ?_ ?_ (fun y0 => ?_) (fun y0 => ?_) | with_reducible refine c_le ?_ ?_ (fun y0 => ?_) (fun y0 => ?_) | with_reducible refine c_eq ?_ ?_ (fun y0 => ?_) (fun y0 => ?_) | with_reducible refine c_ne ?_ ?_ (fun y0 => ?_) (fun y0 => ?_)
              · omega
              · omega
              · refine fin B cB b1 b2 (fun j hj => ?_)
                rw [b3]
                have := g140 j hj
                unfold bkT lset
                by_cases y : j = i
                · subst y; rw [if_pos rfl, if_pos (Or.inl rfl)]
                · rw [if_neg y, if_neg (by omega)]; exact this
              · obtain ⟨o, eo⟩ := Int.eq_ofNat_of_zero_le (show 0 ≤ c 58 i by omega)
                have oi : o ≠ i := by omega
                have ho : (o : Int) < c 48 4 := by omega
                rw [eo] at fin ⊢
                have f140 : B 140 o = c 55 o := by rw [b3]; unfold lset; rw [if_neg oi]; exact g140 o ho
                refine sX12_isPaidH w (p141 B cB) (by omega) ?_
                rw [show ((o : Int)).toNat = o by omega]
                have nx : ∀ B2, Ch [110, 146, 140] [] G B2 → B2 146 = B 146 → B2 110 = B 110 → B2 140 = lset (B 140) o (stV c o a (c 1 0)) → aX12_back T (d + 4) Q X 183 [some (mx_R 99), some (mx_I (i : Int)), some (mx_I (a : Int)), some (mx_I (c 10 a)), some (mx_I (o : Int))] [] B2 (0, 0) := by
                  intro B2 cB2 x1 x2 x3
                  refine fin B2 cB2 (x1.trans b1) (x2.trans b2) (fun j hj => ?_)
                  rw [x3, b3]
                  have := g140 j hj
                  unfold bkT lset
                  by_cases y : j = o
                  · subst y; rw [if_pos rfl, if_pos (Or.inr eo.symm)]
                  · rw [if_neg y]
                    by_cases y2 : j = i
                    · subst y2; rw [if_pos rfl, if_pos (Or.inl rfl)]
                    · rw [if_neg y2, if_neg (by omega)]; exact this
                first | with_reducible refine b_eq (fun y1 => ?_) (fun y1 => ?_) | with_reducible refine b_ne (fun y1 => ?_) (fun y1 => ?_)
                · refine nx B cB rfl rfl ?_
                  have : stV c o a (c 1 0) = B 140 o := by
                    unfold stV
                    rw [if_pos (Or.inr y1.2), f140]
                  rw [this]
                  funext j
                  unfold lset
                  split
                  · rename_i z; rw [z]
                  · rfl
                · have hp : c 56 o = -1 := by
                    by_cases z : c 56 o = -1
                    · exact z
                    · exact absurd ⟨by omega, z⟩ y1
                  refine sX12_stops (d := d + 2) (c := c) (b := a) wl wb w (rlB B cB) (rbB B cB) ho (by omega) rfl ?_ f140 hp ?_
                  · rw [cB.1 135 (by decide) (by decide)]; exact (rw'.2 o ho).2.1
                  · exact nx _ (cB.up (by decide) (by decide)) (by rw [up_at, if_neg (by decide)]) (by rw [up_at, if_neg (by decide)]) (by rw [up_at, if_pos rfl])
            refine sX12_isPaidH w (p141 G3 c3') (by omega) ?_
            rw [show ((i : Int)).toNat = i by omega]
            have f140 : G3 140 i = c 55 i := by rw [c3.1 140 (by decide) (by decide)]; exact g140 i hi
            first | with_reducible refine b_eq (fun y1 => ?_) (fun y1 => ?_) | with_reducible refine b_ne (fun y1 => ?_) (fun y1 => ?_)
            · refine s161 G3 c3' v146 v110 ?_
              have : stV c i a (c 1 0) = G 140 i := by
                unfold stV
                rw [if_pos (Or.inr y1.2), g140 i hi]
              rw [this, c3.1 140 (by decide) (by decide)]
              funext j
              unfold lset
              split
              · rename_i z; rw [z]
              · rfl
            · have hp : c 56 i = -1 := by
                by_cases z : c 56 i = -1
                · exact z
                · exact absurd ⟨by omega, z⟩ y1
              refine sX12_stops (d := d + 2) (c := c) (b := a) wl wb w (rlB G3 c3') (rbB G3 c3') hi (by omega) rfl ?_ f140 hp ?_
              · rw [c3.1 135 (by decide) (by decide)]; exact r2
              · exact s161 _ (c3'.up (by decide) (by decide)) (by rw [up_at, if_neg (by decide)]; exact v146) (by rw [up_at, if_neg (by decide)]; exact v110) (by rw [up_at, if_pos rfl, c3.1 140 (by decide) (by decide)])
def bkS : List Nat := [14, 55, 61, 110, 140, 146, 179]
theorem C_back {T : Nat × (Nat → Int32)} {d : Nat} {X X' : mz_X} {g : mz_S} {x : Int} (wl : IL g) (wb : IB g) (w : IW g) (hx : R32 x) : zC T (d + 8) 364 [mx_R 0, mx_I x, mx_R 179] g (fun kk g1 => zC T (d + 8) 281 [mx_R 99, mx_I x] g1 (fun r g2 => AnsI kk r g2 ∧ IB g2 ∧ IW g2 ∧ Qy bkS [0] g g2) X') X := by
  have w0 := wl.1.1
  have w1 := w.1.1
  have wb1 := wb.1.1
  have bad : ∀ n : Int, 1 ≤ n ∧ n ≤ 3 → AnsI n 0 (mx_up (mx_up g 99 0 0) 99 0 n) ∧ IB (mx_up (mx_up g 99 0 0) 99 0 n) ∧ IW (mx_up (mx_up g 99 0 0) 99 0 n) ∧ Qy bkS [0] g (mx_up (mx_up g 99 0 0) 99 0 n) := fun n hn =>
    ⟨⟨by omega, up_s, fun z => by omega⟩, wb.fr (ch_bad g n) (by decide) (by decide), w.fr (ch_bad g n) (by decide) (by decide), (ch_bad g n).sub (by decide) (by decide), fun z => z.fr (ch_bad g n) (by decide)⟩
  refine wL_back (zX11_back (sX11_isWord hx w1 ⟨by decide, by decide, sX11_needFound (fun h1 => ?_) (fun h1 => Or.inl ⟨rfl, ?_⟩)⟩))
  rotate_left
  · exact sX12_back (c := g) (d := d + 3) wl.1 wb.1 w.1 wl.2.2.1 wb.2.1 w.2 hx (fun _ => bad 1 (by omega)) (fun j ej hj => absurd (by omega) h1) (fun j _ ej hj => absurd (by omega) h1)
  obtain ⟨i, rfl⟩ := Int.eq_ofNat_of_zero_le h1.1
  have hi : (i : Int) < g 48 4 := by omega
  have J : ∀ j : Nat, (i : Int) = (j : Int) → j = i := fun j ej => by omega
  obtain ⟨a1, a2, a3, a4, a5, a6, a7, a8, a9, a10, a11, a12, a13⟩ := w.1.2.1 i hi
  obtain ⟨a, e49⟩ := Int.eq_ofNat_of_zero_le a1.1
  refine sX10_canTakeBack (d := d + 2) wl.1 wb.1 w.1 hi ⟨by decide, by decide, sX11_needState (fun h2 => ?_) (fun h2 => Or.inr ⟨rfl, ?_⟩)⟩
  rotate_left
  · exact sX12_back (c := g) (d := d + 3) wl.1 wb.1 w.1 wl.2.2.1 wb.2.1 w.2 hx (fun z => absurd h1 z) (fun j ej hj z => bad 2 (by omega)) (fun j _ ej hj z => absurd (J j ej ▸ z) h2)
  refine sX10_takeBack (d := d + 2) wl.1 wb.1 w.1 hi e49 h2 (fun B cB b61 b14 b55 => ?_)
  obtain ⟨G, eG⟩ : ∃ G, G = mx_up B 179 0 (w32 (bkV g i)) := ⟨_, rfl⟩
  rw [← eG]
  have cG : Ch [61, 14, 55, 179] [] g G := by rw [eG]; exact (cB.sub (by decide) (by decide)).up (by decide) (by decide)
  refine sX12_back (c := g) (d := d + 3) wl.1 wb.1 w.1 (wl.2.2.1.fr cG (by decide) (by decide)) (wb.2.1.fr cG (by decide) (by decide)) (w.2.fr cG (by decide) (by decide)) hx (fun z => absurd h1 z) (fun j ej hj z => absurd h2 (J j ej ▸ z)) (fun j a' ej hj _ ea K cK k146 k110 k140 => ?_)
  obtain rfl := J j ej
  obtain rfl : a' = a := by omega
  have c2 : Ch bkS [0] g K := ((cG.sub (by decide) (by decide)).up9 (F := [0]) (by decide)).tr (cK.sub (by decide) (by decide))
  have k14 : K 14 = B 14 := by rw [cK.1 14 (by decide) (by decide), up_at, if_neg (by decide), eG, up_at, if_neg (by decide)]
  have k55 : K 55 = B 55 := by rw [cK.1 55 (by decide) (by decide), up_at, if_neg (by decide), eG, up_at, if_neg (by decide)]
  have k61 : K 61 = B 61 := by rw [cK.1 61 (by decide) (by decide), up_at, if_neg (by decide), eG, up_at, if_neg (by decide)]
  have k179 : K 179 0 = w32 (bkV g j) := by rw [cK.1 179 (by decide) (by decide), up_q (by decide), eG, up_s]
  have k0 : K 99 0 = 0 := by rw [cK.2 0 (by decide), up_s]
  have rr := h2.2.2.2.2.2
  have st : ∀ y : Nat, (y : Int) < g 48 4 → 0 ≤ w32 (bkT g j a' y) ∧ w32 (bkT g j a' y) ≤ 30000 := by
    intro y hy
    unfold bkT
    split
    · exact stV_rng wl.1 wb.1 w.1 hy (by omega) w0
    · exact (w.1.2.1 y hy).2.2.2.2.2.2.1
  refine ⟨⟨by omega, k0, fun _ => k179⟩, ?_, ?_, c2, fun z => z.fr c2 (by decide)⟩
  · exact coinS (ix := (g 49 j * 4 + g 51 j).toNat) (n := g 52 j) wb c2 (by decide) (by decide) (by omega) (by omega) (by rw [k14, b14]) (by rw [k110, cG.1 110 (by decide) (by decide)])
  · refine w.upd (fun q hq => c2.1 q (by unfold bkS; simp at hq ⊢; omega) (by intro z; subst z; revert hq; decide)) (c2.2 55 (by decide)) (fun y hy => ?_) (fun y hy => ?_) (fun y hy => ?_) (fun y z1 z2 => ?_) (fun y hy => ?_) (fun y z1 z2 => ?_)
    · rw [k140 y hy, k55, b55]
      exact ⟨rfl, st y hy⟩
    · rw [c2.1 141 (by decide) (by decide), c2.1 56 (by decide) (by decide)]
      exact ⟨(w.2.2 y hy).2.2.2.2.2.2.2.1, (w.1.2.1 y hy).2.2.2.2.2.2.2.1⟩
    · rw [c2.1 142 (by decide) (by decide), c2.1 57 (by decide) (by decide)]
      exact (w.2.2 y hy).2.2.2.2.2.2.2.2.1
    · rw [c2.1 57 (by decide) (by decide)]
      exact (w.1.2.2 y z1 z2).1
    · have q1 := (w.2.2 y hy).2.2.2.2.2.2.2.2.2.2.2.2
      have q2 := (w.1.2.1 y hy).2.2.2.2.2.2.2.2.2.2.2.1
      rw [k146, k61, b61, cG.1 146 (by decide) (by decide)]
      unfold lset
      split
      · exact ⟨rfl, Or.inr rfl⟩
      · exact ⟨q1, q2⟩
    · rw [k61, b61]
      unfold lset
      rw [if_neg (by omega)]
      exact (w.1.2.2 y z1 z2).2.2.2
