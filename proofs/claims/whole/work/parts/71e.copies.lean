/-! before the first town: calls that go through -/
theorem C0_go {T : Nat × (Nat → Int32)} {d : Nat} {X X' : mz_X} {g : mz_S} {x : Int} (w : IL0 g) (hx : R32 x) : zC T (d + 4) 351 [mx_R 0, mx_I x, mx_R 179] g (fun kk g1 => zC T (d + 4) 211 [mx_R 99, mx_I x] g1 (fun b g2 => AnsI kk b g2 ∧ IL0 g2 ∧ (WfC g → WfC g2) ∧ Ch [1, 8, 179] [0, 1] g g2 ∧ (∀ p, p ≠ 0 → g2 1 p = g 1 p) ∧ g 1 0 ≤ g2 1 0) X') X := by
  have now := w.1.1
  have e9 : g 99 1 = g 1 0 := w.2.2.1.1
  have bad : ∀ n : Int, 1 ≤ n ∧ n ≤ 3 → AnsI n 0 (mx_up (mx_up g 99 0 0) 99 0 n) ∧ IL0 (mx_up (mx_up g 99 0 0) 99 0 n) ∧ (WfC g → WfC (mx_up (mx_up g 99 0 0) 99 0 n)) ∧ Ch [1, 8, 179] [0, 1] g (mx_up (mx_up g 99 0 0) 99 0 n) ∧ (∀ p, p ≠ 0 → mx_up (mx_up g 99 0 0) 99 0 n 1 p = g 1 p) ∧ g 1 0 ≤ mx_up (mx_up g 99 0 0) 99 0 n 1 0 := by
    intro n hn
    have hc : Ch [] [0] g (mx_up (mx_up g 99 0 0) 99 0 n) := ((Ch.rf g).up9 (by decide)).up9 (by decide)
    refine ⟨⟨by omega, up_s, fun z => by omega⟩, w.fr hc (by decide) (by decide), fun z => z.fr hc (by decide), hc.sub (by decide) (by decide), fun p _ => ?_, ?_⟩
    · rw [hc.1 1 (by decide) (by decide)]
    · rw [hc.1 1 (by decide) (by decide)]; omega
  refine wL_go (sX11_go now hx (fun h1 => Or.inl ⟨rfl, ?_⟩) (fun h1 h2 => Or.inr ⟨rfl, ?_⟩) (fun h1 h2 => ?_))
  · exact sX12_go (by omega) hx (fun _ => bad 1 (by omega)) (fun z => absurd z h1) (fun z => absurd z h1)
  · exact sX12_go (by omega) hx (fun z => absurd h1 z) (fun _ _ => bad 2 (by omega)) (fun _ z => by omega)
  · obtain ⟨g1, eg1⟩ : ∃ g1, g1 = mx_up (fillS (mx_up g 1 0 (g 1 0 + x)) 8 32 0) 179 0 (w32 (g 1 0 + x)) := ⟨_, rfl⟩
    rw [← eg1]
    have c1 : Ch [1, 8, 179] [0, 1] g g1 := by rw [eg1]; exact (((Ch.rf g).up (by decide) (by decide)).fill (by decide) (by decide)).up (by decide) (by decide)
    have f9 : g1 99 1 = g 1 0 := by rw [eg1]; simp [mx_up, fillS]; exact e9
    have f0 : g1 1 0 = g 1 0 + x := by rw [eg1]; simp [mx_up, fillS]
    have f1 : ∀ p, p ≠ 0 → g1 1 p = g 1 p := by intro p hp; rw [eg1]; simp [mx_up, fillS, hp]
    have f8 : ∀ i, i < 32 → g1 8 i = 0 := by intro i hi; rw [eg1]; simp [mx_up, fillS, hi]
    have f7 : g1 179 0 = w32 (g 1 0 + x) := by rw [eg1]; exact up_s
    refine sX12_go (by omega) hx (fun z => absurd h1 z) (fun _ z => by omega) (fun _ _ => ?_)
    rw [f9]
    obtain ⟨g2, eg2⟩ : ∃ g2, g2 = mx_up (mx_up g1 99 0 0) 99 1 (g 1 0 + x) := ⟨_, rfl⟩
    rw [← eg2]
    have c2 : Ch [] [0, 1] g1 g2 := by rw [eg2]; exact ((Ch.rf g1).up9 (by decide)).up9 (by decide)
    have c3 : Ch [1, 8, 179] [0, 1] g g2 := c1.tr (c2.sub (by decide) (by decide))
    have s1 : g2 1 = g1 1 := c2.1 1 (by decide) (by decide)
    have s8 : g2 8 = g1 8 := c2.1 8 (by decide) (by decide)
    have s7 : g2 179 = g1 179 := c2.1 179 (by decide) (by decide)
    refine ⟨⟨by omega, by rw [eg2, up_i (by decide), up_s], fun _ => by rw [s7, f7]⟩, w.go c3 (n := g 1 0 + x) (by rw [s1, f0]) (fun p hp => by rw [s1, f1 p hp]) (by rw [eg2, up_s]) (by omega), fun _ => WfC.zero (fun i hi => by rw [s8, f8 i hi]), c3, fun p hp => by rw [s1, f1 p hp], by rw [s1, f0]; omega⟩
theorem C0_count {T : Nat × (Nat → Int32)} {d : Nat} {X X' : mz_X} {g : mz_S} {x : Int} (wl : IL0 g) (wb : IB g) (we : IE g) (wx : IX g) (wp : IP g) (ht : g 99 36 = g 39 3) (hw : g 99 55 = g 48 4) (hx : R32 x) : zC T (d + 4) 206 [mx_R 0, mx_I x] g (fun r g1 => zC T (d + 4) 329 [mx_R 99, mx_I x] g1 (fun b g2 => r = b ∧ Qy [] [0] g g2) X') X := by
  have c1 := ch_0 g 0
  have fin : ∀ r b : Int, r = b → r = b ∧ Qy [] [0] g (mx_up g 99 0 0) := fun r b e => ⟨e, c1, fun z => z.fr c1 (by decide)⟩
  have hxw : w32 x = x := w32_of hx.1 hx.2
  by_cases hr : 0 ≤ x ∧ x ≤ 9
  · have go : ∀ r : Int, (∀ b, b = r → r = b ∧ Qy [] [0] g (mx_up g 99 0 0)) := fun r b e => fin r b e.symm
    have ref : ∀ r : Int, aX12_count T (d + 3) (fun b g2 => r = b ∧ Qy [] [0] g g2) X' ([60, 65, 70, 75, 80, 85, 90, 95, 100, 113].getD (x - 0).toNat 0) [some (mx_R 99), some (mx_I x)] [] (mx_up g 99 0 0) (0, 0) → zC T (d + 4) 329 [mx_R 99, mx_I x] g (fun b g2 => r = b ∧ Qy [] [0] g g2) X' := by
      intro r k
      refine zX12_count ?_
      rintro _ rfl
      rw [hxw]
      exact ⟨fun z => absurd hr z, fun _ => k⟩
    refine zX11_count ?_
    rw [hxw]
    refine ⟨fun z => absurd hr z, fun _ => ?_⟩
    have h10 : x = 0 ∨ x = 1 ∨ x = 2 ∨ x = 3 ∨ x = 4 ∨ x = 5 ∨ x = 6 ∨ x = 7 ∨ x = 8 ∨ x = 9 := by omega
    have u : ∀ f, f ≠ 0 → mx_up g 99 0 0 99 f = g 99 f := fun f hf => up_i hf
    rcases h10 with z | z | z | z | z | z | z | z | z | z <;> subst z
    · exact zX11_count_56 (ref _ (zX12_count_60 (go _ _ (by rw [u 1 (by decide), wl.2.2.1.1]))))
    · exact zX11_count_64 (ref _ (zX12_count_65 (go _ _ (by rw [u 2 (by decide), wl.2.2.1.2.1]))))
    · exact zX11_count_72 (ref _ (zX12_count_70 (go _ _ (by rw [u 10 (by decide), wb.2.1.1]))))
    · exact zX11_count_80 (ref _ (zX12_count_75 (go _ _ (by rw [u 3 (by decide), wl.2.2.1.2.2.1]))))
    · exact zX11_count_88 (ref _ (zX12_count_80 (go _ _ (by rw [u 36 (by decide), ht]))))
    · exact zX11_count_96 (ref _ (zX12_count_85 (go _ _ (by rw [u 55 (by decide), hw]))))
    · exact zX11_count_104 (ref _ (zX12_count_90 (go _ _ (by rw [u 16 (by decide), we.2.2.1.1]))))
    · exact zX11_count_112 (ref _ (zX12_count_95 (go _ _ (by rw [u 84 (by decide), wx.2.1]))))
    · refine zX11_count_120 (sX0_fallenSetN wb.1 (fun n hn hb => sJ6_bitCount hn (ref _ (zX12_count_100 ?_))))
      have rb : ReB g (mx_up g 99 0 0) := wb.2.1.fr c1 (by decide) (by decide)
      refine sX12_standingOnes wb.1 rb (fun m hm hb2 => sX12_ones hm (go _ _ ?_))
      rw [u 10 (by decide), wb.2.1.1, popN_sum, popN_sum]
      have h9 := wb.1.1
      have hs : sumN (fun i => bI (n.testBit i)) 12 + sumN (fun i => bI (m.testBit i)) 12 = g 9 1 := by
        rw [← sumN_add]
        have : ∀ k : Nat, sumN (fun i => bI (n.testBit i) + bI (m.testBit i)) k = min (k : Int) (g 9 1) := by
          intro k
          induction k with
          | zero => show (0 : Int) = _; omega
          | succ k ih =>
            show sumN _ k + (bI (n.testBit k) + bI (m.testBit k)) = _
            rw [ih, hb k, hb2 k]
            unfold bI
            by_cases z1 : (k : Int) < g 9 1
            · by_cases z2 : g 13 k = -1
              · rw [decide_eq_false (fun z => z.2 z2), decide_eq_true ⟨z1, z2⟩]; simp; omega
              · rw [decide_eq_true ⟨z1, z2⟩, decide_eq_false (fun z => z2 z.2)]; simp; omega
            · rw [decide_eq_false (fun z => z1 z.1), decide_eq_false (fun z => z1 z.1)]; simp; omega
        rw [this 12]; omega
      omega
    · exact zX11_count_131 (ref _ (zX12_count_113 (go _ _ (by rw [u 26 (by decide), wp.2.1]))))
  · refine zX11_count ?_
    rw [hxw]
    refine ⟨fun _ => zX12_count ?_, fun z => absurd z hr⟩
    rintro _ rfl
    rw [hxw]
    exact ⟨fun _ => fin _ _ rfl, fun z => absurd z hr⟩
theorem C0_plan {T : Nat × (Nat → Int32)} {d : Nat} {X X' : mz_X} {g : mz_S} {co x n wks x6 : Int} (wl : IL0 g) (wb : IB g) (we : IE g) (wx : IX g) (hc : R32 co) (hn : R32 n) (hw : R32 wks) (h6 : R32 x6) : zC T (d + 8) 381 [mx_R 0, mx_I co, mx_J x, mx_I n, mx_I wks, mx_I x6, mx_R 179] g (fun kk g1 => zC T (d + 8) 308 [mx_R 99, mx_I co, mx_J x, mx_I n, mx_I wks, mx_I x6] g1 (fun r g2 => AnsI kk r g2 ∧ IX g2 ∧ Qy plS [0] g g2) X') X := by
  have hwb := wb.1.1
  obtain ⟨m, em⟩ := Int.eq_ofNat_of_zero_le hwb.1
  have bad : ∀ n : Int, 1 ≤ n ∧ n ≤ 3 → AnsI n 0 (mx_up (mx_up g 99 0 0) 99 0 n) ∧ IX (mx_up (mx_up g 99 0 0) 99 0 n) ∧ Qy plS [0] g (mx_up (mx_up g 99 0 0) 99 0 n) := fun n hn =>
    ⟨⟨by omega, up_s, fun z => by omega⟩, wx.fr (ch_bad g n) (by decide) (by decide), (ch_bad g n).sub (by decide) (by decide), fun z => z.fr (ch_bad g n) (by decide)⟩
  have no : ¬ plA co n wks x6 → zC T (d + 8) 308 [mx_R 99, mx_I co, mx_J x, mx_I n, mx_I wks, mx_I x6] g (fun r g2 => AnsI 1 r g2 ∧ IX g2 ∧ Qy plS [0] g g2) X' := fun h =>
    sX12_plan (d := d + 4) (c := g) (m := m) wl.1 wb.1 wx.1 we em wb.2.1 we.2.2.1 wl.2.2.1.1 wx.2 hc hn hw h6 (fun _ => bad 1 (by omega)) (fun C N eC eN z => absurd z h) (fun C N K eC eN eK z => absurd z h)
  refine wL_plan (zX11_plan (sX11_isCoin hc ?_))
  first | with_reducible refine b_eq (fun h1 => ?_) (fun h1 => ?_) | with_reducible refine b_ne (fun h1 => ?_) (fun h1 => ?_)
  · exact zX11_plan_45 (zX11_plan_46 ⟨by decide, by decide, nA_f ⟨rfl, no (fun z => h1 z.1)⟩⟩)
  refine sX11_within hn (by omega) (by omega) ?_
  first | with_reducible refine b_eq (fun h2 => ?_) (fun h2 => ?_) | with_reducible refine b_ne (fun h2 => ?_) (fun h2 => ?_)
  · exact zX11_plan_45 (zX11_plan_46 ⟨by decide, by decide, nA_f ⟨rfl, no (fun z => h2 z.2.1)⟩⟩)
  refine sX11_within hw (by omega) (by omega) ?_
  first | with_reducible refine b_eq (fun h3 => ?_) (fun h3 => ?_) | with_reducible refine b_ne (fun h3 => ?_) (fun h3 => ?_)
  · exact zX11_plan_45 (zX11_plan_46 ⟨by decide, by decide, nA_f ⟨rfl, no (fun z => h3 z.2.2.1)⟩⟩)
  refine sX11_within h6 (by omega) (by omega) ?_
  first | with_reducible refine b_eq (fun h4 => ?_) (fun h4 => ?_) | with_reducible refine b_ne (fun h4 => ?_) (fun h4 => ?_)
  · exact zX11_plan_45 (zX11_plan_46 ⟨by decide, by decide, nA_f ⟨rfl, no (fun z => h4 z.2.2.2)⟩⟩)
  have ar : plA co n wks x6 := ⟨h1, h2, h3, h4⟩
  refine zX11_plan_46 ⟨by decide, by decide, nA_t ?_⟩
  obtain ⟨C, eC⟩ := Int.eq_ofNat_of_zero_le h1.1
  obtain ⟨N, eN⟩ := Int.eq_ofNat_of_zero_le (show 0 ≤ n by omega)
  obtain ⟨K, eK⟩ := Int.eq_ofNat_of_zero_le (show 0 ≤ wks by omega)
  subst eC eN eK
  have jc : ∀ {A : Nat}, (C : Int) = (A : Int) → A = C := fun h => by omega
  have jn : ∀ {A : Nat}, (N : Int) = (A : Int) → A = N := fun h => by omega
  have jk : ∀ {A : Nat}, (K : Int) = (A : Int) → A = K := fun h => by omega
  refine sX2_takeDebts (d := d + 3) (m := m) (x := x) we.1 em (by omega) (by omega) (by omega) (fun g1 c1 hD => ⟨by decide, by decide, sX11_needArgument (fun ok => ?_) (fun ok => ⟨rfl, ?_⟩)⟩)
  · have pr := plR_rng (c := g) (co := C) (m := m) (n := N) (wks := K) (x := x) (by omega) (by omega) (K ^ N)
    refine sX2_findPlan (d := d + 2) (c := g) (m := m) (x := x) wl.1 wb.1 wx.1 we.1 em (by omega) (by omega) (by omega) (by omega) ok c1 (fun j hj => hD ok j hj) (fun g2 c2 h72 hP => ?_)
    obtain ⟨b, eb⟩ : ∃ b, b = plR g C x m N K (K ^ N) := ⟨_, rfl⟩
    rw [← eb] at pr hP
    have ref : zC T (d + 8) 308 [mx_R 99, mx_I (C : Int), mx_J x, mx_I (N : Int), mx_I (K : Int), mx_I x6] (mx_up g2 179 0 (w32 (plV N K b x6))) (fun r g2 => AnsI 0 r g2 ∧ IX g2 ∧ Qy plS [0] g g2) X' := by
      have cG : Ch [72, 79, 80, 81, 82, 83, 84, 85, 179] [] g (mx_up g2 179 0 (w32 (plV N K b x6))) := ((c1.sub (by decide) (by decide)).tr (c2.sub (by decide) (by decide))).up (by decide) (by decide)
      refine sX12_plan (d := d + 4) (c := g) (m := m) wl.1 wb.1 wx.1 we em (wb.2.1.fr cG (by decide) (by decide)) (we.2.2.1.fr cG (by decide) (by decide)) (by rw [cG.2 1 (by decide)]; exact wl.2.2.1.1) (wx.2.fr cG (by decide) (by decide)) hc hn hw h6 (fun z => absurd ar z) (fun C' N' eC eN _ z => absurd ok (by rw [jc eC, jn eN] at z; exact z)) (fun C' N' K' eC eN eK _ _ G c3 z0 => ?_)
      rw [jc eC, jn eN, jk eK, ← eb]
      have c4 : Ch plS [0] g G := (cG.sub (by decide) (by decide)).tr (c3.sub (by decide) (by decide))
      refine ⟨⟨by omega, z0, fun _ => by rw [c3.1 179 (by decide) (by decide), up_s]⟩, ?_, c4, fun z => z.fr c4 (by decide)⟩
      refine wx.cg c4 (by decide) (by decide) ?_
      rw [c3.1 72 (by decide) (by decide), up_q (by decide), h72 4 (by decide), c1.1 72 (by decide) (by decide)]
    obtain ⟨p1, p2⟩ := hP
    unfold plV at ref
    rw [p1]
    first | with_reducible refine c_lt ?_ ?_ (fun z1 => ?_) (fun z1 => ?_) | with_reducible refine c_le ?_ ?_ (fun z1 => ?_) (fun z1 => ?_) | with_reducible refine c_eq ?_ ?_ (fun z1 => ?_) (fun z1 => ?_) | with_reducible refine c_ne ?_ ?_ (fun z1 => ?_) (fun z1 => ?_)
    · omega
    · omega
    · rw [if_pos z1] at ref
      refine zX11_plan_92 ?_
      rw [p1, z1]
      exact ref
    · rw [if_neg z1] at ref
      first | with_reducible refine c_lt ?_ ?_ (fun z2 => ?_) (fun z2 => ?_) | with_reducible refine c_le ?_ ?_ (fun z2 => ?_) (fun z2 => ?_) | with_reducible refine c_eq ?_ ?_ (fun z2 => ?_) (fun z2 => ?_) | with_reducible refine c_ne ?_ ?_ (fun z2 => ?_) (fun z2 => ?_)
      · omega
      · omega
      · rw [if_neg z2] at ref
        refine s_in (by omega) (fun ea => ?_)
        rw [ea, p2 z1 x6.toNat (by omega)]
        exact ref
      · rw [if_pos (by omega)] at ref
        refine zX11_plan_92 ?_
        rw [p1]
        exact ref
  · have cG : Ch [79, 80, 81] [] g g1 := c1
    refine sX12_plan (d := d + 4) (c := g) (m := m) wl.1 wb.1 wx.1 we em (wb.2.1.fr cG (by decide) (by decide)) (we.2.2.1.fr cG (by decide) (by decide)) (by rw [cG.2 1 (by decide)]; exact wl.2.2.1.1) (wx.2.fr cG (by decide) (by decide)) hc hn hw h6 (fun z => absurd ar z) (fun C' N' eC eN _ _ G c3 => ?_) (fun C' N' K' eC eN eK _ z => absurd (by rw [jc eC, jn eN] at z; exact z) ok)
    have c4 : Ch [79, 80, 81, 163, 164, 165, 166, 167] [0] g (mx_up G 99 0 1) := ((cG.sub (by decide) (by decide)).tr (c3.sub (by decide) (by decide))).up9 (by decide)
    exact ⟨⟨by omega, up_s, fun z => by omega⟩, wx.fr c4 (by decide) (by decide), c4.sub (by decide) (by decide), fun z => z.fr c4 (by decide)⟩
theorem C0_cross {T : Nat × (Nat → Int32)} {d : Nat} {X X' : mz_X} {g : mz_S} {co mo : Int} (hB0 : g 9 1 = 0) (wb : IB g) (we : IE g) (hc : R32 co) (hm : R32 mo) : zC T (d + 12) 375 [mx_R 0, mx_I co, mx_I mo, mx_R 179] g (fun kk g1 => zC T (d + 12) 293 [mx_R 99, mx_I co, mx_I mo] g1 (fun r g2 => AnsI kk r g2 ∧ IE g2 ∧ Qy crS crF g g2) X') X := by
  have hw := wb.1.1
  have hw2 := we.1.1
  have bad : ∀ n : Int, 1 ≤ n ∧ n ≤ 3 → AnsI n 0 (mx_up (mx_up g 99 0 0) 99 0 n) ∧ IE (mx_up (mx_up g 99 0 0) 99 0 n) ∧ Qy crS crF g (mx_up (mx_up g 99 0 0) 99 0 n) := fun n hn => by
    have q := qy_bad (S := crS) (F := crF) (Ch.rf g) (fun z => z) (by decide) n hn
    exact ⟨q.1, we.fr (ch_bad g n) (by decide) (by decide), q.2⟩
  have no : ¬ ((0 ≤ co ∧ co ≤ 3) ∧ (3 ≤ mo ∧ mo ≤ 5)) → zC T (d + 12) 293 [mx_R 99, mx_I co, mx_I mo] g (fun r g2 => AnsI 1 r g2 ∧ IE g2 ∧ Qy crS crF g g2) X' := by
    intro h
    refine zX12_cross ?_
    intro g2 e2
    rw [← e2] at bad
    have b := bad 1 (by omega)
    refine sX12_isCoin hc ?_
    first | with_reducible refine b_eq (fun y1 => ?_) (fun y1 => ?_) | with_reducible refine b_ne (fun y1 => ?_) (fun y1 => ?_)
    · exact zX12_cross_26 (sX12_fails b)
    · refine sX12_withinW (by omega) (by omega) (by omega) ?_
      first | with_reducible refine b_eq (fun y2 => ?_) (fun y2 => ?_) | with_reducible refine b_ne (fun y2 => ?_) (fun y2 => ?_)
      · exact absurd ⟨y1, y2⟩ h
      · exact zX12_cross_26 (sX12_fails b)
  refine wL_cross (zX11_cross (sX11_isCoin hc ?_))
  first | with_reducible refine b_eq (fun h1 => ?_) (fun h1 => ?_) | with_reducible refine b_ne (fun h1 => ?_) (fun h1 => ?_)
  · exact zX11_cross_20 (zX11_cross_21 ⟨by decide, by decide, nA_f (Or.inl ⟨rfl, no (fun z => h1 z.1)⟩)⟩)
  refine sX11_within hm (by omega) (by omega) ?_
  first | with_reducible refine b_eq (fun h2 => ?_) (fun h2 => ?_) | with_reducible refine b_ne (fun h2 => ?_) (fun h2 => ?_)
  · exact zX11_cross_20 (zX11_cross_21 ⟨by decide, by decide, nA_f (Or.inl ⟨rfl, no (fun z => h2 z.2)⟩)⟩)
  refine zX11_cross_21 ⟨by decide, by decide, nA_t ?_⟩
  obtain ⟨C, rfl⟩ := Int.eq_ofNat_of_zero_le h1.1
  obtain ⟨M, rfl⟩ := Int.eq_ofNat_of_zero_le (show 0 ≤ mo by omega)
  obtain ⟨m, em⟩ := Int.eq_ofNat_of_zero_le hw.1
  refine sX1_findRing (d := d) (m := m) we.1 em (by omega) (by omega) (by omega) (fun g1 c1 r1 b1 => ?_)
  have r1 : RgC g1 (rgBst g m C M) := r1
  have b1 : RgB m (rgBst g m C M) := b1
  have bE : rgBst g m C M = (0, 0, []) ∨ RgE (fun a b => netC g a b C) (rgBst g m C M) := best_E
  generalize hB : rgBst g m C M = B at r1 b1 bE
  obtain ⟨q1, q2, q3, q4⟩ := b1
  have ref : ∀ G, Ch [62, 63, 64, 15, 16, 17, 18, 19, 20, 21, 22, 23, 179] [] g G → ∀ (kk : Int), (g 15 2 + (B.1 : Int) ≤ 400 → ∀ G2, Ch [148, 149, 150] [0, 73, 74] G G2 → G2 99 0 = 0 → RgR G2 B → aX12_cross T (d + 11) (fun r g2 => AnsI kk r g2 ∧ IE g2 ∧ Qy crS crF g g2) X' 61 [some (mx_R 99), some (mx_I (C : Int)), some (mx_I (M : Int)), some (mx_I 0), none] [] G2 (0, 0)) → (¬ g 15 2 + (B.1 : Int) ≤ 400 → ∀ G2, Ch [148, 149, 150] [0, 73, 74] G G2 → AnsI kk 0 (mx_up G2 99 0 2) ∧ IE (mx_up G2 99 0 2) ∧ Qy crS crF g (mx_up G2 99 0 2)) → zC T (d + 12) 293 [mx_R 99, mx_I (C : Int), mx_I (M : Int)] G (fun r g2 => AnsI kk r g2 ∧ IE g2 ∧ Qy crS crF g g2) X' := by
    intro G cG kk k1 k2
    refine zX12_cross ?_
    intro g2 e2
    have c2 : Ch [62, 63, 64, 15, 16, 17, 18, 19, 20, 21, 22, 23, 179] [0] g g2 := by rw [e2]; exact (cG.sub (by decide) (by decide)).up9 (by decide)
    have c02 : Ch [] [0] G g2 := by rw [e2]; exact ch_0 G 0
    refine sX12_isCoin hc ?_
    first | with_reducible refine b_eq (fun y1 => ?_) (fun y1 => ?_) | with_reducible refine b_ne (fun y1 => ?_) (fun y1 => ?_)
    · exact absurd h1 y1
    · refine sX12_withinW (by omega) (by omega) (by omega) ?_
      first | with_reducible refine b_eq (fun y2 => ?_) (fun y2 => ?_) | with_reducible refine b_ne (fun y2 => ?_) (fun y2 => ?_)
      · refine sX12_seekBst (c := g) (m := m) (d := d + 3) we.1 we.2.1 (we.2.2.1.fr c2 (by decide) (by decide)) (by rw [c2.2 10 (by decide), wb.2.1.1, em]) (by omega) (by omega) (by omega) (fun g3 c3 r3 b3 => ?_)
        rw [hB] at r3
        have cc : Ch [148, 149, 150] [0, 73, 74] G g3 := (c02.sub (by decide) (by decide)).tr (c3.sub (by decide) (by decide))
        rw [c3.2 16 (by decide), c2.2 16 (by decide), we.2.2.1.1, r3.1]
        first | with_reducible refine c_lt ?_ ?_ (fun z => ?_) (fun z => ?_) | with_reducible refine c_le ?_ ?_ (fun z => ?_) (fun z => ?_) | with_reducible refine c_eq ?_ ?_ (fun z => ?_) (fun z => ?_) | with_reducible refine c_ne ?_ ?_ (fun z => ?_) (fun z => ?_)
        · omega
        · omega
        · exact k1 z g3 cc (by rw [c3.2 0 (by decide), e2, up_s]) r3
        · exact sX12_fails (k2 z g3 cc)
      · exact absurd h2 y2
  rw [r1.1]
  refine sX6_hasRoom (by rw [c1.1 15 (by decide) (by decide)]; exact hw2) (by omega) ⟨by decide, by decide, ?_⟩
  rw [c1.1 15 (by decide) (by decide)]
  refine sX11_needState (fun h3 => ?_) (fun h3 => Or.inr ⟨rfl, ?_⟩)
  · refine sX1_crossOut (c := g) (m := m) (B := B) (d := d + 7) wb.1 em (by omega) ⟨hw2.1, h3⟩ ⟨q1, q2, q3, q4⟩ r1 (c1.1 10 (by decide) (by decide)) ⟨fun q hq => c1.1 q (by simp at hq ⊢; omega) (by intro z; subst z; revert hq; decide), by rw [c1.1 1 (by decide) (by decide)]⟩ (fun g2 c2 p2 => ?_)
    obtain ⟨G, eG⟩ : ∃ G, G = mx_up g2 179 0 (w32 B.2.1) := ⟨_, rfl⟩
    rw [← eG]
    have cG : Ch [62, 63, 64, 15, 16, 17, 18, 19, 20, 21, 22, 23, 179] [] g G := by rw [eG]; exact ((c1.sub (by decide) (by decide)).tr (c2.sub (by decide) (by decide))).up (by decide) (by decide)
    have pG : mvP g C (crE g B) B.1 G := p2.fr (S := [179]) (F := []) (by rw [eG]; exact (Ch.rf g2).up (by decide) (by decide)) (by decide)
    have w32B : w32 B.2.1 = w32 B.2.1 := rfl
    refine ref G cG 0 (fun _ G2 c3 z0 r3 => ?_) (fun z => absurd h3 z)
    have cg2 : Ch crS [0, 73, 74] g G2 := (cG.sub (by decide) (by decide)).tr (c3.sub (by decide) (by decide))
    refine sX12_cross_at (c := g) (m := m) (B := B) (d := d + 9) wb.1 em (by rw [we.2.2.1.1]; exact ⟨hw2.1, h3⟩) ⟨q1, q2, q3, q4⟩ r3 (fun j hj => by rw [cg2.1 106 (by decide) (by decide)]; exact (wb.2.1.2.1 j hj).1) ⟨fun q hq => ?_, by rw [cg2.2 16 (by decide)]; rfl, cg2.2 1 (by decide)⟩ (fun G3 c4 mq => ?_)
    · rw [c3.1 q (by simp at hq ⊢; omega) (by intro z; subst z; revert hq; decide), cG.1 q (by simp at hq ⊢; omega) (by intro z; subst z; revert hq; decide)]
      rfl
    have call : Ch crS crF g G3 := (cg2.sub (by decide) (by decide)).tr (c4.sub (by decide) (by decide))
    have cV := mvV_ch g C (crE g B) B.1
    refine ⟨⟨by omega, ?_, fun _ => ?_⟩, ?_, call, fun z => z.fr call (by decide)⟩
    · rw [c4.2 0 (by decide), z0]
    · rw [c4.1 179 (by decide) (by decide), c3.1 179 (by decide) (by decide), eG, up_s]
    · have ie : IE (mvV g C (crE g B) B.1) := by
        rcases bE with z | z
        · rw [z]; exact we
        · exfalso
          have l3 := z.1
          have := getD_lt q4 (i := 0) (by omega)
          omega
      refine ie.cg (fun q hq => ?_) mq.2.1
      by_cases z : q = 13
      · subst z
        rw [call.1 13 (by decide) (by decide), cV.1 13 (by decide) (by decide)]
      · by_cases z2 : q < 26
        · rw [c4.1 q (by simp at hq ⊢; omega) (by simp at hq; omega), c3.1 q (by simp at hq ⊢; omega) (by simp at hq; omega)]
          exact pG.1 q (by simp at hq ⊢; omega)
        · exact mq.1 q (by simp at hq ⊢; omega)
  · have cg1 : Ch [62, 63, 64, 15, 16, 17, 18, 19, 20, 21, 22, 23, 179] [] g g1 := c1.sub (by decide) (by decide)
    refine ref g1 cg1 2 (fun z => absurd z h3) (fun _ G2 c3 => ?_)
    have c4 : Ch [62, 63, 64, 148, 149, 150] [0, 73, 74] g (mx_up G2 99 0 2) := ((c1.sub (by decide) (by decide)).tr (c3.sub (by decide) (by decide))).up9 (by decide)
    exact ⟨⟨by omega, up_s, fun z => by omega⟩, we.fr c4 (by decide) (by decide), c4.sub (by decide) (by decide), fun z => z.fr c4 (by decide)⟩
