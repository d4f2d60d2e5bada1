/-! the call pay -/
def paS : List Nat := [14, 110, 55, 56, 57, 140, 141, 142, 39, 45, 46, 47, 130, 131, 132, 133, 179, 15, 16, 17, 18, 19, 20, 21, 22, 23, 111, 112, 113, 114, 115, 116, 117, 118]
def paF : List Nat := [0, 16, 50, 54]
theorem coinS {g g2 : mz_S} {S F : List Nat} {ix : Nat} {n : Int} (wb : IB g) (h : Ch S F g g2) (hS : ∀ q ∈ [1, 9, 10, 11, 12, 13, 106, 107, 108, 109], q ∉ S) (hF : ∀ f ∈ [10], f ∉ F) (hi : ix < 48) (hn : 0 ≤ n ∧ n ≤ g 14 ix) (e14 : g2 14 = lset (g 14) ix (g 14 ix - n)) (e110 : g2 110 = lset (g 110) ix (g 110 ix - n)) : IB g2 := by
  refine wb.coins h hS hF (fun j hj => ?_) (fun j hj => ?_)
  · have := wb.2.1.2.2 j hj
    rw [e14, e110]
    unfold lset
    split
    · rename_i z; subst z; exact w32_sub this
    · exact this
  · have := wb.1.2.2 j hj
    rw [e14]
    unfold lset
    split
    · rename_i z; subst z; omega
    · exact this
theorem payFin {g P G H G2 : mz_S} {i a b : Nat} {W : Int} {st : Nat → Int} (wl : IL g) (wb : IB g) (we : IE g) (w : IW g) (wi : IC W g) (hi : (i : Int) < g 48 4) (e49 : g 49 i = (a : Int)) (e50 : g 50 i = (b : Int)) (hc : cpP g i) (hm : g 15 2 < 400)
    (cP : Ch [14, 55, 56, 39, 45, 46, 47] [] g P) (p14 : P 14 = lset (g 14) (g 50 i * 4 + g 51 i).toNat (g 14 (g 50 i * 4 + g 51 i).toNat - g 52 i)) (p56 : P 56 = lset (g 56) i (g 1 0)) (p55 : ∀ j : Nat, (j : Int) < g 48 4 → P 55 j = st j) (wk : WkS (W + 1) P) (p39 : P 39 3 = g 39 3)
    (eG : G = mx_up (recS P (g 10 b) a b (g 51 i) (g 52 i) 0) 179 0 (w32 1)) (cH : Ch [110, 141, 130, 131, 132, 133] [0, 50, 54] G H) (h110 : H 110 = lset (g 110) (g 50 i * 4 + g 51 i).toNat (g 110 (g 50 i * 4 + g 51 i).toNat - g 52 i)) (h141 : H 141 = lset (g 141) i (g 1 0)) (h0 : H 99 0 = 0)
    (cG : Ch [140] [] (entS H (g 10 b) a b (g 51 i) (g 52 i) 0) G2) (g140 : ∀ j : Nat, (j : Int) < g 48 4 → G2 140 j = st j) (hst : ∀ j : Nat, (j : Int) < g 48 4 → 0 ≤ w32 (st j) ∧ w32 (st j) ≤ 30000) : AnsI 0 1 G2 ∧ IB G2 ∧ IE G2 ∧ IW G2 ∧ IC (W + 1) G2 ∧ Qy paS paF g G2 := by
  have w0 := wl.1.1
  have w1 := w.1.1
  have wb1 := wb.1.1
  have we1 := we.1.1
  obtain ⟨a1, a2, a3, a4, a5, a6, a7, a8, a9, a10, a11, a12, a13⟩ := w.1.2.1 i hi
  have rb := wb.1.2.1 b (by omega)
  obtain ⟨co, e51⟩ := Int.eq_ofNat_of_zero_le a3.1
  have rr := hc.2.2.2.2
  have c1 : Ch [14, 55, 56, 39, 45, 46, 47, 15, 16, 17, 18, 19, 20, 21, 22, 23, 179] [] g G := by
    rw [eG]
    unfold recS
    repeat' first | exact cP.sub (by decide) (by decide) | refine Ch.up ?_ (by decide) (by decide)
  have c2s : Ch [14, 55, 56, 39, 45, 46, 47, 15, 16, 17, 18, 19, 20, 21, 22, 23, 179, 110, 141, 130, 131, 132, 133] [0, 50, 54] g H := (c1.sub (by decide) (by decide)).tr (cH.sub (by decide) (by decide))
  have c2 : Ch paS [0, 50, 54] g H := c2s.sub (by decide) (by decide)
  have c3 : Ch paS paF g (entS H (g 10 b) a b (g 51 i) (g 52 i) 0) := by
    unfold entS
    repeat' first | exact c2.sub (by decide) (by decide) | refine Ch.up9 ?_ (by decide) | refine Ch.up ?_ (by decide) (by decide)
  have c4 : Ch paS paF g G2 := c3.tr (cG.sub (by decide) (by decide))
  have k14 : G2 14 = P 14 := by rw [cG.1 14 (by decide) (by decide)]; simp [entS, up_at, cH.1 14 (by decide) (by decide), eG, recS]
  have k56 : G2 56 = P 56 := by rw [cG.1 56 (by decide) (by decide)]; simp [entS, up_at, cH.1 56 (by decide) (by decide), eG, recS]
  have k55 : G2 55 = P 55 := by rw [cG.1 55 (by decide) (by decide)]; simp [entS, up_at, cH.1 55 (by decide) (by decide), eG, recS]
  have k57 : G2 57 = g 57 := by rw [cG.1 57 (by decide) (by decide)]; simp [entS, up_at, cH.1 57 (by decide) (by decide), eG, recS, cP.1 57 (by decide) (by decide)]
  have k142 : G2 142 = g 142 := by rw [cG.1 142 (by decide) (by decide)]; simp [entS, up_at, cH.1 142 (by decide) (by decide), eG, recS, cP.1 142 (by decide) (by decide)]
  have k39 : G2 39 = P 39 := by rw [cG.1 39 (by decide) (by decide)]; simp [entS, up_at, cH.1 39 (by decide) (by decide), eG, recS]
  have k46 : G2 46 = P 46 := by rw [cG.1 46 (by decide) (by decide)]; simp [entS, up_at, cH.1 46 (by decide) (by decide), eG, recS]
  have k110 : G2 110 = H 110 := by rw [cG.1 110 (by decide) (by decide)]; simp [entS, up_at]
  have k141 : G2 141 = H 141 := by rw [cG.1 141 (by decide) (by decide)]; simp [entS, up_at]
  have k179 : G2 179 0 = w32 1 := by rw [cG.1 179 (by decide) (by decide)]; simp [entS, up_at, cH.1 179 (by decide) (by decide), eG, lset]
  have k0 : G2 99 0 = 0 := by rw [cG.2 0 (by decide)]; simp [entS, up_at, lset, h0]
  refine ⟨⟨by omega, k0, fun _ => k179⟩, ?_, ?_, ?_, ?_, c4, fun z => z.fr c4 (by decide)⟩
  · exact coinS (ix := (g 50 i * 4 + g 51 i).toNat) (n := g 52 i) wb c4 (by decide) (by decide) (by omega) (by omega) (by rw [k14, p14]) (by rw [k110, h110])
  · have nb := we.2.2.2.1 a b co (by omega) (by omega) (by omega)
    refine IE.both (P := P) (H := H) (a := a) (b := b) (co := co) (t := g 10 b) (n := g 52 i) (s := 0) wl we hm rb.1 (by omega) (by omega) (by omega) (by omega) (by omega) (by omega) (by omega) (fun j _ z => by rw [c4.1 13 (by decide) (by decide)]; exact z) (fun q hq => cP.1 q (by simp at hq ⊢; omega) (by intro z; subst z; revert hq; decide)) (by rw [cP.1 1 (by decide) (by decide)]) (fun q hq => ?_) (fun q hq => ?_) ?_ ?_ (fun q hq => ?_) ?_
    · rw [cH.1 q (by simp at hq ⊢; omega) (by intro z; subst z; revert hq; decide), eG, up_at, if_neg (by simp at hq; omega), e51]
    · exact c2s.1 q (by simp at hq ⊢; omega) (by intro z; subst z; revert hq; decide)
    · exact c2.2 16 (by decide)
    · exact c2.2 1 (by decide)
    · rw [cG.1 q (by simp at hq ⊢; omega) (by intro z; subst z; revert hq; decide), e51]
    · rw [cG.2 16 (by decide)]; simp [entS, up_at, lset]
  · refine w.upd (fun q hq => c4.1 q (by unfold paS; simp at hq ⊢; omega) (by intro z; subst z; revert hq; decide)) (c4.2 55 (by decide)) (fun j hj => ?_) (fun j hj => ?_) (fun j hj => ?_) (fun j h1 h2 => ?_) (fun j hj => ?_) (fun j h1 h2 => ?_)
    · rw [g140 j hj, k55, p55 j hj]
      exact ⟨rfl, hst j hj⟩
    · rw [k141, h141, k56, p56]
      have b8 := (w.1.2.1 j hj).2.2.2.2.2.2.2.1
      have q8 := (w.2.2 j hj).2.2.2.2.2.2.2.1
      unfold lset
      split
      · exact ⟨rfl, by omega⟩
      · exact ⟨q8, b8⟩
    · rw [k142, k57]
      exact (w.2.2 j hj).2.2.2.2.2.2.2.2.1
    · rw [k57]
      exact (w.1.2.2 j h1 h2).1
    · rw [c4.1 146 (by decide) (by decide), c4.1 61 (by decide) (by decide)]
      exact ⟨(w.2.2 j hj).2.2.2.2.2.2.2.2.2.2.2.2, (w.1.2.1 j hj).2.2.2.2.2.2.2.2.2.2.2.1⟩
    · rw [c4.1 61 (by decide) (by decide)]
      exact (w.1.2.2 j h1 h2).2.2.2
  · exact (wi.wk (by omega)).walk c4 (by decide) (by decide) (by rw [k39]; exact p39) (by rw [k39]; exact wk.1) (by rw [k39, k46]; exact wk.2)
theorem paRef {g G : mz_S} {nt : Nat} (wl : IL g) (wb : IB g) (we : IE g) (w : IW g) (e36 : g 99 36 = (nt : Int)) (c : Ch [14, 55, 56, 57, 58, 60, 61, 39, 45, 46, 47, 15, 16, 17, 18, 19, 20, 21, 22, 23, 8, 48, 49, 50, 51, 52, 53, 54, 59, 179] [] g G) : ReL g G ∧ ReB g G ∧ ReE g G ∧ ReW g G ∧ G 99 36 = (nt : Int) ∧ ∀ q ∈ [120, 121, 122, 123, 124, 125, 126, 127, 128, 129], G q = g q :=
  ⟨wl.2.2.1.fr c (by decide) (by decide), wb.2.1.fr c (by decide) (by decide), we.2.2.1.fr c (by decide) (by decide), w.2.fr c (by decide) (by decide), by rw [c.2 36 (by decide)]; exact e36, fun q hq => c.1 q (by simp at hq ⊢; omega) (by intro z; subst z; revert hq; decide)⟩
theorem C_pay {T : Nat × (Nat → Int32)} {d : Nat} {X X' : mz_X} {g : mz_S} {W x s : Int} (wl : IL g) (wb : IB g) (we : IE g) (w : IW g) (wi : IC W g) (hW : W < 2147483647) (hx : R32 x) (hs : R32 s) : zC T (d + 11) 363 [mx_R 0, mx_I x, mx_I s, mx_R 179] g (fun kk g1 => zC T (d + 11) 280 [mx_R 99, mx_I x, mx_I s] g1 (fun r g2 => AnsI kk r g2 ∧ IB g2 ∧ IE g2 ∧ IW g2 ∧ IC (W + 1) g2 ∧ Qy paS paF g g2) X') X := by
  obtain ⟨nt, al, tw, e36, wk1, wk2⟩ := wi.txw
  have wk : WkS W g := ⟨wk1, wk2⟩
  have w0 := wl.1.1
  have w1 := w.1.1
  have wb1 := wb.1.1
  have we1 := we.1.1
  have bad : ∀ n : Int, 1 ≤ n ∧ n ≤ 3 → AnsI n 0 (mx_up (mx_up g 99 0 0) 99 0 n) ∧ IB (mx_up (mx_up g 99 0 0) 99 0 n) ∧ IE (mx_up (mx_up g 99 0 0) 99 0 n) ∧ IW (mx_up (mx_up g 99 0 0) 99 0 n) ∧ IC (W + 1) (mx_up (mx_up g 99 0 0) 99 0 n) ∧ Qy paS paF g (mx_up (mx_up g 99 0 0) 99 0 n) := fun n hn =>
    ⟨⟨by omega, up_s, fun z => by omega⟩, wb.fr (ch_bad g n) (by decide) (by decide), we.fr (ch_bad g n) (by decide) (by decide), w.fr (ch_bad g n) (by decide) (by decide), (wi.wk (by omega)).fr (ch_bad g n) (by decide) (by decide), (ch_bad g n).sub (by decide) (by decide), fun z => z.fr (ch_bad g n) (by decide)⟩
  obtain ⟨R1, R2, R3, R4, R5, R6⟩ := paRef (nt := nt) wl wb we w e36 (Ch.rf g)
  refine wL_pay (zX11_pay (sX11_isWord hx w1 ⟨by decide, by decide, sX11_needFound (fun h1 => ?_) (fun h1 => Or.inl ⟨rfl, ?_⟩)⟩))
  rotate_left
  · exact sX12_pay (c := g) (d := d + 4) wl.1 wb.1 w.1 we1 R1 R2 R3.1 R4 tw R5 R6 hx hs (fun _ => bad 1 (by omega)) (fun j ej hj => absurd (by omega) h1) (fun j ej hj => absurd (by omega) h1) (fun j _ _ ej hj => absurd (by omega) h1) (fun j _ _ _ ej hj => absurd (by omega) h1) (fun j _ _ _ ej hj => absurd (by omega) h1)
  obtain ⟨i, rfl⟩ := Int.eq_ofNat_of_zero_le h1.1
  have hi : (i : Int) < g 48 4 := by omega
  have no : ¬ (cpP g i ∧ g 15 2 + 1 ≤ 400) → zC T (d + 11) 280 [mx_R 99, mx_I (i : Int), mx_I s] g (fun r g2 => AnsI 2 r g2 ∧ IB g2 ∧ IE g2 ∧ IW g2 ∧ IC (W + 1) g2 ∧ Qy paS paF g g2) X' := by
    intro h2
    have J : ∀ j : Nat, (i : Int) = (j : Int) → j = i := fun j ej => by omega
    exact sX12_pay (c := g) (d := d + 4) wl.1 wb.1 w.1 we1 R1 R2 R3.1 R4 tw R5 R6 hx hs (fun z => absurd h1 z) (fun j ej hj _ => bad 2 (by omega)) (fun j ej hj z => absurd (J j ej ▸ z) h2) (fun j _ _ ej hj z => absurd (J j ej ▸ z) h2) (fun j _ _ _ ej hj z => absurd (J j ej ▸ z) h2) (fun j _ _ _ ej hj z => absurd (J j ej ▸ z) h2)
  refine sX10_canPay (d := d + 7) wl.1 wb.1 w.1 hi ?_
  first | with_reducible refine b_eq (fun h2 => ?_) (fun h2 => ?_) | with_reducible refine b_ne (fun h2 => ?_) (fun h2 => ?_)
  · exact zX11_pay_34 (zX11_pay_35 ⟨by decide, by decide, nS_f (Or.inr ⟨rfl, no (fun z => h2 z.1)⟩)⟩)
  refine sX6_hasRoom (by omega) (by omega) ?_
  first | with_reducible refine b_eq (fun h3 => ?_) (fun h3 => ?_) | with_reducible refine b_ne (fun h3 => ?_) (fun h3 => ?_)
  · exact zX11_pay_34 (zX11_pay_35 ⟨by decide, by decide, nS_f (Or.inr ⟨rfl, no (fun z => h3 z.2)⟩)⟩)
  have cd : cpP g i ∧ g 15 2 + 1 ≤ 400 := ⟨h2, h3⟩
  obtain ⟨a1, a2, a3, a4, a5, a6, a7, a8, a9, a10, a11, a12, a13⟩ := w.1.2.1 i hi
  obtain ⟨a, e49⟩ := Int.eq_ofNat_of_zero_le a1.1
  obtain ⟨b, e50⟩ := Int.eq_ofNat_of_zero_le a2.1
  have J : ∀ j : Nat, (i : Int) = (j : Int) → j = i := fun j ej => by omega
  have JA : ∀ j : Nat, g 49 i = (j : Int) → j = a := fun j ej => by omega
  have JB : ∀ j : Nat, g 50 i = (j : Int) → j = b := fun j ej => by omega
  refine zX11_pay_35 ⟨by decide, by decide, nS_t (sX10_hearSecret (d := d + 8) w.1 (by omega) hi hs (fun h4 v hv => ?_) (fun h4 => ?_))⟩
  · obtain ⟨G, eG⟩ : ∃ G, G = mx_up (mx_up (mx_up g 57 i (g 57 i + 1)) 55 i v) 179 0 (w32 0) := ⟨_, rfl⟩
    rw [← eG]
    have c1 : Ch [57, 55, 179] [] g G := by rw [eG]; exact (((Ch.rf g).up (by decide) (by decide)).up (by decide) (by decide)).up (by decide) (by decide)
    obtain ⟨R1, R2, R3, R4, R5, R6⟩ := paRef (nt := nt) wl wb we w e36 (c1.sub (by decide) (by decide))
    refine sX12_pay (c := g) (d := d + 4) wl.1 wb.1 w.1 we1 R1 R2 R3.1 R4 tw R5 R6 hx hs (fun z => absurd h1 z) (fun j ej hj z => absurd cd (J j ej ▸ z)) (fun j ej hj _ z v' hv' => ?_) (fun j _ _ ej hj _ z => absurd (J j ej ▸ z) h4) (fun j _ _ _ ej hj _ z => absurd (J j ej ▸ z) h4) (fun j _ _ _ ej hj _ z => absurd (J j ej ▸ z) h4)
    obtain rfl := J j ej
    rw [← hv] at hv'
    subst hv'
    obtain ⟨G2, eG2⟩ : ∃ G2, G2 = mx_up (mx_up (mx_up G 99 0 0) 142 j (g 57 j + 1)) 140 j v' := ⟨_, rfl⟩
    rw [← eG2]
    have c2 : Ch [57, 55, 179, 142, 140] [0] g G2 := by rw [eG2]; exact (((c1.sub (by decide) (by decide)).up9 (by decide)).up (by decide) (by decide)).up (by decide) (by decide)
    have c4 : Ch paS paF g G2 := c2.sub (by decide) (by decide)
    have k55 : G2 55 = lset (g 55) j v' := by rw [eG2, eG]; simp [up_at]
    have k57 : G2 57 = lset (g 57) j (g 57 j + 1) := by rw [eG2, eG]; simp [up_at]
    have k140 : G2 140 = lset (g 140) j v' := by rw [eG2, eG]; simp [up_at]
    have k142 : G2 142 = lset (g 142) j (g 57 j + 1) := by rw [eG2, eG]; simp [up_at]
    have hv2 : 0 ≤ w32 v' ∧ w32 v' ≤ 30000 := by
      rw [hv]
      split
      · rw [w32_of (by omega) (by omega)]; omega
      · exact a7
    refine ⟨⟨by omega, by rw [eG2]; simp [up_at, lset], fun _ => by rw [eG2, eG]; simp [up_at, lset]⟩, wb.fr c2 (by decide) (by decide), we.fr c2 (by decide) (by decide), ?_, (wi.wk (by omega)).fr c2 (by decide) (by decide), c4, fun z => z.fr c4 (by decide)⟩
    refine w.upd (fun q hq => c2.1 q (by simp at hq ⊢; omega) (by intro z; subst z; revert hq; decide)) (c2.2 55 (by decide)) (fun y hy => ?_) (fun y hy => ?_) (fun y hy => ?_) (fun y z1 z2 => ?_) (fun y hy => ?_) (fun y z1 z2 => ?_)
    · have q1 := (w.2.2 y hy).2.2.2.2.2.2.1
      have q2 := (w.1.2.1 y hy).2.2.2.2.2.2.1
      rw [k55, k140]
      unfold lset
      split
      · exact ⟨rfl, hv2⟩
      · exact ⟨q1, q2⟩
    · rw [c2.1 141 (by decide) (by decide), c2.1 56 (by decide) (by decide)]
      exact ⟨(w.2.2 y hy).2.2.2.2.2.2.2.1, (w.1.2.1 y hy).2.2.2.2.2.2.2.1⟩
    · have q1 := (w.2.2 y hy).2.2.2.2.2.2.2.2.1
      rw [k57, k142]
      unfold lset
      split
      · rfl
      · exact q1
    · rw [k57]
      unfold lset
      rw [if_neg (by omega)]
      exact (w.1.2.2 y z1 z2).1
    · rw [c2.1 146 (by decide) (by decide), c2.1 61 (by decide) (by decide)]
      exact ⟨(w.2.2 y hy).2.2.2.2.2.2.2.2.2.2.2.2, (w.1.2.1 y hy).2.2.2.2.2.2.2.2.2.2.2.1⟩
    · rw [c2.1 61 (by decide) (by decide)]
      exact (w.1.2.2 y z1 z2).2.2.2
  · have cP := payP_ch g i
    have y14 : payP g i 14 = lset (g 14) (g 50 i * 4 + g 51 i).toNat (g 14 (g 50 i * 4 + g 51 i).toNat - g 52 i) := by unfold payP; simp [up_at]
    have y56 : payP g i 56 = lset (g 56) i (g 1 0) := by unfold payP; simp [up_at]
    have y55 : payP g i 55 = g 55 := by unfold payP; simp [up_at]
    have base : ∀ P : mz_S, Ch [55, 39, 45, 46, 47] [] (payP g i) P → Ch [14, 55, 56, 39, 45, 46, 47] [] g P := fun P c => (cP.sub (by decide) (by decide)).tr (c.sub (by decide) (by decide))
    have clG : ∀ P : mz_S, Ch [55, 39, 45, 46, 47] [] (payP g i) P → ∀ r : Int, Ch [14, 55, 56, 57, 58, 60, 61, 39, 45, 46, 47, 15, 16, 17, 18, 19, 20, 21, 22, 23, 8, 48, 49, 50, 51, 52, 53, 54, 59, 179] [] g (mx_up (recS P (g 10 b) a b (g 51 i) (g 52 i) 0) 179 0 r) := by
      intro P c r
      unfold recS
      repeat' first | exact (base P c).sub (by decide) (by decide) | refine Ch.up ?_ (by decide) (by decide)
    have q55 : ∀ j : Nat, (j : Int) < g 48 4 → 0 ≤ w32 (g 55 j) ∧ w32 (g 55 j) ≤ 30000 := fun j hj => (w.1.2.1 j hj).2.2.2.2.2.2.1
    have q140 : ∀ j : Nat, (j : Int) < g 48 4 → g 140 j = g 55 j := fun j hj => (w.2.2 j hj).2.2.2.2.2.2.1
    have hR : ∀ G : mz_S, G 110 = g 110 → G 141 = g 141 → payR g (mx_up G 99 0 0) i 110 = lset (g 110) (g 50 i * 4 + g 51 i).toNat (g 110 (g 50 i * 4 + g 51 i).toNat - g 52 i) ∧ payR g (mx_up G 99 0 0) i 141 = lset (g 141) i (g 1 0) ∧ payR g (mx_up G 99 0 0) i 99 0 = 0 ∧ Ch [110, 141] [0] G (payR g (mx_up G 99 0 0) i) := by
      intro G h1 h2
      refine ⟨?_, ?_, ?_, ?_⟩
      · unfold payR; simp [up_at, h1]
      · unfold payR; simp [up_at, h2]
      · unfold payR; simp [up_at, lset]
      · exact (((Ch.rf G).up9 (by decide)).up (by decide) (by decide)).up (by decide) (by decide)
    refine sX10_payOut (d := d) wl.1 wb.1 w.1 (by omega) tw wk hW hi e49 e50 h2 (fun ho => ?_) (fun o eo ho oi hp => ?_) (fun o eo ho oi hp P cPP sP kP => ?_)
    · obtain ⟨G, eG⟩ : ∃ G, G = mx_up (recS (payP g i) (g 10 b) a b (g 51 i) (g 52 i) 0) 179 0 (w32 1) := ⟨_, rfl⟩
      have cG := clG (payP g i) (Ch.rf _) (w32 1)
      rw [← eG] at cG ⊢
      obtain ⟨R1, R2, R3, R4, R5, R6⟩ := paRef (nt := nt) wl wb we w e36 cG
      refine sX12_pay (c := g) (d := d + 4) wl.1 wb.1 w.1 we1 R1 R2 R3.1 R4 tw R5 R6 hx hs (fun z => absurd h1 z) (fun j ej hj z => absurd cd (J j ej ▸ z)) (fun j ej hj _ z => absurd h4 (J j ej ▸ z)) (fun j a' b' ej hj _ _ ea eb _ => ?_) (fun j _ _ o ej hj _ _ _ _ z => by rw [J j ej, ho] at z; omega) (fun j _ _ o ej hj _ _ _ _ z => by rw [J j ej, ho] at z; omega)
      obtain rfl := J j ej
      obtain rfl := JA a' ea
      obtain rfl := JB b' eb
      obtain ⟨h110, h141, h0, cH⟩ := hR G (cG.1 110 (by decide) (by decide)) (cG.1 141 (by decide) (by decide))
      exact payFin (P := payP g j) (G := G) (H := payR g (mx_up G 99 0 0) j) (st := g 55) wl wb we w wi hi e49 e50 h2 (by omega) (base _ (Ch.rf _)) y14 y56 (fun y hy => by rw [y55]) ((wk.wk (by omega)).fr cP (by decide)) (by rw [cP.1 39 (by decide) (by decide)]) eG (cH.sub (by decide) (by decide)) h110 h141 h0 (Ch.rf _) (fun y hy => by rw [show (entS (payR g (mx_up G 99 0 0) j) (g 10 b') a' b' (g 51 j) (g 52 j) 0) 140 = G 140 by simp [entS, up_at, cH.1 140 (by decide) (by decide)], cG.1 140 (by decide) (by decide)]; exact q140 y hy) q55
    · obtain ⟨P, eP⟩ : ∃ P, P = mx_up (payP g i) 55 o (stV g o b (g 1 0)) := ⟨_, rfl⟩
      have cPP : Ch [55, 39, 45, 46, 47] [] (payP g i) P := by rw [eP]; exact (Ch.rf _).up (by decide) (by decide)
      rw [← eP]
      obtain ⟨G, eG⟩ : ∃ G, G = mx_up (recS P (g 10 b) a b (g 51 i) (g 52 i) 0) 179 0 (w32 1) := ⟨_, rfl⟩
      have cG := clG P cPP (w32 1)
      rw [← eG] at cG ⊢
      obtain ⟨R1, R2, R3, R4, R5, R6⟩ := paRef (nt := nt) wl wb we w e36 cG
      refine sX12_pay (c := g) (d := d + 4) wl.1 wb.1 w.1 we1 R1 R2 R3.1 R4 tw R5 R6 hx hs (fun z => absurd h1 z) (fun j ej hj z => absurd cd (J j ej ▸ z)) (fun j ej hj _ z => absurd h4 (J j ej ▸ z)) (fun j _ _ ej hj _ _ _ _ z => by rw [J j ej, eo] at z; omega) (fun j a' b' o' ej hj _ _ ea eb z _ _ _ => ?_) (fun j _ _ o' ej hj _ _ _ _ z _ _ z2 => by rw [J j ej, eo] at z; rw [show o' = o by omega] at z2; exact absurd hp z2)
      obtain rfl := J j ej
      obtain rfl := JA a' ea
      obtain rfl := JB b' eb
      obtain rfl : o' = o := by omega
      obtain ⟨h110, h141, h0, cH⟩ := hR G (cG.1 110 (by decide) (by decide)) (cG.1 141 (by decide) (by decide))
      have cP3 : Ch [14, 56, 55] [] g P := by rw [eP]; exact (cP.sub (by decide) (by decide)).up (by decide) (by decide)
      have e140 : (entS (payR g (mx_up G 99 0 0) j) (g 10 b') a' b' (g 51 j) (g 52 j) 0) 140 = g 140 := by
        rw [← cG.1 140 (by decide) (by decide), ← cH.1 140 (by decide) (by decide)]
        simp [entS, up_at]
      refine payFin (P := P) (G := G) (H := payR g (mx_up G 99 0 0) j) (st := lset (g 55) o' (stV g o' b' (g 1 0))) wl wb we w wi hi e49 e50 h2 (by omega) (base _ cPP) (by rw [eP]; simp [up_at, y14]) (by rw [eP]; simp [up_at, y56]) (fun y hy => by rw [eP]; simp [up_at, y55]) ((wk.wk (by omega)).fr cP3 (by decide)) (by rw [cP3.1 39 (by decide) (by decide)]) eG (cH.sub (by decide) (by decide)) h110 h141 h0 ((Ch.rf _).up (by decide) (by decide)) (fun y hy => ?_) (fun y hy => ?_)
      · rw [up_at, if_pos rfl, e140]
        have := q140 y hy
        unfold lset
        split
        · rfl
        · exact this
      · have z1 := stV_rng (b := b') wl.1 wb.1 w.1 ho (by omega) w0
        have z2 := q55 y hy
        unfold lset
        split
        · exact z1
        · exact z2
    · have cPP' : Ch [55, 39, 45, 46, 47] [] (payP g i) P := cPP.sub (by decide) (by decide)
      have cgP := base P cPP'
      have v14 : P 14 = payP g i 14 := cPP.1 14 (by decide) (by decide)
      have v56 : P 56 = payP g i 56 := cPP.1 56 (by decide) (by decide)
      have v55 : P 55 = payP g i 55 := cPP.1 55 (by decide) (by decide)
      refine ⟨fun hk => ?_, fun hk => ?_⟩
      · obtain ⟨G, eG⟩ : ∃ G, G = mx_up P 179 0 (w32 2) := ⟨_, rfl⟩
        rw [← eG]
        have cG0 : Ch [14, 55, 56, 39, 45, 46, 47, 179] [] g G := by rw [eG]; exact (cgP.sub (by decide) (by decide)).up (by decide) (by decide)
        obtain ⟨R1, R2, R3, R4, R5, R6⟩ := paRef (nt := nt) wl wb we w e36 (cG0.sub (by decide) (by decide))
        refine sX12_pay (c := g) (d := d + 4) wl.1 wb.1 w.1 we1 R1 R2 R3.1 R4 tw R5 R6 hx hs (fun z => absurd h1 z) (fun j ej hj z => absurd cd (J j ej ▸ z)) (fun j ej hj _ z => absurd h4 (J j ej ▸ z)) (fun j _ _ ej hj _ _ _ _ z => by rw [J j ej, eo] at z; omega) (fun j _ _ o' ej hj _ _ _ _ z _ _ z2 => by rw [J j ej, eo] at z; rw [show o' = o by omega] at z2; exact absurd z2 hp) (fun j a' b' o' ej hj _ _ ea eb z _ _ _ H cH => ⟨fun _ => ?_, fun hk2 => ?_⟩)
        · obtain rfl := J j ej
          obtain rfl := JA a' ea
          obtain rfl := JB b' eb
          obtain ⟨h110, h141, h0, cHr⟩ := hR G (cG0.1 110 (by decide) (by decide)) (cG0.1 141 (by decide) (by decide))
          have c4 : Ch [14, 55, 56, 39, 45, 46, 47, 179, 110, 141, 130, 131, 132, 133] [0, 50, 54] g H := ((cG0.sub (by decide) (by decide)).tr (cHr.sub (by decide) (by decide))).tr (cH.sub (by decide) (by decide))
          have k14 : H 14 = P 14 := by rw [cH.1 14 (by decide) (by decide), cHr.1 14 (by decide) (by decide), eG]; simp [up_at]
          have k55 : H 55 = P 55 := by rw [cH.1 55 (by decide) (by decide), cHr.1 55 (by decide) (by decide), eG]; simp [up_at]
          have k56 : H 56 = P 56 := by rw [cH.1 56 (by decide) (by decide), cHr.1 56 (by decide) (by decide), eG]; simp [up_at]
          have k39 : H 39 = P 39 := by rw [cH.1 39 (by decide) (by decide), cHr.1 39 (by decide) (by decide), eG]; simp [up_at]
          have k46 : H 46 = P 46 := by rw [cH.1 46 (by decide) (by decide), cHr.1 46 (by decide) (by decide), eG]; simp [up_at]
          have k179 : H 179 0 = w32 2 := by rw [cH.1 179 (by decide) (by decide), cHr.1 179 (by decide) (by decide), eG]; simp [up_at, lset]
          have k0 : H 99 0 = 0 := by rw [cH.2 0 (by decide)]; exact h0
          have k110 : H 110 = lset (g 110) (g 50 j * 4 + g 51 j).toNat (g 110 (g 50 j * 4 + g 51 j).toNat - g 52 j) := by rw [cH.1 110 (by decide) (by decide)]; exact h110
          have k141 : H 141 = lset (g 141) j (g 1 0) := by rw [cH.1 141 (by decide) (by decide)]; exact h141
          have rr := h2.2.2.2.2
          refine ⟨⟨by omega, k0, fun _ => k179⟩, ?_, we.fr c4 (by decide) (by decide), ?_, ?_, c4.sub (by decide) (by decide), fun z => z.fr c4 (by decide)⟩
          · exact coinS (ix := (g 50 j * 4 + g 51 j).toNat) (n := g 52 j) wb c4 (by decide) (by decide) (by omega) (by omega) (by rw [k14, v14, y14]) k110
          · refine w.upd (fun q hq => c4.1 q (by simp at hq ⊢; omega) (by intro z; subst z; revert hq; decide)) (c4.2 55 (by decide)) (fun y hy => ?_) (fun y hy => ?_) (fun y hy => ?_) (fun y h1 h2 => ?_) (fun y hy => ?_) (fun y h1 h2 => ?_)
            · rw [c4.1 140 (by decide) (by decide), k55, v55, y55]
              exact ⟨q140 y hy, q55 y hy⟩
            · rw [k141, k56, v56, y56]
              have b8 := (w.1.2.1 y hy).2.2.2.2.2.2.2.1
              have q8 := (w.2.2 y hy).2.2.2.2.2.2.2.1
              unfold lset
              split
              · exact ⟨rfl, by omega⟩
              · exact ⟨q8, b8⟩
            · rw [c4.1 142 (by decide) (by decide), c4.1 57 (by decide) (by decide)]
              exact (w.2.2 y hy).2.2.2.2.2.2.2.2.1
            · rw [c4.1 57 (by decide) (by decide)]
              exact (w.1.2.2 y h1 h2).1
            · rw [c4.1 146 (by decide) (by decide), c4.1 61 (by decide) (by decide)]
              exact ⟨(w.2.2 y hy).2.2.2.2.2.2.2.2.2.2.2.2, (w.1.2.1 y hy).2.2.2.2.2.2.2.2.2.2.2.1⟩
            · rw [c4.1 61 (by decide) (by decide)]
              exact (w.1.2.2 y h1 h2).2.2.2
          · exact (wi.wk (by omega)).walk c4 (by decide) (by decide) (by rw [k39]; exact sP.2) (by rw [k39]; exact kP.1) (by rw [k39, k46]; exact kP.2)
        · obtain rfl := J j ej
          rw [JA a' ea, JB b' eb] at hk2
          omega
      · obtain ⟨G, eG⟩ : ∃ G, G = mx_up (recS P (g 10 b) a b (g 51 i) (g 52 i) 0) 179 0 (w32 1) := ⟨_, rfl⟩
        have cG := clG P cPP' (w32 1)
        rw [← eG] at cG ⊢
        obtain ⟨R1, R2, R3, R4, R5, R6⟩ := paRef (nt := nt) wl wb we w e36 cG
        refine sX12_pay (c := g) (d := d + 4) wl.1 wb.1 w.1 we1 R1 R2 R3.1 R4 tw R5 R6 hx hs (fun z => absurd h1 z) (fun j ej hj z => absurd cd (J j ej ▸ z)) (fun j ej hj _ z => absurd h4 (J j ej ▸ z)) (fun j _ _ ej hj _ _ _ _ z => by rw [J j ej, eo] at z; omega) (fun j _ _ o' ej hj _ _ _ _ z _ _ z2 => by rw [J j ej, eo] at z; rw [show o' = o by omega] at z2; exact absurd z2 hp) (fun j a' b' o' ej hj _ _ ea eb z _ _ _ H cH => ⟨fun hk2 => ?_, fun _ => ?_⟩)
        · obtain rfl := J j ej
          rw [JA a' ea, JB b' eb] at hk2
          omega
        · obtain rfl := J j ej
          obtain rfl := JA a' ea
          obtain rfl := JB b' eb
          obtain ⟨h110, h141, h0, cHr⟩ := hR G (cG.1 110 (by decide) (by decide)) (cG.1 141 (by decide) (by decide))
          have e140 : (entS H (g 10 b') a' b' (g 51 j) (g 52 j) 0) 140 = g 140 := by
            rw [← cG.1 140 (by decide) (by decide), ← cHr.1 140 (by decide) (by decide), ← cH.1 140 (by decide) (by decide)]
            simp [entS, up_at]
          exact payFin (P := P) (G := G) (H := H) (st := g 55) wl wb we w wi hi e49 e50 h2 (by omega) cgP (by rw [v14, y14]) (by rw [v56, y56]) (fun y hy => by rw [v55, y55]) kP sP.2 eG ((cHr.sub (by decide) (by decide)).tr (cH.sub (by decide) (by decide))) (by rw [cH.1 110 (by decide) (by decide)]; exact h110) (by rw [cH.1 141 (by decide) (by decide)]; exact h141) (by rw [cH.2 0 (by decide)]; exact h0) (Ch.rf _) (fun y hy => by rw [e140]; exact q140 y hy) q55
