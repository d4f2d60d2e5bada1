/-! pay: the entry on both sides, where other things went on between -/
theorem IE.both {g P H G2 : mz_S} {a b co : Nat} {t n s : Int} (wl : IL g) (w : IE g) (hm : g 15 2 < 400) (ht : 0 ≤ t ∧ t < 8) (ha : a < 12) (hb : b < 12) (hab : a ≠ b) (hc : co < 4) (hn : -2000000000 ≤ n ∧ n ≤ 2000000000) (hbd : -(nbB g a b co + 100000) ≤ netC g a b co + n ∧ netC g a b co + n ≤ nbB g a b co + 100000) (hs : 0 ≤ s ∧ s ≤ 5 ∧ ¬ s = 2) (e13 : ∀ i : Nat, i < 12 → ¬ g 13 i = -1 → ¬ G2 13 i = -1)
    (eP : ∀ q ∈ [15, 16, 17, 18, 19, 20, 21, 22, 23, 24, 25], P q = g q) (eP0 : P 1 0 = g 1 0) (eH : ∀ q ∈ [15, 16, 17, 18, 19, 20, 21, 22, 23, 24, 25], H q = (recS P t a b co n s) q) (eR : ∀ q ∈ [111, 112, 113, 114, 115, 116, 117, 118, 147], H q = g q) (eH16 : H 99 16 = g 99 16) (eH1 : H 99 1 = g 99 1)
    (eG : ∀ q ∈ [15, 16, 17, 18, 19, 20, 21, 22, 23, 24, 25, 111, 112, 113, 114, 115, 116, 117, 118, 147], G2 q = (entS H t a b co n s) q) (eG16 : G2 99 16 = H 99 16 + 1) : IE G2 := by
  have hw2 := w.1.1
  obtain ⟨m, em⟩ := Int.eq_ofNat_of_zero_le hw2.1
  have x3 : (((a : Int) * 12 + b) * 4 + co).toNat = (a * 12 + b) * 4 + co := by omega
  have x4 : (((b : Int) * 12 + a) * 4 + co).toNat = (b * 12 + a) * 4 + co := by omega
  have hab' : ¬ (a : Int) = b := by omega
  have r16 : g 99 16 = m := by rw [w.2.2.1.1, em]
  have r1 : g 99 1 = g 1 0 := wl.2.2.1.1
  have q15 : G2 15 2 = m + 1 := by
    rw [eG 15 (by decide)]
    simp [entS, up_at, eH 15 (by decide), recS, eP 15 (by decide), lset, em]
  have mo := nbB_mono (g := g) (g2 := G2) (m := m) e13 em q15 (x := a) (y := b) (by omega) (by omega) co
  have ps := nbB_pos (g := g) (by omega) a b co
  refine w.rec (m := m) (a := a) (b := b) (co := co) (t := t) (n := n) (s := s) (hd := 0) (now := g 1 0) em (by omega) wl.1.1 ht (by omega) (by omega) (by omega) (by omega) (by omega) (by omega) e13 q15 ?_ ?_ ?_ ?_ ?_ ?_ ?_ ?_ ?_ ?_ (by rw [eG16, eH16, r16]) ?_ ?_ ?_ ?_ ?_ ?_ ?_ ?_ ?_ (by omega)
  · rw [eG 16 (by decide)]; simp [entS, up_at, eH 16 (by decide), recS, eP 15 (by decide), eP 16 (by decide), eP0, em]
  · rw [eG 17 (by decide)]; simp [entS, up_at, eH 17 (by decide), recS, eP 15 (by decide), eP 17 (by decide), em]
  · rw [eG 18 (by decide)]; simp [entS, up_at, eH 18 (by decide), recS, eP 15 (by decide), eP 18 (by decide), em]
  · rw [eG 19 (by decide)]; simp [entS, up_at, eH 19 (by decide), recS, eP 15 (by decide), eP 19 (by decide), em]
  · rw [eG 20 (by decide)]; simp [entS, up_at, eH 20 (by decide), recS, eP 15 (by decide), eP 20 (by decide), em]
  · rw [eG 21 (by decide)]; simp [entS, up_at, eH 21 (by decide), recS, eP 15 (by decide), eP 21 (by decide), em]
  · rw [eG 22 (by decide)]; simp [entS, up_at, eH 22 (by decide), recS, eP 15 (by decide), eP 22 (by decide), em]
  · rw [eG 23 (by decide)]; simp [entS, up_at, eH 23 (by decide), recS, eP 15 (by decide), eP 23 (by decide), em, x3, x4, hab', netC]
  · rw [eG 24 (by decide)]; simp [entS, up_at, eH 24 (by decide), recS, eP 24 (by decide)]
  · rw [eG 25 (by decide), if_neg hs.2.2]; simp [entS, up_at, eH 25 (by decide), recS, eP 25 (by decide)]
  · rw [eG 111 (by decide)]; simp [entS, up_at, eH16, eH1, r16, r1, eR 111 (by decide)]
  · rw [eG 112 (by decide)]; simp [entS, up_at, eH16, r16, eR 112 (by decide)]
  · rw [eG 113 (by decide)]; simp [entS, up_at, eH16, r16, eR 113 (by decide)]
  · rw [eG 114 (by decide)]; simp [entS, up_at, eH16, r16, eR 114 (by decide)]
  · rw [eG 115 (by decide)]; simp [entS, up_at, eH16, r16, eR 115 (by decide)]
  · rw [eG 116 (by decide)]; simp [entS, up_at, eH16, r16, eR 116 (by decide)]
  · rw [eG 117 (by decide)]; simp [entS, up_at, eH16, r16, eR 117 (by decide)]
  · rw [eG 118 (by decide)]; simp [entS, up_at, eH16, r16, eR 118 (by decide)]
  · rw [eG 147 (by decide)]; simp [entS, up_at, eR 147 (by decide)]
/-- some words have changed -/
theorem IW.upd {g g2 : mz_S} (w : IW g) (e : ∀ q ∈ [9, 48, 49, 50, 51, 52, 53, 54, 58, 59, 60, 134, 135, 136, 137, 138, 139, 143, 144, 145], g2 q = g q) (h99 : g2 99 55 = g 99 55) (e55 : ∀ j : Nat, (j : Int) < g 48 4 → g2 140 j = g2 55 j ∧ 0 ≤ w32 (g2 55 j) ∧ w32 (g2 55 j) ≤ 30000) (e56 : ∀ j : Nat, (j : Int) < g 48 4 → g2 141 j = g2 56 j ∧ -1 ≤ g2 56 j ∧ g2 56 j ≤ 999) (e57 : ∀ j : Nat, (j : Int) < g 48 4 → g2 142 j = g2 57 j) (f57 : ∀ j : Nat, j < 100 → g 48 4 ≤ j → g2 57 j = 0) (e61 : ∀ j : Nat, (j : Int) < g 48 4 → g2 146 j = g2 61 j ∧ (g2 61 j = 0 ∨ g2 61 j = 1)) (f61 : ∀ j : Nat, j < 100 → g 48 4 ≤ j → g2 61 j = 0) : IW g2 := by
  unfold IW WfW ReW WdI WdR at w ⊢
  rw [e 9 (by decide), e 48 (by decide), e 49 (by decide), e 50 (by decide), e 51 (by decide), e 52 (by decide), e 53 (by decide), e 54 (by decide), e 58 (by decide), e 59 (by decide), e 60 (by decide), e 134 (by decide), e 135 (by decide), e 136 (by decide), e 137 (by decide), e 138 (by decide), e 139 (by decide), e 143 (by decide), e 144 (by decide), e 145 (by decide), h99]
  obtain ⟨⟨w1, w2, w3⟩, w4, w5⟩ := w
  refine ⟨⟨w1, fun i hi => ?_, fun i hi hi2 => ?_⟩, w4, fun i hi => ?_⟩
  · obtain ⟨a1, a2, a3, a4, a5, a6, a7, a8, a9, a10, a11, a12, a13⟩ := w2 i hi
    exact ⟨a1, a2, a3, a4, a5, a6, (e55 i hi).2, (e56 i hi).2, a9, a10, a11, (e61 i hi).2, a13⟩
  · obtain ⟨b1, b2, b3, b4⟩ := w3 i hi hi2
    exact ⟨f57 i hi hi2, b2, b3, f61 i hi hi2⟩
  · obtain ⟨r1, r2, r3, r4, r5, r6, r7, r8, r9, r10, r11, r12, r13⟩ := w5 i hi
    exact ⟨r1, r2, r3, r4, r5, r6, (e55 i hi).1, (e56 i hi).1, e57 i hi, r10, r11, r12, (e61 i hi).1⟩
theorem stV_rng {g : mz_S} {i b : Nat} {dy : Int} (wl : WfL0 g) (wb : WfB g) (w : WfW g) (hi : (i : Int) < g 48 4) (hb : b < 12) (hd : 0 ≤ dy ∧ dy ≤ 999) : 0 ≤ w32 (stV g i b dy) ∧ w32 (stV g i b dy) ≤ 30000 := by
  have w1 := w.1
  have wb1 := wb.1
  obtain ⟨a1, a2, a3, a4, a5, a6, a7, a8, a9, a10, a11, a12, a13⟩ := w.2.1 i hi
  have ra := wb.2.1 b hb
  have rb := wb.2.1 (g 50 i).toNat (by omega)
  have rl := wl.2.2.2.1 (g 10 b * 8 + g 10 (g 50 i).toNat).toNat (by omega)
  unfold stV
  split
  · exact a7
  · exact imin_rng a7 (by omega)
abbrev cpP (g : mz_S) (i : Nat) : Prop := g 56 i = -1 ∧ g 54 i ≤ g 1 0 ∧ g 1 0 < w32 (g 55 i) ∧ g 13 (g 50 i).toNat = -1 ∧ g 52 i ≤ g 14 (g 50 i * 4 + g 51 i).toNat
theorem sX10_canPay {T : Nat × (Nat → Int32)} {d : Nat} {Q : mz_K} {X : mz_X} {g : mz_S} {i : Nat} (wl : WfL0 g) (wb : WfB g) (w : WfW g) (hi : (i : Int) < g 48 4) (k : Q (pI (cpP g i)) g) : zC T (d + 2) 136 [mx_R 48, mx_I (i : Int)] g Q X := by
  have w0 := wl.1
  have w1 := w.1
  have wb1 := wb.1
  obtain ⟨a1, a2, a3, a4, a5, a6, a7, a8, a9, a10, a11, a12, a13⟩ := w.2.1 i hi
  have rb := wb.2.1 (g 50 i).toNat (by omega)
  have rc := wb.2.2 (g 50 i * 4 + g 51 i).toNat (by omega)
  have no : ¬ cpP g i → aX10_canPay T (d + 1) Q X 88 [some (mx_R 48), some (mx_I (i : Int))] [] g (0, 0) := by
    intro z
    refine zX10_canPay_88 (zX10_canPay_89 ⟨zb0, ?_⟩)
    rw [pI_f z] at k; exact k
  refine zX10_canPay (sX10_isPaid (by omega) a8 ?_)
  first | with_reducible refine b_eq (fun h1 => ?_) (fun h1 => ?_) | with_reducible refine b_ne (fun h1 => ?_) (fun h1 => ?_)
  · exact no (fun z => h1 z.1)
  · refine s_inN ?_ (fun ea => ?_)
    · omega
    try simp only [ea]
    clear ea
    first | with_reducible refine c_lt ?_ ?_ (fun h2 => ?_) (fun h2 => ?_) | with_reducible refine c_le ?_ ?_ (fun h2 => ?_) (fun h2 => ?_) | with_reducible refine c_eq ?_ ?_ (fun h2 => ?_) (fun h2 => ?_) | with_reducible refine c_ne ?_ ?_ (fun h2 => ?_) (fun h2 => ?_)
    · omega
    · omega
    · exact no (fun z => by have := z.2.1; omega)
    · refine s_inN ?_ (fun ea => ?_)
      · omega
      try simp only [ea]
      clear ea
      rw [w32_of (n := g 1 0) (by omega) (by omega)]
      refine ⟨fun h3 => no (fun z => by have := z.2.2.1; omega), fun h3 => ?_⟩
      refine s_inN ?_ (fun ea => ?_)
      · omega
      try simp only [ea]
      clear ea
      refine sX0_hasFallen (by omega) (by omega) ?_
      first | with_reducible refine b_eq (fun h4 => ?_) (fun h4 => ?_) | with_reducible refine b_ne (fun h4 => ?_) (fun h4 => ?_)
      · exact no (fun z => h4 z.2.2.2.1)
      · refine s_inN ?_ (fun ea => ?_)
        · omega
        try simp only [ea]
        clear ea
        refine s_inN ?_ (fun ea => ?_)
        · omega
        try simp only [ea]
        clear ea
        refine sX0_has (by omega) (by omega) ?_
        refine s_inN ?_ (fun ea => ?_)
        · omega
        try simp only [ea]
        clear ea
        first | with_reducible refine c_lt ?_ ?_ (fun h5 => ?_) (fun h5 => ?_) | with_reducible refine c_le ?_ ?_ (fun h5 => ?_) (fun h5 => ?_) | with_reducible refine c_eq ?_ ?_ (fun h5 => ?_) (fun h5 => ?_) | with_reducible refine c_ne ?_ ?_ (fun h5 => ?_) (fun h5 => ?_)
        · omega
        · omega
        · exact no (fun z => by have := z.2.2.2.2; omega)
        · refine zX10_canPay_89 ⟨zb1, ?_⟩
          rw [pI_t ⟨by omega, by omega, by omega, by omega, by omega⟩] at k; exact k
