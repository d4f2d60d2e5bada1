/-! tell: the class -/
theorem debtC_ch {S F : List Nat} {g g' : mz_S} (h : Ch S F g g') (hS : ∀ q ∈ [1, 3, 4, 5, 6, 7, 23], q ∉ S) (a b : Nat) (t : Int) : debtC g' a b t = debtC g a b t := by
  unfold debtC
  refine sumN_congr (fun c _ => ?_)
  rw [worthC_ch h (fun q hq => hS q (by revert hq; revert q; decide))]
  unfold netC
  rw [h.1 23 (hS 23 (by decide)) (by decide)]
theorem WfG.ch {S F : List Nat} {g g' : mz_S} (w : WfG g) (h : Ch S F g g') (hS : ∀ q ∈ [15, 16, 17, 18, 19, 20, 21, 22, 23, 24], q ∉ S) : WfG g' := by
  have e : ∀ q ∈ [15, 16, 17, 18, 19, 20, 21, 22, 23, 24], g' q = g q := fun q hq => h.1 q (hS q hq) (by intro z; subst z; revert hq; decide)
  unfold WfG at w ⊢
  rw [e 15 (by decide), e 16 (by decide), e 17 (by decide), e 18 (by decide), e 19 (by decide), e 20 (by decide), e 21 (by decide), e 23 (by decide), e 24 (by decide)]
  exact w
abbrev ctP (g : mz_S) (nt : Nat) (al : Nat → List pA) (a b : Nat) (co n : Int) : Prop := g 13 a = -1 ∧ g 13 b = -1 ∧ ¬ g 3 (g 10 a * 8 + g 10 b).toNat = -1 ∧ ¬ w64 (akF g nt al a b n co 8) = 1 ∧ debtC g a b (g 10 a) + worthC g n co (g 10 a) ≤ w64 (akF g nt al a b n co 2)
theorem sX10_canTell {T : Nat × (Nat → Int32)} {d : Nat} {Q : mz_K} {X : mz_X} {g : mz_S} {a b nt : Nat} {W co n : Int} {al : Nat → List pA} (wl : WfL g) (wb : WfB g) (w : WfG g) (tw : TxW g nt al) (wk : WkS W g) (hW : W + 1 < 2147483647) (ha : a < 12) (hb : b < 12) (hc : 0 ≤ co ∧ co < 4) (hn : 1 ≤ n ∧ n ≤ 100000) (k : ∀ G, Ch [8, 39, 45, 46, 47] [] g G → WfC G → AsS g G → WkS (W + 2) G → Q (pI (ctP g nt al a b co n)) G) : zC T (d + 8) 130 [mx_R 48, mx_I (a : Int), mx_I (b : Int), mx_I co, mx_I n] g Q X := by
  have ra := wb.2.1 a ha
  have rb := wb.2.1 b hb
  have rl := wl.1.2.2.2.1 (g 10 a * 8 + g 10 b).toNat (by omega)
  have wn : w32 n = n := w32_of (by omega) (by omega)
  have no : ¬ ctP g nt al a b co n → ∀ G, Ch [8, 39, 45, 46, 47] [] g G → WfC G → AsS g G → WkS (W + 2) G → aX10_canTell T (d + 7) Q X 54 [some (mx_R 48), some (mx_I (a : Int)), some (mx_I (b : Int)), some (mx_I co), some (mx_I n), none, none, none] [] G (0, 0) := by
    intro z G c1 c2 c3 c4
    have k := k G c1 c2 c3 c4
    rw [pI_f z] at k
    exact zX10_canTell_54 ⟨zb0, k⟩
  refine zX10_canTell (sX0_hasFallen (by omega) (by rw [show ((a : Int)).toNat = a by omega]; omega) ?_)
  rw [show ((a : Int)).toNat = a by omega]
  first | with_reducible refine b_eq (fun h1 => ?_) (fun h1 => ?_) | with_reducible refine b_ne (fun h1 => ?_) (fun h1 => ?_)
  · exact no (fun z => h1 z.1) g (Ch.rf g) wl.2 (AsS.rf g) (wk.wk (by omega))
  · refine sX0_hasFallen (by omega) (by rw [show ((b : Int)).toNat = b by omega]; omega) ?_
    rw [show ((b : Int)).toNat = b by omega]
    first | with_reducible refine b_eq (fun h2 => ?_) (fun h2 => ?_) | with_reducible refine b_ne (fun h2 => ?_) (fun h2 => ?_)
    · exact no (fun z => h2 z.2.1) g (Ch.rf g) wl.2 (AsS.rf g) (wk.wk (by omega))
    · refine sX0_lagTo (d := d + 5) wb (by omega) (by omega) ?_
      rw [show ((a : Int)).toNat = a by omega, show ((b : Int)).toNat = b by omega]
      first | with_reducible refine c_lt ?_ ?_ (fun h3 => ?_) (fun h3 => ?_) | with_reducible refine c_le ?_ ?_ (fun h3 => ?_) (fun h3 => ?_) | with_reducible refine c_eq ?_ ?_ (fun h3 => ?_) (fun h3 => ?_) | with_reducible refine c_ne ?_ ?_ (fun h3 => ?_) (fun h3 => ?_)
      · omega
      · omega
      · exact no (fun z => z.2.2.1 h3) g (Ch.rf g) wl.2 (AsS.rf g) (wk.wk (by omega))
      · rw [wn]
        refine sX3_askG (c := g) (d := d + 1) wl.1 wb tw (AsS.rf g) wk (by omega) ha hb (by decide) (fun G1 c1 s1 k1 => ?_)
        have wl1 : WfL G1 := wl.ch c1 (by decide)
        have wb1 := wb.ch c1 (by decide)
        rw [w32_akF (s := 8) (by decide), show w32 1 = 1 by decide]
        refine ⟨fun h4 => ?_, fun h4 => no (fun z => h4 z.2.2.2.1) G1 (c1.sub (by decide) (by decide)) wl1.2 s1 (k1.wk (by omega))⟩
        refine s_inN ?_ (fun ea => ?_)
        · omega
        try simp only [ea]
        clear ea
        rw [c1.1 10 (by decide) (by decide)]
        refine sX6_netWorth (d := d + 4) wl1 (w.ch c1 (by decide)) ha hb ra.1 (fun G2 c2 wl2 => ?_)
        refine sX5_worthNow (d := d + 5) wl2 (by omega) hc ra.1 (fun G3 c3 wl3 => ?_)
        have c3' : Ch [8, 39, 45, 46, 47] [] g G3 := ((c1.sub (by decide) (by decide)).tr ((c2.ch (F := [])).sub (by decide) (by decide))).tr ((c3.ch (F := [])).sub (by decide) (by decide))
        have c2' : Ch [8, 39, 45, 46, 47] [] g G2 := (c1.sub (by decide) (by decide)).tr ((c2.ch (F := [])).sub (by decide) (by decide))
        have s3 : AsS g G3 := (s1.tr (c2.ch (F := [])) (by decide) (by rw [c2 39 (by decide)])).tr (c3.ch (F := [])) (by decide) (by rw [c3 39 (by decide)])
        have k3 : WkS (W + 1) G3 := (k1.fr (c2.ch (F := [])) (by decide)).fr (c3.ch (F := [])) (by decide)
        rw [debtC_ch c1 (by decide), worthC_ch c2' (by decide)]
        refine sX3_askG (c := g) (d := d + 1) wl3.1 (wb.ch c3' (by decide)) tw s3 k3 (by omega) ha hb (by decide) (fun G4 c4 s4 k4 => ?_)
        have c4' : Ch [8, 39, 45, 46, 47] [] g G4 := c3'.tr (c4.sub (by decide) (by decide))
        have k := k G4 c4' (wl3.ch c4 (by decide)).2 s4 (k4.wk (by omega))
        have rg := akF_rng (g := g) (nt := nt) (al := al) (a := a) (b := b) (n := n) (coin := co) (s := 2) (by decide)
        have rg' : 0 ≤ w64 (akF g nt al a b n co 2) ∧ w64 (akF g nt al a b n co 2) ≤ 1000000000 := rg
        have db := debtC_bnd (t := g 10 a) wl.1 w ha hb
        have wbn := worthC_bnd (c := co) (t := g 10 a) wl.1 (n := n) (B := 100000) (by omega) (by omega)
        rw [w32_akF (s := 2) (by decide)]
        rw [lc_gt, w64_w, w64_of (n := debtC g a b (g 10 a) + worthC g n co (g 10 a)) (by omega) (by omega)]
        refine ⟨fun h5 => zX10_canTell_120 ⟨zb0, ?_⟩, fun h5 => zX10_canTell_120 ⟨zb1, ?_⟩⟩
        · rw [pI_f (fun z => by have := z.2.2.2.2; omega)] at k; exact k
        · rw [pI_t ⟨by omega, by omega, h3, h4, by omega⟩] at k; exact k
/-- a word more -/
def NwC (g : mz_S) (m : Nat) (nt : Nat) (al : Nat → List pA) (a b co n s : Int) (a' b' : Nat) (G : mz_S) : Prop := G 49 = lset (g 49) m a ∧ G 50 = lset (g 50) m b ∧ G 51 = lset (g 51) m co ∧ G 52 = lset (g 52) m n ∧ G 53 = lset (g 53) m s ∧ G 54 = lset (g 54) m (g 1 0 + g 3 (g 10 a' * 8 + g 10 b').toNat) ∧ G 55 = lset (g 55) m (g 1 0 + g 3 (g 10 a' * 8 + g 10 b').toNat + akF g nt al a' b' n co 1) ∧ G 56 = lset (g 56) m (-1) ∧ G 58 = lset (g 58) m (-1) ∧ G 48 = lset (g 48) 4 ((m + 1 : Nat) : Int)
theorem sX10_addWord {T : Nat × (Nat → Int32)} {d : Nat} {Q : mz_K} {X : mz_X} {g : mz_S} {c : mz_S} {a b nt m : Nat} {W co n s : Int} {al : Nat → List pA} (wl : WfL0 g) (wb : WfB g) (tw : TxW c nt al) (e : AsS c g) (wk : WkS W g) (hW : W < 2147483647) (ha : a < 12) (hb : b < 12) (hm : g 48 4 = (m : Int)) (hm2 : m < 100) (hn : 1 ≤ n ∧ n ≤ 100000) (k : ∀ G, Ch [48, 49, 50, 51, 52, 53, 54, 55, 56, 58, 39, 45, 46, 47] [] g G → AsS c G → WkS (W + 1) G → NwC g m nt al a b co n s a b G → Q (m : Int) G) : zC T (d + 7) 132 [mx_R 48, mx_I (a : Int), mx_I (b : Int), mx_I co, mx_I n, mx_I s] g Q X := by
  have ra := wb.2.1 a ha
  have rb := wb.2.1 b hb
  refine zX10_addWord ?_
  rw [hm]
  refine s_inN ?_ (fun ea => ?_)
  · omega
  try simp only [ea]
  clear ea
  intro g1 e1
  refine s_inN ?_ (fun ea => ?_)
  · omega
  try simp only [ea]
  clear ea
  intro g2 e2
  refine s_inN ?_ (fun ea => ?_)
  · omega
  try simp only [ea]
  clear ea
  intro g3 e3
  refine s_inN ?_ (fun ea => ?_)
  · omega
  try simp only [ea]
  clear ea
  intro g4 e4
  refine s_inN ?_ (fun ea => ?_)
  · omega
  try simp only [ea]
  clear ea
  intro g5 e5
  have c5 : Ch [49, 50, 51, 52, 53] [] g g5 := by rw [e5, e4, e3, e2, e1]; exact (((((Ch.rf g).up (by decide) (by decide)).up (by decide) (by decide)).up (by decide) (by decide)).up (by decide) (by decide)).up (by decide) (by decide)
  refine sX0_lagTo (d := d + 4) (wb.ch c5 (by decide)) (by omega) (by omega) ?_
  rw [c5.1 3 (by decide) (by decide), c5.1 10 (by decide) (by decide), c5.1 1 (by decide) (by decide), show ((a : Int)).toNat = a by omega, show ((b : Int)).toNat = b by omega]
  refine s_inN ?_ (fun ea => ?_)
  · omega
  try simp only [ea]
  clear ea
  intro g7 e7
  have c7 : Ch [49, 50, 51, 52, 53, 54] [] g g7 := by rw [e7]; exact (c5.sub (by decide) (by decide)).up (by decide) (by decide)
  refine s_inN ?_ (fun ea => ?_)
  · omega
  try simp only [ea]
  clear ea
  rw [w32_of (n := n) (by omega) (by omega)]
  refine sX3_askG (c := c) (d := d) (wl.ch c7 (by decide)) (wb.ch c7 (by decide)) tw (e.tr c7 (by decide) (by rw [c7.1 39 (by decide) (by decide)])) (wk.fr c7 (by decide)) hW ha hb (by decide) (fun g8 c8 s8 k8 => ?_)
  rw [← e.ak]
  rw [show g7 54 m = g 1 0 + g 3 (g 10 a * 8 + g 10 b).toNat by rw [e7, up_s]]
  refine s_inN ?_ (fun ea => ?_)
  · omega
  try simp only [ea]
  clear ea
  intro g9 e9
  refine s_inN ?_ (fun ea => ?_)
  · omega
  try simp only [ea]
  clear ea
  intro g10 e10
  refine s_inN ?_ (fun ea => ?_)
  · omega
  try simp only [ea]
  clear ea
  intro g11 e11
  have q48 : g11 48 = g 48 := by rw [e11, up_at, if_neg (by decide), e10, up_at, if_neg (by decide), e9, up_at, if_neg (by decide), c8.1 48 (by decide) (by decide), c7.1 48 (by decide) (by decide)]
  rw [show g11 48 4 + 1 = ((m + 1 : Nat) : Int) by rw [q48, hm]; omega]
  intro g12 e12
  have c78 : Ch [48, 49, 50, 51, 52, 53, 54, 55, 56, 58, 39, 45, 46, 47] [] g g8 := (c7.sub (by decide) (by decide)).tr (c8.sub (by decide) (by decide))
  have c812 : Ch [48, 55, 56, 58] [] g8 g12 := by rw [e12, e11, e10, e9]; exact ((((Ch.rf g8).up (by decide) (by decide)).up (by decide) (by decide)).up (by decide) (by decide)).up (by decide) (by decide)
  refine k g12 (c78.tr (c812.sub (by decide) (by decide))) (s8.tr c812 (by decide) (by rw [c812.1 39 (by decide) (by decide)])) (k8.fr c812 (by decide)) ?_
  have f8 : ∀ q, q ∈ [48, 49, 50, 51, 52, 53, 54, 55, 56, 58] → g8 q = g7 q := fun q hq => c8.1 q (by simp at hq ⊢; omega) (by intro z; subst z; revert hq; decide)
  refine ⟨?_, ?_, ?_, ?_, ?_, ?_, ?_, ?_, ?_, ?_⟩
  · rw [e12, e11, e10, e9]; simp only [up_at]; rw [f8 49 (by decide), e7, e5, e4, e3, e2, e1]; simp [up_at]
  · rw [e12, e11, e10, e9]; simp only [up_at]; rw [f8 50 (by decide), e7, e5, e4, e3, e2, e1]; simp [up_at]
  · rw [e12, e11, e10, e9]; simp only [up_at]; rw [f8 51 (by decide), e7, e5, e4, e3, e2, e1]; simp [up_at]
  · rw [e12, e11, e10, e9]; simp only [up_at]; rw [f8 52 (by decide), e7, e5, e4, e3, e2, e1]; simp [up_at]
  · rw [e12, e11, e10, e9]; simp only [up_at]; rw [f8 53 (by decide), e7, e5, e4, e3, e2, e1]; simp [up_at]
  · rw [e12, e11, e10, e9]; simp only [up_at]; rw [f8 54 (by decide), e7, e5, e4, e3, e2, e1]; simp [up_at]
  · rw [e12, e11, e10, e9]; simp only [up_at]; rw [f8 55 (by decide), e7, e5, e4, e3, e2, e1]; simp [up_at]
  · rw [e12, e11, e10, e9]; simp only [up_at]; rw [f8 56 (by decide), e7, e5, e4, e3, e2, e1]; simp [up_at]
  · rw [e12, e11, e10, e9]; simp only [up_at]; rw [f8 58 (by decide), e7, e5, e4, e3, e2, e1]; simp [up_at]
  · rw [e12]; simp only [up_at]; rw [q48]; simp
