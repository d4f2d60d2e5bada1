/-! twin: the class -/
abbrev cwP (g : mz_S) (i b : Nat) : Prop := g 60 i = 0 ∧ g 58 i = -1 ∧ ¬ thP g i ∧ g 61 i = 0 ∧ g 1 0 < w32 (g 55 i) ∧ ¬ (b : Int) = g 49 i ∧ ¬ (b : Int) = g 50 i ∧ g 13 b = -1 ∧ g 13 (g 49 i).toNat = -1 ∧ ¬ g 3 (g 10 (g 49 i).toNat * 8 + g 10 b).toNat = -1
theorem sX10_canTwin {T : Nat × (Nat → Int32)} {d : Nat} {Q : mz_K} {X : mz_X} {g : mz_S} {i b : Nat} (wl : WfL0 g) (wb : WfB g) (w : WfW g) (hi : (i : Int) < g 48 4) (hb : b < 12) (k : Q (pI (cwP g i b)) g) : zC T (d + 4) 141 [mx_R 48, mx_I (i : Int), mx_I (b : Int)] g Q X := by
  have w0 := wl.1
  have w1 := w.1
  have wb1 := wb.1
  obtain ⟨a1, a2, a3, a4, a5, a6, a7, a8, a9, a10, a11, a12, a13⟩ := w.2.1 i hi
  have ra := wb.2.1 (g 49 i).toNat (by omega)
  have rb := wb.2.1 b hb
  have rl := wl.2.2.2.1 (g 10 (g 49 i).toNat * 8 + g 10 b).toNat (by omega)
  have no : ¬ cwP g i b → aX10_canTwin T (d + 3) Q X 113 [some (mx_R 48), some (mx_I (i : Int)), some (mx_I (b : Int)), some (mx_I (g 49 i))] [] g (0, 0) := by
    intro z
    refine zX10_canTwin_113 (zX10_canTwin_114 ⟨zb0, ?_⟩)
    rw [pI_f z] at k; exact k
  refine zX10_canTwin ?_
  refine s_inN ?_ (fun ea => ?_)
  · omega
  try simp only [ea]
  clear ea
  refine s_inN ?_ (fun ea => ?_)
  · omega
  try simp only [ea]
  clear ea
  first | with_reducible refine c_lt ?_ ?_ (fun h1 => ?_) (fun h1 => ?_) | with_reducible refine c_le ?_ ?_ (fun h1 => ?_) (fun h1 => ?_) | with_reducible refine c_eq ?_ ?_ (fun h1 => ?_) (fun h1 => ?_) | with_reducible refine c_ne ?_ ?_ (fun h1 => ?_) (fun h1 => ?_)
  · omega
  · omega
  · exact no (fun z => by have := z.1; omega)
  refine s_inN ?_ (fun ea => ?_)
  · omega
  try simp only [ea]
  clear ea
  first | with_reducible refine c_lt ?_ ?_ (fun h2 => ?_) (fun h2 => ?_) | with_reducible refine c_le ?_ ?_ (fun h2 => ?_) (fun h2 => ?_) | with_reducible refine c_eq ?_ ?_ (fun h2 => ?_) (fun h2 => ?_) | with_reducible refine c_ne ?_ ?_ (fun h2 => ?_) (fun h2 => ?_)
  · omega
  · omega
  · exact no (fun z => h2 z.2.1)
  refine sX10_tellerHeardPaid wl wb w hi ?_
  first | with_reducible refine b_eq (fun h3 => ?_) (fun h3 => ?_) | with_reducible refine b_ne (fun h3 => ?_) (fun h3 => ?_)
  · exact no (fun z => z.2.2.1 h3)
  refine s_inN ?_ (fun ea => ?_)
  · omega
  try simp only [ea]
  clear ea
  first | with_reducible refine c_lt ?_ ?_ (fun h4 => ?_) (fun h4 => ?_) | with_reducible refine c_le ?_ ?_ (fun h4 => ?_) (fun h4 => ?_) | with_reducible refine c_eq ?_ ?_ (fun h4 => ?_) (fun h4 => ?_) | with_reducible refine c_ne ?_ ?_ (fun h4 => ?_) (fun h4 => ?_)
  · omega
  · omega
  · exact no (fun z => by have := z.2.2.2.1; omega)
  refine s_inN ?_ (fun ea => ?_)
  · omega
  try simp only [ea]
  clear ea
  rw [w32_of (n := g 1 0) (by omega) (by omega)]
  refine ⟨fun h5 => no (fun z => by have := z.2.2.2.2.1; omega), fun h5 => ?_⟩
  first | with_reducible refine c_lt ?_ ?_ (fun h6 => ?_) (fun h6 => ?_) | with_reducible refine c_le ?_ ?_ (fun h6 => ?_) (fun h6 => ?_) | with_reducible refine c_eq ?_ ?_ (fun h6 => ?_) (fun h6 => ?_) | with_reducible refine c_ne ?_ ?_ (fun h6 => ?_) (fun h6 => ?_)
  · omega
  · omega
  · exact no (fun z => z.2.2.2.2.2.1 h6)
  refine s_inN ?_ (fun ea => ?_)
  · omega
  try simp only [ea]
  clear ea
  first | with_reducible refine c_lt ?_ ?_ (fun h7 => ?_) (fun h7 => ?_) | with_reducible refine c_le ?_ ?_ (fun h7 => ?_) (fun h7 => ?_) | with_reducible refine c_eq ?_ ?_ (fun h7 => ?_) (fun h7 => ?_) | with_reducible refine c_ne ?_ ?_ (fun h7 => ?_) (fun h7 => ?_)
  · omega
  · omega
  · exact no (fun z => z.2.2.2.2.2.2.1 h7)
  refine sX0_hasFallen (by omega) (by rw [show ((b : Int)).toNat = b by omega]; omega) ?_
  rw [show ((b : Int)).toNat = b by omega]
  first | with_reducible refine b_eq (fun h8 => ?_) (fun h8 => ?_) | with_reducible refine b_ne (fun h8 => ?_) (fun h8 => ?_)
  · exact no (fun z => h8 z.2.2.2.2.2.2.2.1)
  refine sX0_hasFallen (by omega) (by omega) ?_
  first | with_reducible refine b_eq (fun h9 => ?_) (fun h9 => ?_) | with_reducible refine b_ne (fun h9 => ?_) (fun h9 => ?_)
  · exact no (fun z => h9 z.2.2.2.2.2.2.2.2.1)
  refine sX0_lagTo (d := d + 1) wb (by omega) (by omega) ?_
  rw [show ((b : Int)).toNat = b by omega]
  first | with_reducible refine c_lt ?_ ?_ (fun hA => ?_) (fun hA => ?_) | with_reducible refine c_le ?_ ?_ (fun hA => ?_) (fun hA => ?_) | with_reducible refine c_eq ?_ ?_ (fun hA => ?_) (fun hA => ?_) | with_reducible refine c_ne ?_ ?_ (fun hA => ?_) (fun hA => ?_)
  · omega
  · omega
  · exact no (fun z => z.2.2.2.2.2.2.2.2.2 hA)
  · refine zX10_canTwin_114 ⟨zb1, ?_⟩
    rw [pI_t ⟨by omega, by omega, h3, by omega, by omega, h6, h7, by omega, by omega, hA⟩] at k; exact k
/-- the twin's end -/
def twT (g : mz_S) (nt : Nat) (al : Nat → List pA) (i a b p : Nat) : Int :=
  let s := g 1 0 + g 3 (g 10 a * 8 + g 10 b).toNat + akF g nt al a b (g 52 i) (g 51 i) 1
  if g 56 i = -1 ∨ g 3 (g 10 p * 8 + g 10 b).toNat = -1 then s else imin s (g 56 i + g 3 (g 10 p * 8 + g 10 b).toNat)
def TwC (g : mz_S) (m : Nat) (nt : Nat) (al : Nat → List pA) (i a b p : Nat) (G : mz_S) : Prop := G 49 = lset (g 49) m a ∧ G 50 = lset (g 50) m b ∧ G 51 = lset (g 51) m (g 51 i) ∧ G 52 = lset (g 52) m (g 52 i) ∧ G 53 = lset (g 53) m (g 53 i) ∧ G 54 = lset (g 54) m (g 1 0 + g 3 (g 10 a * 8 + g 10 b).toNat) ∧ G 55 = lset (g 55) m (twT g nt al i a b p) ∧ G 56 = lset (g 56) m (-1) ∧ G 58 = lset (lset (g 58) m i) i m ∧ G 48 = lset (g 48) 4 ((m + 1 : Nat) : Int) ∧ G 60 = lset (g 60) m 1
theorem sX10_addTwin {T : Nat × (Nat → Int32)} {d : Nat} {Q : mz_K} {X : mz_X} {g : mz_S} {i a b p nt m : Nat} {W : Int} {al : Nat → List pA} (wl : WfL0 g) (wb : WfB g) (w : WfW g) (tw : TxW g nt al) (wk : WkS W g) (hW : W < 2147483647) (hi : (i : Int) < g 48 4) (hb : b < 12) (e49 : g 49 i = (a : Int)) (e50 : g 50 i = (p : Int)) (hm : g 48 4 = (m : Int)) (hm2 : m < 100) (k : ∀ G, Ch [48, 49, 50, 51, 52, 53, 54, 55, 56, 58, 60, 39, 45, 46, 47] [] g G → AsS g G → WkS (W + 1) G → TwC g m nt al i a b p G → Q (m : Int) G) : zC T (d + 8) 142 [mx_R 48, mx_I (i : Int), mx_I (b : Int)] g Q X := by
  have w0 := wl.1
  have w1 := w.1
  have wb1 := wb.1
  obtain ⟨a1, a2, a3, a4, a5, a6, a7, a8, a9, a10, a11, a12, a13⟩ := w.2.1 i hi
  have im : i ≠ m := by omega
  refine zX10_addTwin ?_
  refine s_inN ?_ (fun ea => ?_)
  · omega
  try simp only [ea]
  clear ea
  refine s_inN ?_ (fun ea => ?_)
  · omega
  try simp only [ea]
  clear ea
  refine s_inN ?_ (fun ea => ?_)
  · omega
  try simp only [ea]
  clear ea
  refine s_inN ?_ (fun ea => ?_)
  · omega
  try simp only [ea]
  clear ea
  rw [e49]
  refine sX10_addWord (c := g) (d := d) (m := m) wl wb tw (AsS.rf g) wk hW (by omega) hb hm hm2 a4 (fun G1 c1 s1 k1 nw => ?_)
  obtain ⟨n1, n2, n3, n4, n5, n6, n7, n8, n9, n10⟩ := nw
  refine s_inN ?_ (fun ea => ?_)
  · omega
  try simp only [ea]
  clear ea
  refine ⟨zb1, ?_⟩
  intro G2 e2
  refine s_inN ?_ (fun ea => ?_)
  · omega
  try simp only [ea]
  clear ea
  intro G3 e3
  refine s_inN ?_ (fun ea => ?_)
  · omega
  try simp only [ea]
  clear ea
  intro G4 e4
  have c14 : Ch [60, 58] [] G1 G4 := by rw [e4, e3, e2]; exact (((Ch.rf G1).up (by decide) (by decide)).up (by decide) (by decide)).up (by decide) (by decide)
  have c4 : Ch [48, 49, 50, 51, 52, 53, 54, 55, 56, 58, 60, 39, 45, 46, 47] [] g G4 := (c1.sub (by decide) (by decide)).tr (c14.sub (by decide) (by decide))
  have f : ∀ q ∈ [1, 3, 10, 48, 49, 50, 51, 52, 53, 54, 55, 56, 39, 46], G4 q = G1 q := fun q hq => c14.1 q (by simp at hq ⊢; omega) (by intro z; subst z; revert hq; decide)
  have v58 : G4 58 = lset (lset (g 58) m i) i m := by
    rw [e4, up_at, if_pos rfl, e3, up_at, if_pos rfl, e2, up_at, if_neg (by decide), n9]
    funext j
    unfold lset
    split
    · rfl
    · split <;> rfl
  have v60 : G4 60 = lset (g 60) m 1 := by rw [e4, up_at, if_neg (by decide), e3, up_at, if_neg (by decide), e2, up_at, if_pos rfl, c1.1 60 (by decide) (by decide)]
  have p56 : G4 56 i = g 56 i := by rw [f 56 (by decide), n8, lset_n im]
  have s4 : AsS g G4 := s1.tr c14 (by decide) (by rw [c14.1 39 (by decide) (by decide)])
  have k4 : WkS (W + 1) G4 := k1.fr c14 (by decide)
  have fin : ∀ G v, G = mx_up G4 55 m v → v = twT g nt al i a b p → Q (m : Int) G := by
    intro G v eG hv
    have cG : Ch [55] [] G4 G := by rw [eG]; exact (Ch.rf G4).up (by decide) (by decide)
    refine k G (c4.tr (cG.sub (by decide) (by decide))) (s4.tr cG (by decide) (by rw [cG.1 39 (by decide) (by decide)])) (k4.fr cG (by decide)) ?_
    unfold TwC
    rw [cG.1 49 (by decide) (by decide), cG.1 50 (by decide) (by decide), cG.1 51 (by decide) (by decide), cG.1 52 (by decide) (by decide), cG.1 53 (by decide) (by decide), cG.1 54 (by decide) (by decide), cG.1 56 (by decide) (by decide), cG.1 58 (by decide) (by decide), cG.1 48 (by decide) (by decide), cG.1 60 (by decide) (by decide), f 49 (by decide), f 50 (by decide), f 51 (by decide), f 52 (by decide), f 53 (by decide), f 54 (by decide), f 56 (by decide), f 48 (by decide), eG, up_at, if_pos rfl, f 55 (by decide), n7, hv]
    refine ⟨n1, n2, n3, n4, n5, n6, ?_, n8, v58, n10, v60⟩
    funext j
    unfold lset
    split <;> rfl
  refine sX10_isPaid (by omega) (by rw [p56]; exact a8) ?_
  rw [p56]
  first | with_reducible refine b_eq (fun h1 => ?_) (fun h1 => ?_) | with_reducible refine b_ne (fun h1 => ?_) (fun h1 => ?_)
  · refine zX10_addTwin_76 (fin G4 (G4 55 m) (up_self _ _ _).symm ?_)
    unfold twT
    rw [if_pos (Or.inl (Decidable.not_not.mp h1)), f 55 (by decide), n7, lset_s]
  · refine s_inN ?_ (fun ea => ?_)
    · omega
    try simp only [ea]
    clear ea
    refine s_inN ?_ (fun ea => ?_)
    · omega
    try simp only [ea]
    clear ea
    rw [f 50 (by decide), n2, lset_n im, e50]
    refine sX10_stopWH (d := d + 4) (wl.ch c4 (by decide)) (wb.ch c4 (by decide)) hm2 (by rw [f 50 (by decide), n2, lset_s]; omega) (by rw [f 56 (by decide), n8, lset_s]; omega) (by omega) (zX10_addTwin_76 (fin _ _ rfl ?_))
    unfold stV twT
    rw [f 3 (by decide), f 10 (by decide), c1.1 3 (by decide) (by decide), c1.1 10 (by decide) (by decide), f 50 (by decide), n2, lset_s, f 56 (by decide), n8, lset_s, f 55 (by decide), n7, lset_s, show ((b : Int)).toNat = b by omega]
    by_cases z : g 3 (g 10 p * 8 + g 10 b).toNat = -1
    · rw [if_pos (Or.inl z), if_pos (Or.inr z)]
    · rw [if_neg (by omega), if_neg (by omega)]
