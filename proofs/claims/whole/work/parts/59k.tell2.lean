/-! tell: the class ends, the reference -/
theorem sX10_addTold {T : Nat × (Nat → Int32)} {d : Nat} {Q : mz_K} {X : mz_X} {g : mz_S} {c : mz_S} {a b nt m : Nat} {W co n s : Int} {al : Nat → List pA} (wl : WfL0 g) (wb : WfB g) (tw : TxW c nt al) (e : AsS c g) (wk : WkS W g) (hW : W + 1 < 2147483647) (ha : a < 12) (hb : b < 12) (hm : g 48 4 = (m : Int)) (hm2 : m < 100) (hc : 0 ≤ co ∧ co < 4) (hn : 1 ≤ n ∧ n ≤ 100000) (k : ∀ G, Ch [48, 49, 50, 51, 52, 53, 54, 55, 56, 58, 59, 14, 39, 45, 46, 47] [] g G → AsS c G → WkS (W + 2) G → NwC g m nt al a b co n s a b G → G 59 = lset (g 59) m (akF c nt al a b n co 0) → G 14 = lset (g 14) (a * 4 + co).toNat (min 10000000 (g 14 (a * 4 + co).toNat + (n + w64 (akF c nt al a b n co 0)))) → Q (m : Int) G) : zC T (d + 8) 131 [mx_R 48, mx_I (a : Int), mx_I (b : Int), mx_I co, mx_I n, mx_I s] g Q X := by
  have wn : w32 n = n := w32_of (by omega) (by omega)
  refine zX10_addTold (sX10_addWord (c := c) wl wb tw e wk (by omega) ha hb hm hm2 hn (fun G c1 s1 k1 nw => ?_))
  rw [wn]
  refine sX3_askG (c := c) (d := d + 1) (wl.ch c1 (by decide)) (wb.ch c1 (by decide)) tw s1 k1 (by omega) ha hb (by decide) (fun G2 c2 s2 k2 => ?_)
  refine s_inN ?_ (fun ea => ?_)
  · omega
  try simp only [ea]
  clear ea
  intro G3 e3
  have c3 : Ch [48, 49, 50, 51, 52, 53, 54, 55, 56, 58, 59, 39, 45, 46, 47] [] g G3 := by rw [e3]; exact ((c1.sub (by decide) (by decide)).tr (c2.sub (by decide) (by decide))).up (by decide) (by decide)
  have c23 : Ch [59] [] G2 G3 := by rw [e3]; exact (Ch.rf G2).up (by decide) (by decide)
  have rg := akF_rng (g := c) (nt := nt) (al := al) (a := a) (b := b) (n := n) (coin := co) (s := 0) (by decide)
  have rg' : 0 ≤ w64 (akF c nt al a b n co 0) ∧ w64 (akF c nt al a b n co 0) ≤ 100000 := rg
  refine s_inN ?_ (fun ea => ?_)
  · omega
  try simp only [ea]
  clear ea
  rw [show G3 59 m = akF c nt al a b n co 0 by rw [e3, up_s], w32_akF (by decide)]
  refine sX0_gets (d := d + 5) (wb.ch c3 (by decide)) (by omega) (by omega) (by omega) ?_
  have c4 : Ch [48, 49, 50, 51, 52, 53, 54, 55, 56, 58, 59, 14, 39, 45, 46, 47] [] g (mx_up G3 14 ((a : Int) * 4 + co).toNat (min 10000000 (G3 14 ((a : Int) * 4 + co).toNat + (n + w64 (akF c nt al a b n co 0))))) := (c3.sub (by decide) (by decide)).up (by decide) (by decide)
  have c34 : Ch [14] [] G3 (mx_up G3 14 ((a : Int) * 4 + co).toNat (min 10000000 (G3 14 ((a : Int) * 4 + co).toNat + (n + w64 (akF c nt al a b n co 0))))) := (Ch.rf G3).up (by decide) (by decide)
  refine k _ c4 ((s2.tr c23 (by decide) (by rw [c23.1 39 (by decide) (by decide)])).tr c34 (by decide) (by rw [c34.1 39 (by decide) (by decide)])) (((k2.wk (by omega)).fr c23 (by decide)).fr c34 (by decide)) ?_ ?_ ?_
  · unfold NwC at nw ⊢
    have f : ∀ q ∈ [48, 49, 50, 51, 52, 53, 54, 55, 56, 58], (mx_up G3 14 ((a : Int) * 4 + co).toNat (min 10000000 (G3 14 ((a : Int) * 4 + co).toNat + (n + w64 (akF c nt al a b n co 0))))) q = G q := by
      intro q hq
      rw [c34.1 q (by simp at hq ⊢; omega) (by intro z; subst z; revert hq; decide), c23.1 q (by simp at hq ⊢; omega) (by intro z; subst z; revert hq; decide), c2.1 q (by simp at hq ⊢; omega) (by intro z; subst z; revert hq; decide)]
    rw [f 48 (by decide), f 49 (by decide), f 50 (by decide), f 51 (by decide), f 52 (by decide), f 53 (by decide), f 54 (by decide), f 55 (by decide), f 56 (by decide), f 58 (by decide)]
    exact nw
  · rw [c34.1 59 (by decide) (by decide), e3, up_at, if_pos rfl, c2.1 59 (by decide) (by decide), c1.1 59 (by decide) (by decide)]
  · rw [up_at, if_pos rfl, c3.1 14 (by decide) (by decide)]
/-- the reference: a word more -/
def NwR (c r : mz_S) (m : Nat) (nt : Nat) (al : Nat → List pA) (a b co n s : Int) (a' b' : Nat) (G : mz_S) : Prop := G 134 = lset (r 134) m a ∧ G 135 = lset (r 135) m b ∧ G 136 = lset (r 136) m co ∧ G 137 = lset (r 137) m n ∧ G 138 = lset (r 138) m s ∧ G 139 = lset (r 139) m (c 1 0 + c 3 (c 10 a' * 8 + c 10 b').toNat) ∧ G 140 = lset (r 140) m (c 1 0 + c 3 (c 10 a' * 8 + c 10 b').toNat + akF c nt al a' b' n co 1) ∧ G 141 = lset (r 141) m (-1) ∧ G 142 = lset (r 142) m 0 ∧ G 143 = lset (r 143) m (-1) ∧ G 144 = lset (r 144) m 0 ∧ G 145 = lset (r 145) m 0 ∧ G 146 = lset (r 146) m 0 ∧ G 99 55 = ((m + 1 : Nat) : Int)
theorem sX12_comes {T : Nat × (Nat → Int32)} {d : Nat} {Q : mz_K} {X : mz_X} {g : mz_S} {c : mz_S} {a b nt m : Nat} {co n s : Int} {al : Nat → List pA} (wl : WfL0 c) (wb : WfB c) (rl : ReL c g) (rb : ∀ j, j < 12 → g 106 j = c 10 j) (ha : a < 12) (hb : b < 12) (hm : g 99 55 = (m : Int)) (hm2 : m < 100) (hl : ¬ c 3 (c 10 a * 8 + c 10 b).toNat = -1) (h1 : g 133 1 = akF c nt al a b n co 1) (k : ∀ G, Ch [134, 135, 136, 137, 138, 139, 140, 141, 142, 143, 144, 145, 146] [55] g G → NwR c g m nt al a b co n s a b G → Q (m : Int) G) : zC T (d + 2) 274 [mx_R 99, mx_I (a : Int), mx_I (b : Int), mx_I co, mx_I n, mx_I s] g Q X := by
  have ra := wb.2.1 a ha
  have rb' := wb.2.1 b hb
  refine zX12_comes ?_
  rw [hm]
  refine s_inN ?_ (fun ea => ?_)
  · omega
  try simp only [ea]
  clear ea
  intro g1 e1
  refine s_inN ?_ (fun ea => ?_)
  · omega
  try simp only [ea]
  clear ea
  intro g2 e2
  refine s_inN ?_ (fun ea => ?_)
  · omega
  try simp only [ea]
  clear ea
  intro g3 e3
  refine s_inN ?_ (fun ea => ?_)
  · omega
  try simp only [ea]
  clear ea
  intro g4 e4
  refine s_inN ?_ (fun ea => ?_)
  · omega
  try simp only [ea]
  clear ea
  intro g5 e5
  have c5 : Ch [134, 135, 136, 137, 138] [] g g5 := by rw [e5, e4, e3, e2, e1]; exact (((((Ch.rf g).up (by decide) (by decide)).up (by decide) (by decide)).up (by decide) (by decide)).up (by decide) (by decide)).up (by decide) (by decide)
  refine s_inN ?_ (fun ea => ?_)
  · omega
  try simp only [ea]
  clear ea
  refine s_inN ?_ (fun ea => ?_)
  · omega
  try simp only [ea]
  clear ea
  rw [c5.1 106 (by decide) (by decide), rb a ha, rb b hb, c5.2 1 (by decide), rl.1]
  refine sX12_heardOn (by omega) (by omega) ?_
  have lg := rl.lag wl (i := (c 10 a * 8 + c 10 b).toNat) (by omega)
  rw [c5.1 101 (by decide) (by decide), show g 101 (c 10 a * 8 + c 10 b).toNat = c 3 (c 10 a * 8 + c 10 b).toNat by omega]
  refine s_inN ?_ (fun ea => ?_)
  · omega
  try simp only [ea]
  clear ea
  intro g7 e7
  have c7 : Ch [134, 135, 136, 137, 138, 139] [] g g7 := by rw [e7]; exact (c5.sub (by decide) (by decide)).up (by decide) (by decide)
  refine s_inN ?_ (fun ea => ?_)
  · omega
  try simp only [ea]
  clear ea
  refine s_inE 1 rfl (by omega) (fun ea => ?_)
  rw [ea]
  refine s_inN ?_ (fun ea => ?_)
  · omega
  try simp only [ea]
  clear ea
  rw [show g7 139 m = c 1 0 + c 3 (c 10 a * 8 + c 10 b).toNat by rw [e7, up_s], c7.1 133 (by decide) (by decide), h1]
  intro g8 e8
  refine s_inN ?_ (fun ea => ?_)
  · omega
  try simp only [ea]
  clear ea
  intro g9 e9
  refine s_inN ?_ (fun ea => ?_)
  · omega
  try simp only [ea]
  clear ea
  intro g10 e10
  refine s_inN ?_ (fun ea => ?_)
  · omega
  try simp only [ea]
  clear ea
  intro g11 e11
  refine s_inN ?_ (fun ea => ?_)
  · omega
  try simp only [ea]
  clear ea
  intro g12 e12
  refine s_inN ?_ (fun ea => ?_)
  · omega
  try simp only [ea]
  clear ea
  refine ⟨zb0, ?_⟩
  intro g13 e13
  refine s_inN ?_ (fun ea => ?_)
  · omega
  try simp only [ea]
  clear ea
  refine ⟨zb0, ?_⟩
  intro g14 e14
  have c14 : Ch [134, 135, 136, 137, 138, 139, 140, 141, 142, 143, 144, 145, 146] [] g g14 := by
    rw [e14, e13, e12, e11, e10, e9, e8]
    repeat' first | exact c7.sub (by decide) (by decide) | refine Ch.up ?_ (by decide) (by decide)
  rw [show g14 99 55 + 1 = ((m + 1 : Nat) : Int) by rw [c14.2 55 (by decide), hm]; omega]
  intro g15 e15
  refine k g15 (by rw [e15]; exact (c14.sub (by decide) (by decide)).up9 (by decide)) ?_
  have x7 : ∀ q, q ∈ [134, 135, 136, 137, 138, 139, 140, 141, 142, 143, 144, 145, 146] → g7 q = (mx_up (mx_up (mx_up (mx_up (mx_up (mx_up g 134 m a) 135 m b) 136 m co) 137 m n) 138 m s) 139 m (c 1 0 + c 3 (c 10 a * 8 + c 10 b).toNat)) q := by
    intro q _
    rw [e7, e5, e4, e3, e2, e1]
  refine ⟨?_, ?_, ?_, ?_, ?_, ?_, ?_, ?_, ?_, ?_, ?_, ?_, ?_, ?_⟩
  all_goals first | (rw [e15, up_s]) | (rw [e15, e14, e13, e12, e11, e10, e9, e8]; simp [up_at, x7])
