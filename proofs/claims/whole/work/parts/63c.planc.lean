/-! plans: the class foresees the weeks -/
theorem fitIx : ∀ w, w < 5 → ∀ p, p < 64 → mx_ior (mx_ishl (w : Nat) 6) (p : Nat) = ((w * 64 + p : Nat) : Int) := by decide +kernel
theorem pow6 : ∀ n, n < 7 → mx_ishl 1 (n : Nat) = ((2 ^ n : Nat) : Int) := by decide +kernel
theorem orBit : ∀ p, p < 64 → ∀ k, k < 6 → mx_ior (p : Nat) (mx_ishl 1 (k : Nat)) = ((p ||| 2 ^ k : Nat) : Int) := by decide +kernel
theorem orZero : ∀ p, p < 64 → mx_ior (p : Nat) 0 = (p : Nat) := by decide +kernel
def BhG (g : mz_S) (m : Nat) (f : Nat → Int) : Prop := ∀ b, b < m → g 84 b = f b
def DbG (g : mz_S) (c : mz_S) (co : Nat) (x : Int) (n : Nat) : Prop := ∀ j, j < n → g 79 j = (dF x j : Nat) ∧ g 80 j = (dT x j : Nat) ∧ g 81 j = dA c co x j
theorem DbG.fr {S F : List Nat} {g g' c : mz_S} {co n : Nat} {x : Int} (h : DbG g c co x n) (e : Ch S F g g') (hS : ∀ q ∈ [79, 80, 81], q ∉ S) : DbG g' c co x n := by
  unfold DbG at h ⊢
  rw [e.1 79 (hS 79 (by decide)) (by decide), e.1 80 (hS 80 (by decide)) (by decide), e.1 81 (hS 81 (by decide)) (by decide)]
  exact h
theorem sX2_settlePart {T : Nat × (Nat → Int32)} {d : Nat} {Q : mz_K} {X : mz_X} {g : mz_S} {c : mz_S} {co m n p : Nat} {x s : Int} {f : Nat → Int} (hs : s = 1 ∨ s = -1) (hm : m ≤ 12) (hn : n ≤ 6) (hp : p < 64) (ok : okB c co x m n = true) (h : DbG g c co x n) (hf : BhG g m f) (k : ∀ g', Ch [84] [] g g' → BhG g' m (fun b => f b + s * dlt c co x n p.testBit b) → Q 0 g') : zC T (d + 2) 30 [mx_R 72, mx_I (p : Int), mx_I (n : Int), mx_I s] g Q X := by
  have okp := okB_iff.mp ok
  have ws : w32 s = s := by rcases hs with z | z <;> subst z <;> decide
  refine zX2_settlePart ?_
  have main : ∀ cc i : Nat, i + cc = n → ∀ G, Ch [84] [] g G → BhG G m (fun b => f b + s * dlt c co x i p.testBit b) → aX2_settlePart T (d + 1) Q X 3 [some (mx_R 72), some (mx_I (p : Int)), some (mx_I (n : Int)), some (mx_I s), some (mx_I (i : Int))] [] G (0, 0) := by
    intro cc
    induction cc with
    | zero =>
      intro i hi G cG hG
      refine zX2_settlePart_3 ?_
      first | with_reducible refine c_lt ?_ ?_ (fun z => ?_) (fun z => ?_) | with_reducible refine c_le ?_ ?_ (fun z => ?_) (fun z => ?_) | with_reducible refine c_eq ?_ ?_ (fun z => ?_) (fun z => ?_) | with_reducible refine c_ne ?_ ?_ (fun z => ?_) (fun z => ?_)
      · omega
      · omega
      · have : i = n := by omega
        subst this
        exact k G cG hG
      · omega
    | succ cc ih =>
      intro i hi G cG hG
      refine zX2_settlePart_3 ?_
      obtain ⟨o1, o2, o3, o4⟩ := okp i (by omega)
      obtain ⟨e1, e2, e3⟩ := h.fr cG (by decide) i (by omega)
      have nx : ∀ G2, Ch [84] [] g G2 → BhG G2 m (fun b => f b + s * dlt c co x (i + 1) p.testBit b) → aX2_settlePart T (d + 1) Q X 68 [some (mx_R 72), some (mx_I (p : Int)), some (mx_I (n : Int)), some (mx_I s), some (mx_I (i : Int))] [] G2 (0, 0) := by
        intro G2 c2 h2
        refine zX2_settlePart_68 ?_
        rw [show (i : Int) + 1 = ((i + 1 : Nat) : Int) by omega]
        exact ih (i + 1) (by omega) G2 c2 h2
      have ds : ∀ b, dlt c co x (i + 1) p.testBit b = dlt c co x i p.testBit b + (if p.testBit i = true then (if dT x i = b then dA c co x i else 0) - (if dF x i = b then dA c co x i else 0) else 0) := fun b => rfl
      first | with_reducible refine c_lt ?_ ?_ (fun z => ?_) (fun z => ?_) | with_reducible refine c_le ?_ ?_ (fun z => ?_) (fun z => ?_) | with_reducible refine c_eq ?_ ?_ (fun z => ?_) (fun z => ?_) | with_reducible refine c_ne ?_ ?_ (fun z => ?_) (fun z => ?_)
      · omega
      · omega
      · omega
      · refine sX11_holds (n := i) (by omega) ?_
        rw [zb_nat (by omega)]
        first | with_reducible refine b_eq (fun z2 => ?_) (fun z2 => ?_) | with_reducible refine b_ne (fun z2 => ?_) (fun z2 => ?_)
        · refine nx G cG (fun b hb => ?_)
          rw [hG b hb]
          show f b + s * dlt c co x i p.testBit b = f b + s * dlt c co x (i + 1) p.testBit b
          rw [ds, if_neg z2, Int.add_zero]
        · refine s_inN ?_ (fun ea => ?_)
          · omega
          try simp only [ea]
          clear ea
          rw [e1]
          refine s_inN ?_ (fun ea => ?_)
          · omega
          try simp only [ea]
          clear ea
          refine s_inN ?_ (fun ea => ?_)
          · omega
          try simp only [ea]
          clear ea
          rw [e3, ws]
          refine s_inN ?_ (fun ea => ?_)
          · omega
          try simp only [ea]
          clear ea
          intro G1 f1
          refine s_inN ?_ (fun ea => ?_)
          · omega
          try simp only [ea]
          clear ea
          have q80 : G1 80 i = (dT x i : Nat) := by rw [f1, up_q (by decide)]; exact e2
          rw [q80]
          refine s_inN ?_ (fun ea => ?_)
          · omega
          try simp only [ea]
          clear ea
          refine s_inN ?_ (fun ea => ?_)
          · omega
          try simp only [ea]
          clear ea
          rw [show G1 81 i = dA c co x i by rw [f1, up_q (by decide)]; exact e3]
          refine s_inN ?_ (fun ea => ?_)
          · omega
          try simp only [ea]
          clear ea
          intro G2 f2
          refine nx G2 (by rw [f2, f1]; exact (cG.up (by decide) (by decide)).up (by decide) (by decide)) (fun b hb => ?_)
          have eq : ∀ A B C : Int, s * (A + (B - C)) = s * A + s * B - s * C := fun A B C => by
            rcases hs with z | z <;> subst z <;> omega
          have hG : ∀ b, b < m → G 84 b = f b + s * dlt c co x i p.testBit b := hG
          show G2 84 b = f b + s * dlt c co x (i + 1) p.testBit b
          rw [ds, if_pos z2, eq]
          rw [f2]
          by_cases y1 : b = dT x i
          · subst y1
            rw [up_s, if_pos rfl, f1]
            by_cases y2 : dT x i = dF x i
            · rw [if_pos y2.symm, y2, up_s, hG (dF x i) o1]
              omega
            · rw [if_neg (fun z => y2 z.symm), up_i y2, hG (dT x i) o2]
              omega
          · rw [up_i y1, if_neg (fun z => y1 z.symm), f1]
            by_cases y2 : b = dF x i
            · subst y2
              rw [up_s, if_pos rfl, hG (dF x i) hb]
              omega
            · rw [up_i y2, if_neg (fun z => y2 z.symm), hG b hb]
              omega
  exact main n 0 (by omega) g (Ch.rf g) (fun b hb => by rw [hf b hb]; show f b = f b + s * 0; omega)
theorem dlt_bnd {c : mz_S} (w : WfG c) {co m n : Nat} {x : Int} (hm : m ≤ 12) (hn : n ≤ 6) (hco : co < 4) (ok : okB c co x m n = true) (P : Nat → Bool) (b : Nat) : -24000000000 ≤ dlt c co x n P b ∧ dlt c co x n P b ≤ 24000000000 := by
  have okp := okB_iff.mp ok
  have h : ∀ k, k < n → -4000000000 ≤ (if P k = true then (if dT x k = b then dA c co x k else 0) - (if dF x k = b then dA c co x k else 0) else 0) ∧ (if P k = true then (if dT x k = b then dA c co x k else 0) - (if dF x k = b then dA c co x k else 0) else 0) ≤ 4000000000 := by
    intro k hk
    obtain ⟨o1, o2, o3, o4⟩ := okp k hk
    have rn : -2000000000 ≤ dA c co x k ∧ dA c co x k ≤ 2000000000 := w.2.2.1 ((dF x k * 12 + dT x k) * 4 + co) (by omega)
    split
    · split <;> split <;> omega
    · omega
  have l := sumN_le (c := 4000000000) (fun k hk => (h k hk).2)
  have u := sumN_ge (c := -4000000000) (fun k hk => (h k hk).1)
  unfold dlt
  omega
theorem hasV_bnd {c : mz_S} (wb : WfB c) (wx : WfX c) {co b : Nat} (hco : co < 4) (hb : b < 12) (w : Nat) : -80000000 ≤ hasV c co b w ∧ hasV c co b w ≤ 90000000 := by
  have a1 := wb.2.2 (b * 4 + co) (by omega)
  have a2 := eX_bnd wx (b : Int) (co : Int) 0 ((c 1 0).toNat + 7 * w + 1)
  unfold hasV
  omega
theorem sX2_nobodyBelow {T : Nat × (Nat → Int32)} {d : Nat} {Q : mz_K} {X : mz_X} {g : mz_S} {m : Nat} {f : Nat → Int} (em : g 9 1 = (m : Int)) (hm : m ≤ 12) (hf : BhG g m f) (hb : ∀ b, b < m → R64 (f b)) (k : ∀ v, (v = 1 ∧ ∀ b, b < m → 0 ≤ f b) ∨ (v = 0 ∧ ¬ ∀ b, b < m → 0 ≤ f b) → Q v g) : zC T (d + 1) 31 [mx_R 72] g Q X := by
  refine zX2_nobodyBelow ?_
  have main : ∀ n i : Nat, i + n = m → (∀ b, b < i → 0 ≤ f b) → aX2_nobodyBelow T d Q X 2 [some (mx_R 72), some (mx_I (i : Int))] [] g (0, 0) := by
    intro n
    induction n with
    | zero =>
      intro i hi h
      refine zX2_nobodyBelow_2 ?_
      rw [em]
      first | with_reducible refine c_lt ?_ ?_ (fun z => ?_) (fun z => ?_) | with_reducible refine c_le ?_ ?_ (fun z => ?_) (fun z => ?_) | with_reducible refine c_eq ?_ ?_ (fun z => ?_) (fun z => ?_) | with_reducible refine c_ne ?_ ?_ (fun z => ?_) (fun z => ?_)
      · omega
      · omega
      · exact ⟨zb1, k 1 (Or.inl ⟨rfl, fun b hb => h b (by omega)⟩)⟩
      · omega
    | succ n ih =>
      intro i hi h
      have bi := hb i (by omega)
      refine zX2_nobodyBelow_2 ?_
      rw [em]
      first | with_reducible refine c_lt ?_ ?_ (fun z => ?_) (fun z => ?_) | with_reducible refine c_le ?_ ?_ (fun z => ?_) (fun z => ?_) | with_reducible refine c_eq ?_ ?_ (fun z => ?_) (fun z => ?_) | with_reducible refine c_ne ?_ ?_ (fun z => ?_) (fun z => ?_)
      · omega
      · omega
      · omega
      · refine s_inN ?_ (fun ea => ?_)
        · omega
        try simp only [ea]
        clear ea
        rw [hf i (by omega)]
        first | with_reducible refine l_gt ?_ ?_ (fun z2 => ?_) (fun z2 => ?_) | with_reducible refine l_lt ?_ ?_ (fun z2 => ?_) (fun z2 => ?_) | with_reducible refine l_ge ?_ ?_ (fun z2 => ?_) (fun z2 => ?_) | with_reducible refine l_le ?_ ?_ (fun z2 => ?_) (fun z2 => ?_) | with_reducible refine l_eq ?_ ?_ (fun z2 => ?_) (fun z2 => ?_) | with_reducible refine l_ne ?_ ?_ (fun z2 => ?_) (fun z2 => ?_)
        · omega
        · omega
        · rw [show (i : Int) + 1 = ((i + 1 : Nat) : Int) by omega]
          refine ih (i + 1) (by omega) (fun b hb2 => ?_)
          by_cases y : b = i
          · subst y; exact z2
          · exact h b (by omega)
        · exact ⟨zb0, k 0 (Or.inr ⟨rfl, fun q => by have := q i (by omega); omega⟩)⟩
  exact main m 0 (by omega) (fun b hb => absurd hb (Nat.not_lt_zero _))
def FtG (g c : mz_S) (co : Nat) (x : Int) (m n w : Nat) : Prop := ∀ p, p < 2 ^ n → g 85 (w * 64 + p) = pI (fitB c co x m n w p.testBit = true)
theorem p2 : ∀ n, n < 7 → 2 ^ n ≤ 64 := by decide
theorem sX2_foreseeWeek {T : Nat × (Nat → Int32)} {d : Nat} {Q : mz_K} {X : mz_X} {g : mz_S} {c : mz_S} {co m n w : Nat} {x : Int} (wl : WfL0 c) (wb : WfB c) (wx : WfX c) (wg : WfG c) (em : c 9 1 = (m : Int)) (hm : m ≤ 12) (hn : n ≤ 6) (hco : co < 4) (hw : 1 ≤ w ∧ w ≤ 4) (ok : okB c co x m n = true) (cg : Ch [79, 80, 81, 84, 85] [] c g) (h : DbG g c co x n) (k : ∀ g', Ch [84, 85] [] g g' → FtG g' c co x m n w → (∀ i, i < w * 64 → g' 85 i = g 85 i) → Q 0 g') : zC T (d + 3) 29 [mx_R 72, mx_I (co : Int), mx_I (n : Int), mx_I (w : Int)] g Q X := by
  have w0 := wl.1
  have wx1 := wx.1
  have hp2 := p2 n (by omega)
  refine zX2_foreseeWeek ?_
  -- all parts
  have parts : ∀ cc p : Nat, p + cc = 2 ^ n → ∀ G, Ch [84, 85] [] g G → BhG G m (fun b => hasV c co b w) → (∀ q, q < p → G 85 (w * 64 + q) = pI (fitB c co x m n w q.testBit = true)) → (∀ i, i < w * 64 → G 85 i = g 85 i) → aX2_foreseeWeek T (d + 2) Q X 126 [some (mx_R 72), some (mx_I (co : Int)), some (mx_I (n : Int)), some (mx_I (w : Int)), some (mx_I (p : Int))] [] G (0, 0) := by
    intro cc
    induction cc with
    | zero =>
      intro p hp G cG hB hG hL
      refine zX2_foreseeWeek_126 ?_
      rw [pow6 n (by omega)]
      first | with_reducible refine c_lt ?_ ?_ (fun z => ?_) (fun z => ?_) | with_reducible refine c_le ?_ ?_ (fun z => ?_) (fun z => ?_) | with_reducible refine c_eq ?_ ?_ (fun z => ?_) (fun z => ?_) | with_reducible refine c_ne ?_ ?_ (fun z => ?_) (fun z => ?_)
      · omega
      · omega
      · exact k G cG (fun q hq => hG q (by omega)) hL
      · omega
    | succ cc ih =>
      intro p hp G cG hB hG hL
      refine zX2_foreseeWeek_126 ?_
      rw [pow6 n (by omega)]
      first | with_reducible refine c_lt ?_ ?_ (fun z => ?_) (fun z => ?_) | with_reducible refine c_le ?_ ?_ (fun z => ?_) (fun z => ?_) | with_reducible refine c_eq ?_ ?_ (fun z => ?_) (fun z => ?_) | with_reducible refine c_ne ?_ ?_ (fun z => ?_) (fun z => ?_)
      · omega
      · omega
      · omega
      · refine sX2_settlePart (c := c) (m := m) (Or.inl rfl) hm hn (by omega) ok (h.fr cG (by decide)) hB (fun G1 c1 h1 => ?_)
        have c1g : Ch [84, 85] [] g G1 := cG.tr (c1.sub (by decide) (by decide))
        have em1 : G1 9 1 = (m : Int) := by rw [c1g.1 9 (by decide) (by decide), cg.1 9 (by decide) (by decide)]; exact em
        refine sX2_nobodyBelow (m := m) em1 hm h1 (fun b hb => ?_) (fun v hv => ?_)
        · have b1 := hasV_bnd wb wx (co := co) (b := b) hco (by omega) w
          have b2 := dlt_bnd wg hm hn hco ok p.testBit b
          omega
        · rw [fitIx w (by omega) p (by omega)]
          refine s_inN ?_ (fun ea => ?_)
          · omega
          try simp only [ea]
          clear ea
          refine ⟨by rcases hv with ⟨z, _⟩ | ⟨z, _⟩ <;> subst z <;> decide, ?_⟩
          intro G2 e2
          have c2 : Ch [84, 85] [] g G2 := by rw [e2]; exact c1g.up (by decide) (by decide)
          have h2 : BhG G2 m (fun b => hasV c co b w + 1 * dlt c co x n p.testBit b) := fun b hb => by rw [e2, up_q (by decide)]; exact h1 b hb
          refine sX2_settlePart (c := c) (m := m) (Or.inr rfl) hm hn (by omega) ok (h.fr c2 (by decide)) h2 (fun G3 c3 h3 => ?_)
          have v85 : ∀ i, G3 85 i = if i = w * 64 + p then v else G1 85 i := fun i => by
            rw [c3.1 85 (by decide) (by decide), e2]
            by_cases y : i = w * 64 + p
            · subst y; rw [up_s, if_pos rfl]
            · rw [up_i y, if_neg y]
          rw [show (p : Int) + 1 = ((p + 1 : Nat) : Int) by omega]
          refine ih (p + 1) (by omega) G3 (c2.tr (c3.sub (by decide) (by decide))) (fun b hb => by rw [h3 b hb]; simp only []; omega) (fun q hq => ?_) (fun i hi => ?_)
          · rw [v85]
            by_cases y : q = p
            · subst y
              rw [if_pos rfl]
              have e : fitB c co x m n w q.testBit = true ↔ ∀ b, b < m → 0 ≤ hasV c co b w + 1 * dlt c co x n q.testBit b := by
                rw [fitB_iff]
                constructor <;> intro z b hb <;> have := z b hb <;> omega
              rcases hv with ⟨z1, z2⟩ | ⟨z1, z2⟩
              · rw [z1, pI_t (e.mpr z2)]
              · rw [z1, pI_f (fun z => z2 (e.mp z))]
            · rw [if_neg (by omega), c1.1 85 (by decide) (by decide)]
              exact hG q (by omega)
          · rw [v85, if_neg (by omega), c1.1 85 (by decide) (by decide)]
            exact hL i hi
  -- what is expected
  have exps : ∀ cc i : Nat, (i : Int) + cc = c 72 4 → ∀ G, Ch [84, 85] [] g G → BhG G m (fun b => c 14 (b * 4 + co) + sumN (eX c (b : Int) (co : Int) 0 ((c 1 0).toNat + 7 * w + 1)) i) → G 85 = g 85 → aX2_foreseeWeek T (d + 2) Q X 42 [some (mx_R 72), some (mx_I (co : Int)), some (mx_I (n : Int)), some (mx_I (w : Int)), some (mx_I (i : Int))] [] G (0, 0) := by
    intro cc
    induction cc with
    | zero =>
      intro i hi G cG hB h85
      refine zX2_foreseeWeek_42 ?_
      rw [cG.1 72 (by decide) (by decide), cg.1 72 (by decide) (by decide)]
      first | with_reducible refine c_lt ?_ ?_ (fun z => ?_) (fun z => ?_) | with_reducible refine c_le ?_ ?_ (fun z => ?_) (fun z => ?_) | with_reducible refine c_eq ?_ ?_ (fun z => ?_) (fun z => ?_) | with_reducible refine c_ne ?_ ?_ (fun z => ?_) (fun z => ?_)
      · omega
      · omega
      · refine parts (2 ^ n) 0 (by omega) G cG (fun b hb => ?_) (fun q hq => absurd hq (Nat.not_lt_zero _)) (fun j _ => by rw [h85])
        rw [hB b hb]
        unfold hasV
        rw [show (c 72 4).toNat = i by omega]
      · omega
    | succ cc ih =>
      intro i hi G cG hB h85
      have wi := wx.2 i (by omega)
      have e : ∀ q ∈ [1, 72, 73, 74, 75, 76], G q = c q := fun q hq => by
        rw [cG.1 q (by simp at hq ⊢; omega) (by intro z; subst z; revert hq; decide), cg.1 q (by simp at hq ⊢; omega) (by intro z; subst z; revert hq; decide)]
      refine zX2_foreseeWeek_42 ?_
      rw [e 72 (by decide)]
      have nx : ∀ G2, Ch [84, 85] [] g G2 → BhG G2 m (fun b => c 14 (b * 4 + co) + sumN (eX c (b : Int) (co : Int) 0 ((c 1 0).toNat + 7 * w + 1)) (i + 1)) → G2 85 = g 85 → aX2_foreseeWeek T (d + 2) Q X 117 [some (mx_R 72), some (mx_I (co : Int)), some (mx_I (n : Int)), some (mx_I (w : Int)), some (mx_I (i : Int))] [] G2 (0, 0) := by
        intro G2 c2 h2 h3
        refine zX2_foreseeWeek_117 ?_
        rw [show (i : Int) + 1 = ((i + 1 : Nat) : Int) by omega]
        exact ih (i + 1) (by omega) G2 c2 h2 h3
      have ss : ∀ b : Nat, sumN (eX c (b : Int) (co : Int) 0 ((c 1 0).toNat + 7 * w + 1)) (i + 1) = sumN (eX c (b : Int) (co : Int) 0 ((c 1 0).toNat + 7 * w + 1)) i + eX c (b : Int) (co : Int) 0 ((c 1 0).toNat + 7 * w + 1) i := fun b => rfl
      have no : ¬ (c 74 i = (co : Int) ∧ c 1 0 ≤ c 75 i ∧ c 75 i ≤ c 1 0 + 7 * (w : Int)) → aX2_foreseeWeek T (d + 2) Q X 117 [some (mx_R 72), some (mx_I (co : Int)), some (mx_I (n : Int)), some (mx_I (w : Int)), some (mx_I (i : Int))] [] G (0, 0) := by
        intro z
        refine nx G cG (fun b hb => ?_) h85
        have hB : ∀ b, b < m → G 84 b = c 14 (b * 4 + co) + sumN (eX c (b : Int) (co : Int) 0 ((c 1 0).toNat + 7 * w + 1)) i := hB
        show G 84 b = c 14 (b * 4 + co) + sumN (eX c (b : Int) (co : Int) 0 ((c 1 0).toNat + 7 * w + 1)) (i + 1)
        rw [hB b hb, ss]
        have : eX c (b : Int) (co : Int) 0 ((c 1 0).toNat + 7 * w + 1) i = 0 := by unfold eX; rw [if_neg (by omega)]
        rw [this]; omega
      first | with_reducible refine c_lt ?_ ?_ (fun z => ?_) (fun z => ?_) | with_reducible refine c_le ?_ ?_ (fun z => ?_) (fun z => ?_) | with_reducible refine c_eq ?_ ?_ (fun z => ?_) (fun z => ?_) | with_reducible refine c_ne ?_ ?_ (fun z => ?_) (fun z => ?_)
      · omega
      · omega
      · omega
      · refine s_inN ?_ (fun ea => ?_)
        · omega
        try simp only [ea]
        clear ea
        rw [e 74 (by decide)]
        first | with_reducible refine c_lt ?_ ?_ (fun z1 => ?_) (fun z1 => ?_) | with_reducible refine c_le ?_ ?_ (fun z1 => ?_) (fun z1 => ?_) | with_reducible refine c_eq ?_ ?_ (fun z1 => ?_) (fun z1 => ?_) | with_reducible refine c_ne ?_ ?_ (fun z1 => ?_) (fun z1 => ?_)
        · omega
        · omega
        · exact no (fun q => z1 q.1)
        · refine s_inN ?_ (fun ea => ?_)
          · omega
          try simp only [ea]
          clear ea
          rw [e 75 (by decide), e 1 (by decide)]
          refine sX11_within (by omega) (by omega) (by omega) ?_
          first | with_reducible refine b_eq (fun z2 => ?_) (fun z2 => ?_) | with_reducible refine b_ne (fun z2 => ?_) (fun z2 => ?_)
          · exact no (fun q => z2 q.2)
          · refine s_inN ?_ (fun ea => ?_)
            · omega
            try simp only [ea]
            clear ea
            rw [e 73 (by decide)]
            refine s_in (by omega) (fun ea => ?_)
            rw [ea]
            refine s_inN ?_ (fun ea => ?_)
            · omega
            try simp only [ea]
            clear ea
            rw [e 76 (by decide), w32_of (n := c 76 i) (by omega) (by omega)]
            refine s_in (by omega) (fun _ => ?_)
            intro G2 e2
            refine nx G2 (by rw [e2]; exact cG.up (by decide) (by decide)) (fun b hb => ?_) (by rw [e2, up_at, if_neg (by decide)]; exact h85)
            have hB : ∀ b, b < m → G 84 b = c 14 (b * 4 + co) + sumN (eX c (b : Int) (co : Int) 0 ((c 1 0).toNat + 7 * w + 1)) i := hB
            show G2 84 b = c 14 (b * 4 + co) + sumN (eX c (b : Int) (co : Int) 0 ((c 1 0).toNat + 7 * w + 1)) (i + 1)
            rw [ss, e2]
            by_cases y : b = (c 73 i).toNat
            · have : eX c (b : Int) (co : Int) 0 ((c 1 0).toNat + 7 * w + 1) i = c 76 i := by
                unfold eX
                rw [if_pos (by omega)]
                unfold exV
                rw [if_pos rfl]
              rw [← y, up_s, hB b hb, this]
              omega
            · have : eX c (b : Int) (co : Int) 0 ((c 1 0).toNat + 7 * w + 1) i = 0 := by unfold eX; rw [if_neg (by omega)]
              rw [up_i y, hB b hb, this]
              omega
  -- the drawers
  have drw : ∀ cc i : Nat, i + cc = m → ∀ G, Ch [84, 85] [] g G → (∀ b, b < i → G 84 b = c 14 (b * 4 + co)) → G 85 = g 85 → aX2_foreseeWeek T (d + 2) Q X 3 [some (mx_R 72), some (mx_I (co : Int)), some (mx_I (n : Int)), some (mx_I (w : Int)), some (mx_I (i : Int))] [] G (0, 0) := by
    intro cc
    induction cc with
    | zero =>
      intro i hi G cG hB h85
      refine zX2_foreseeWeek_3 ?_
      rw [cG.1 9 (by decide) (by decide), cg.1 9 (by decide) (by decide), em]
      first | with_reducible refine c_lt ?_ ?_ (fun z => ?_) (fun z => ?_) | with_reducible refine c_le ?_ ?_ (fun z => ?_) (fun z => ?_) | with_reducible refine c_eq ?_ ?_ (fun z => ?_) (fun z => ?_) | with_reducible refine c_ne ?_ ?_ (fun z => ?_) (fun z => ?_)
      · omega
      · omega
      · exact exps (c 72 4).toNat 0 (by omega) G cG (fun b hb => by rw [hB b (by omega)]; show _ = _ + (0 : Int); omega) h85
      · omega
    | succ cc ih =>
      intro i hi G cG hB h85
      have o := wb.2.2 (i * 4 + co) (by omega)
      refine zX2_foreseeWeek_3 ?_
      rw [cG.1 9 (by decide) (by decide), cg.1 9 (by decide) (by decide), em]
      first | with_reducible refine c_lt ?_ ?_ (fun z => ?_) (fun z => ?_) | with_reducible refine c_le ?_ ?_ (fun z => ?_) (fun z => ?_) | with_reducible refine c_eq ?_ ?_ (fun z => ?_) (fun z => ?_) | with_reducible refine c_ne ?_ ?_ (fun z => ?_) (fun z => ?_)
      · omega
      · omega
      · omega
      · refine sX0_has (by omega) (by omega) ?_
        rw [cG.1 14 (by decide) (by decide), cg.1 14 (by decide) (by decide), show ((i : Int) * 4 + (co : Int)).toNat = i * 4 + co by omega, w32_of (n := c 14 (i * 4 + co)) (by omega) (by omega)]
        refine s_inN ?_ (fun ea => ?_)
        · omega
        try simp only [ea]
        clear ea
        intro G2 e2
        rw [show (i : Int) + 1 = ((i + 1 : Nat) : Int) by omega]
        refine ih (i + 1) (by omega) G2 (by rw [e2]; exact cG.up (by decide) (by decide)) (fun b hb => ?_) (by rw [e2, up_at, if_neg (by decide)]; exact h85)
        rw [e2]
        by_cases y : b = i
        · subst y; rw [up_s]
        · rw [up_i y]; exact hB b (by omega)
  exact drw m 0 (by omega) g (Ch.rf g) (fun b hb => absurd hb (Nat.not_lt_zero _)) rfl
