/-! a whole text, as the class reads it -/
theorem sX7_kindP {T : Nat × (Nat → Int32)} {d : Nat} {Q : mz_K} {X : mz_X} {g : mz_S} {N : Nat} {s : pS} (hW : TkW g N) (h : RdP N s g) (k : Q (pk (tokC g N) s) g) : zC T (d + 1) 94 [mx_R 31] g Q X := by
  obtain ⟨h3, h4, h5, h10, h9⟩ := h
  obtain ⟨w1, e26, w3, w4⟩ := hW
  unfold pk at k
  refine zX7_kind ?_
  rw [h3, h4, e26]
  first | with_reducible refine c_lt ?_ ?_ (fun z1 => ?_) (fun z1 => ?_) | with_reducible refine c_le ?_ ?_ (fun z1 => ?_) (fun z1 => ?_) | with_reducible refine c_eq ?_ ?_ (fun z1 => ?_) (fun z1 => ?_) | with_reducible refine c_ne ?_ ?_ (fun z1 => ?_) (fun z1 => ?_)
  · omega
  · omega
  · rw [if_neg z1] at k
    exact zX7_kind_36 (zX7_kind_39 k)
  · rw [if_pos z1] at k
    have e : (tokC g N).1 s.1 = g 28 s.1 := by
      show (if s.1 < N then g 28 s.1 else 155) = _
      rw [if_pos h10]
    rw [e] at k
    first | with_reducible refine c_lt ?_ ?_ (fun z2 => ?_) (fun z2 => ?_) | with_reducible refine c_le ?_ ?_ (fun z2 => ?_) (fun z2 => ?_) | with_reducible refine c_eq ?_ ?_ (fun z2 => ?_) (fun z2 => ?_) | with_reducible refine c_ne ?_ ?_ (fun z2 => ?_) (fun z2 => ?_)
    · omega
    · omega
    · omega
    · refine s_inN ?_ (fun ea => ?_)
      · omega
      try simp only [ea]
      clear ea
      exact zX7_kind_39 k
theorem phead_c {t : pT} {k : Nat} {s : pS} (h : s.2.1 = 0) : (phead t k s = s ∧ k ≠ 24) ∨ ¬ (phead t k s).2.1 = 0 := by
  unfold phead
  split
  · exact Or.inr (ft_fail (by decide))
  · split
    · exact Or.inr (ft_fail (by decide))
    · next z => exact Or.inl ⟨rfl, z⟩
theorem RdC.p {c : mz_S} {N b : Nat} {s : pS} {g : mz_S} (h : RdC c N b s g) : RdP N s g := ⟨h.2.2.1, h.2.2.2.1, h.2.2.2.2.1, h.2.2.2.2.2.2.2.2.2, h.2.2.2.2.2.2.2.2.1⟩
theorem sX7_readLine {T : Nat × (Nat → Int32)} {d : Nat} {Q : mz_K} {X : mz_X} {g : mz_S} {N b b0 l kk : Nat} {s : pS} (hW : TkW g N) (h : RdC g N b s g) (h0 : s.2.2.2 = []) (hft : s.2.1 = 0) (el : g 31 4 = l) (hl : kk < 24 → l < 144) (hl2 : l ≤ 144) (hk : kk ≤ 24) (hb0 : b0 ≤ 2000) (hb : b ≤ b0 + s.1) (hd : 170 ≤ d)
    (k1 : ¬ (phead (tokC g N) kk s).2.1 = 0 → ∀ g', RdC g N b (phead (tokC g N) kk s) g' → Q 0 g')
    (k2 : phead (tokC g N) kk s = s → kk ≠ 24 → ∀ g', LineF g g' l b → g' 31 4 = l + 1 → RdP N (pbody (tokC g N) s).2 g' → ((pbody (tokC g N) s).2.2.1 = 0 → LnC g' l (pbody (tokC g N) s).1 b ∧ g' 31 11 = ((b + (pbody (tokC g N) s).1.2.2.2.1.length + (pbody (tokC g N) s).1.2.2.2.2.length : Nat) : Int)) → Q 0 g') : zC T (d + 1) 98 [mx_R 31, mx_I (kk : Int)] g Q X := by
  have hN := hW.pN
  have hsN := h.2.2.2.2.2.2.2.2.2
  have hr := pk_rng hW hsN
  have hn1 := hW.1
  obtain ⟨d, rfl⟩ : ∃ d', d = d' + 3 := ⟨d - 3, by omega⟩
  have bad : ∀ g', ¬ (phead (tokC g N) kk s).2.1 = 0 → RdC g N b (phead (tokC g N) kk s) g' → aX7_readLine T (d + 3) Q X 39 [some (mx_R 31), some (mx_I (kk : Int)), none] [] g' (0, 0) := by
    intro g' z hg'
    refine zX7_readLine_39 ?_
    have h4 : g' 31 2 = (phead (tokC g N) kk s).2.1 := hg'.2.2.2.1
    have h9 := hg'.2.2.2.2.2.2.2.2.1
    rw [h4]
    first | with_reducible refine c_lt ?_ ?_ (fun y => ?_) (fun y => ?_) | with_reducible refine c_le ?_ ?_ (fun y => ?_) (fun y => ?_) | with_reducible refine c_eq ?_ ?_ (fun y => ?_) (fun y => ?_) | with_reducible refine c_ne ?_ ?_ (fun y => ?_) (fun y => ?_)
    · omega
    · omega
    · exact zX7_readLine_60 (k1 z g' hg')
    · exact absurd y z
  have good : phead (tokC g N) kk s = s → kk ≠ 24 → aX7_readLine T (d + 3) Q X 39 [some (mx_R 31), some (mx_I (kk : Int)), none] [] g (0, 0) := by
    intro z z24
    have hl := hl (by omega)
    have k2 := k2 z z24
    unfold pbody at k2
    refine zX7_readLine_39 ?_
    have h4 : g 31 2 = s.2.1 := h.2.2.2.1
    rw [h4, hft, el]
    refine ⟨fun z => absurd rfl z, fun _ => ?_⟩
    first | with_reducible refine c_lt ?_ ?_ (fun y => ?_) (fun y => ?_) | with_reducible refine c_le ?_ ?_ (fun y => ?_) (fun y => ?_) | with_reducible refine c_eq ?_ ?_ (fun y => ?_) (fun y => ?_) | with_reducible refine c_ne ?_ ?_ (fun y => ?_) (fun y => ?_)
    · omega
    · omega
    · refine s_inN ?_ (fun ea => ?_)
      · omega
      try simp only [ea]
      clear ea
      intro gA eA
      have fA : LineF g gA l b := by rw [eA]; exact (LineF.rf g l b).up (by decide) _
      have qA : ∀ q, q ≠ 33 → gA q = g q := fun q hq => by rw [eA, up_at, if_neg hq]
      have rA : RdC gA N b s gA := h.re h0 (qA 31 (by decide))
      obtain ⟨hWA, tA⟩ := fA.tk hW
      refine sX7_kind hWA rA ?_
      rw [tA]
      unfold pnumb at k2
      first | with_reducible refine c_lt ?_ ?_ (fun y2 => ?_) (fun y2 => ?_) | with_reducible refine c_le ?_ ?_ (fun y2 => ?_) (fun y2 => ?_) | with_reducible refine c_eq ?_ ?_ (fun y2 => ?_) (fun y2 => ?_) | with_reducible refine c_ne ?_ ?_ (fun y2 => ?_) (fun y2 => ?_)
      · omega
      · omega
      · rw [if_neg y2] at k2
        refine rl_94 hWA rA h0 (by rw [qA 31 (by decide)]; exact el) hl hb0 hb (by omega) (fun g' f' e4 rp v33 ln => ?_)
        rw [tA] at rp ln
        have v0 : gA 33 l = 0 := by rw [eA, up_s]
        rw [v0] at ln
        exact k2 g' (fA.tr f' (Nat.le_refl _)) e4 rp ln
      · rw [if_pos y2] at k2
        refine sX7_readNumber hWA rA (fun gB rB => ?_)
        rw [tA] at rB ⊢
        have fB : LineF g gB l b := fA.tr rB.line (Nat.le_refl _)
        refine s_inN ?_ (fun ea => ?_)
        · omega
        try simp only [ea]
        clear ea
        intro gC eC
        have fC : LineF g gC l b := by rw [eC]; exact fB.up (by decide) _
        have qC : ∀ q, q ≠ 33 → gC q = gB q := fun q hq => by rw [eC, up_at, if_neg hq]
        obtain ⟨hWC, tC⟩ := fC.tk hW
        have rC : RdC gC N b (pnum (tokC g N) s).2 gC := rB.re (by rw [pr_num]; exact h0) (qC 31 (by decide))
        refine sX7_take hWC rC (by omega) (fun gD rD => ?_)
        rw [tC] at rD
        have fD : LineF g gD l b := fC.tr rD.line (Nat.le_refl _)
        obtain ⟨hWD, tD⟩ := fD.tk hW
        have p0 : (ptake (tokC g N) 58 (pnum (tokC g N) s).2).2.2.2 = [] := by rw [pr_take, pr_num]; exact h0
        have rD' := rD.re p0 (c' := gD) rfl
        have gr := ((pG.num hN (s := s)).1.tr (pG.take hN (k := 58) (by decide))).1
        have e4' : gD 31 4 = l := by
          rw [rD.2.1 4 (by decide) (by decide) (by decide) (by decide), qC 31 (by decide), rB.2.1 4 (by decide) (by decide) (by decide) (by decide), qA 31 (by decide)]; exact el
        refine rl_94 hWD rD' p0 e4' hl hb0 (by omega) (by omega) (fun g' f' e4 rp v33 ln => ?_)
        rw [tD] at rp ln
        have v0 : gD 33 l = (pnum (tokC g N) s).1 := by rw [rD.1.1 33 (by decide) (by decide), eC, up_s]
        rw [v0] at ln
        exact k2 g' (fD.tr f' (Nat.le_refl _)) e4 rp ln
    · omega
  have at28 : (pk (tokC g N) s = 154 ∨ (128 ≤ pk (tokC g N) s ∧ pk (tokC g N) s ≤ 135)) → aX7_readLine T (d + 3) Q X 28 [some (mx_R 31), some (mx_I (kk : Int)), none] [] g (0, 0) := by
    intro z
    have e : phead (tokC g N) kk s = if kk = 24 then pfail (tokC g N) 3 s else s := by unfold phead; rw [if_neg (by omega)]
    refine zX7_readLine_28 ?_
    first | with_reducible refine c_lt ?_ ?_ (fun y => ?_) (fun y => ?_) | with_reducible refine c_le ?_ ?_ (fun y => ?_) (fun y => ?_) | with_reducible refine c_eq ?_ ?_ (fun y => ?_) (fun y => ?_) | with_reducible refine c_ne ?_ ?_ (fun y => ?_) (fun y => ?_)
    · omega
    · omega
    · exact good (by rw [e, if_neg (by omega)]) (by omega)
    · rw [if_pos (by omega)] at e
      refine sX7_fail hW h (by omega) (fun g' hg' => ?_)
      refine bad g' ?_ (by rw [e]; exact hg')
      rw [e]; exact ft_fail (by decide)
  refine zX7_readLine (sX7_kind hW h ?_)
  first | with_reducible refine c_lt ?_ ?_ (fun z1 => ?_) (fun z1 => ?_) | with_reducible refine c_le ?_ ?_ (fun z1 => ?_) (fun z1 => ?_) | with_reducible refine c_eq ?_ ?_ (fun z1 => ?_) (fun z1 => ?_) | with_reducible refine c_ne ?_ ?_ (fun z1 => ?_) (fun z1 => ?_)
  · omega
  · omega
  · exact at28 (Or.inl z1)
  · refine sX7_kind hW h (sX7_isSaying (by omega) ?_)
    first | with_reducible refine b_eq (fun z2 => ?_) (fun z2 => ?_) | with_reducible refine b_ne (fun z2 => ?_) (fun z2 => ?_)
    · exact at28 (Or.inr z2)
    · have e : phead (tokC g N) kk s = pfail (tokC g N) 2 s := by unfold phead; rw [if_pos ⟨z1, z2⟩]
      refine sX7_fail hW h (by omega) (fun g' hg' => ?_)
      refine bad g' ?_ (by rw [e]; exact hg')
      rw [e]; exact ft_fail (by decide)
/-- line by line -/
def pgo (t : pT) : Nat → Nat → pS → List pA → pS × List pA
  | 0, _, s, ls => (s, ls)
  | f + 1, k, s, ls => if pk t s = 155 then (s, ls) else if (phead t k s).2.1 = 0 then pgo t f (k + 1) (pre0 (pbody t s).2) (ls ++ [(pbody t s).1]) else (phead t k s, ls)
def TextF (G G' : mz_S) (L B : Nat) : Prop := Ch [31, 32, 33, 34, 35, 36, 37, 38] [] G G' ∧ (∀ q ∈ [32, 33, 34, 35, 36, 37], ∀ i, i < L → G' q i = G q i) ∧ ∀ i, i < B → G' 38 i = G 38 i
def LnsC (g : mz_S) (L b : Nat) (ls : List pA) : Prop := ∀ j, j < ls.length → ∃ a, LnC g (L + j) (ls.getD j (0, 0, 0, [], [])) a ∧ a + (ls.getD j (0, 0, 0, [], [])).2.2.2.1.length + (ls.getD j (0, 0, 0, [], [])).2.2.2.2.length ≤ b
theorem LnC.fr {g g' : mz_S} {l b a : Nat} {al : pA} (h : LnC g l al a) (hq : ∀ q ∈ [32, 33, 34, 35, 36, 37], g' q l = g q l) (hc : ∀ i, i < b → g' 38 i = g 38 i) (hb : a + al.2.2.2.1.length + al.2.2.2.2.length ≤ b) : LnC g' l al a := by
  obtain ⟨h1, h2, h3, h4, h5, h6, h7, h8⟩ := h
  refine ⟨?_, ?_, ?_, ?_, ?_, ?_, fun i hi => ?_, fun i hi => ?_⟩
  · rw [hq 35 (by decide)]; exact h1
  · rw [hq 36 (by decide)]; exact h2
  · rw [hq 37 (by decide)]; exact h3
  · rw [hq 33 (by decide)]; exact h4
  · rw [hq 32 (by decide)]; exact h5
  · rw [hq 34 (by decide)]; exact h6
  · rw [hc _ (by omega)]; exact h7 i hi
  · rw [hc _ (by omega)]; exact h8 i hi
theorem RdP.c {N b : Nat} {s : pS} {g : mz_S} (h : RdP N s g) (h0 : s.2.2.2 = []) (e : g 31 11 = b) : RdC g N b s g := by
  obtain ⟨a1, a2, a3, a4, a5⟩ := h
  refine ⟨Ch.rf g, fun _ _ _ _ _ => rfl, a1, a2, a3, ?_, fun _ _ => rfl, fun i hi => ?_, a5, a4⟩
  · rw [e, h0]; simp
  · rw [h0] at hi; exact absurd hi (Nat.not_lt_zero _)
theorem body_L {t : pT} {N : Nat} (hN : pN t N) {s : pS} (h0 : s.2.2.2 = []) : (pbody t s).1.2.2.2.1.length + (pbody t s).1.2.2.2.2.length + s.1 ≤ (pbody t s).2.1 ∧ s.1 ≤ (pbody t s).2.1 ∧ (s.1 < N → (pbody t s).2.1 < N) := by
  have A : pL 0 s (pnumb t s).2 ∧ pG N s (pnumb t s).2 ∧ (pnumb t s).2.2.2.2 = [] := by
    unfold pnumb
    split
    · have B := pG.num hN (s := s)
      exact ⟨B.2.tr pL.take, B.1.tr (pG.take hN (by decide)), by show (ptake t 58 (pnum t s).2).2.2.2 = []; rw [pr_take, pr_num]; exact h0⟩
    · exact ⟨Nat.le_refl _, pG.rf N s, h0⟩
  have S : ∀ s : pS, pL 0 s (psay t s).2.2 ∧ pG N s (psay t s).2.2 := by
    intro s
    unfold psay
    split
    · next z =>
      have A := pL.adv (s := s)
      have GA := pG.adv hN (s := s) (by omega)
      split
      · have B := pG.num hN (s := padv s)
        exact ⟨(A.tr B.2).weak, GA.tr B.1⟩
      · split
        · exact ⟨A.emit, GA.tr pG.emit⟩
        · split
          · have B := pG.cho hN (a := 148) (b := 147) (c := 147) (by omega) (by omega) (by omega) (s := padv s)
            exact ⟨(A.tr B.2.1).emit, (GA.tr B.1).tr pG.emit⟩
          · split
            · have B := pG.cho hN (a := 140) (b := 145) (c := 146) (by omega) (by omega) (by omega) (s := padv s)
              exact ⟨((A.tr B.2.1).tr (prs_L t pF 4 (by decide) 0 _)).weak, (GA.tr B.1).tr (prs_G hN pF 4 (by decide) 0 _)⟩
            · exact ⟨(A.tr (prs_L t pF 4 (by decide) 0 _)).weak, GA.tr (prs_G hN pF 4 (by decide) 0 _)⟩
    · exact ⟨pL.fail, pG.fail⟩
  have E : ∀ s : pS, pL 0 s (ptest t s) ∧ pG N s (ptest t s) := by
    intro s
    unfold ptest
    split
    · next z => exact ⟨((pL.adv (s := s)).tr (prs_L t pF 9 (by decide) 0 _)).weak, (pG.adv hN (s := s) (by omega)).tr (prs_G hN pF 9 (by decide) 0 _)⟩
    · exact ⟨Nat.le_refl _, pG.rf N s⟩
  have B := S (pnumb t s).2
  have C := E (pre0 (psay t (pnumb t s).2).2.2)
  have D : pL 0 (ptest t (pre0 (psay t (pnumb t s).2).2.2)) (ptake t 59 (ptest t (pre0 (psay t (pnumb t s).2).2.2))) ∧ pG N (ptest t (pre0 (psay t (pnumb t s).2).2.2)) (ptake t 59 (ptest t (pre0 (psay t (pnumb t s).2).2.2))) := ⟨pL.take, pG.take hN (by decide)⟩
  have A1 := A.1
  have B1 := B.1
  have C1 := C.1
  have A2 := A.2.1.1
  have B2 := B.2.1
  have C2 := C.2.1
  have D2 := D.2.1
  have A3 := A.2.1.2.1
  have B3 := B.2.2.1
  have C3 := C.2.2.1
  have D3 := D.2.2.1
  unfold pL at A1 B1 C1
  rw [A.2.2] at B1
  have e0 : ([] : List (Int × Int)).length = 0 := rfl
  have e1 : (pre0 (psay t (pnumb t s).2).2.2).1 = (psay t (pnumb t s).2).2.2.1 := rfl
  have e2 : (pre0 (psay t (pnumb t s).2).2.2).2.2.2 = [] := rfl
  rw [e1, e2] at C1
  rw [e1] at C2 C3
  unfold pbody
  show (psay t (pnumb t s).2).2.2.2.2.2.length + (ptest t (pre0 (psay t (pnumb t s).2).2.2)).2.2.2.length + s.1 ≤ (ptake t 59 (ptest t (pre0 (psay t (pnumb t s).2).2.2))).1 ∧ s.1 ≤ (ptake t 59 (ptest t (pre0 (psay t (pnumb t s).2).2.2))).1 ∧ (s.1 < N → (ptake t 59 (ptest t (pre0 (psay t (pnumb t s).2).2.2))).1 < N)
  refine ⟨by omega, by omega, fun z => ?_⟩
  exact D3 (C3 (B3 (A3 z)))
