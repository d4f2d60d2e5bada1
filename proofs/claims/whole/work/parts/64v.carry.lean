/-! a fall comes to be: the class -/
theorem sX10_stopAllOf {T : Nat × (Nat → Int32)} {d : Nat} {Q : mz_K} {X : mz_X} {g : mz_S} {y : Nat} (wl : WfL0 g) (wb : WfB g) (w : WfW g) (hy : y < 12) (k : ∀ g', Ch [55] [] g g' → (∀ i : Nat, (i : Int) < g 48 4 → g' 55 i = if g 49 i = (y : Int) then stV g i y (g 1 0) else g 55 i) → (∀ i : Nat, ¬ (i : Int) < g 48 4 → g' 55 i = g 55 i) → Q 0 g') : zC T (d + 4) 143 [mx_R 48, mx_I (y : Int)] g Q X := by
  have hb := wb.1
  have hw := w.1
  obtain ⟨N, eN⟩ := Int.eq_ofNat_of_zero_le hw.1
  refine zX10_stopAllOf ?_
  have main : ∀ b t : Nat, t + b = N → ∀ G, Ch [55] [] g G → (∀ i : Nat, i < t → G 55 i = if g 49 i = (y : Int) then stV g i y (g 1 0) else g 55 i) → (∀ i : Nat, t ≤ i → G 55 i = g 55 i) → aX10_stopAllOf T (d + 3) Q X 2 [some (mx_R 48), some (mx_I (y : Int)), some (mx_I (t : Int))] [] G (0, 0) := by
    intro b
    induction b with
    | zero =>
      intro t ht G cG h1 h2
      refine zX10_stopAllOf_2 ?_
      rw [cG.1 48 (by decide) (by decide), eN]
      first | with_reducible refine c_lt ?_ ?_ (fun z => ?_) (fun z => ?_) | with_reducible refine c_le ?_ ?_ (fun z => ?_) (fun z => ?_) | with_reducible refine c_eq ?_ ?_ (fun z => ?_) (fun z => ?_) | with_reducible refine c_ne ?_ ?_ (fun z => ?_) (fun z => ?_)
      · omega
      · omega
      · exact k G cG (fun i hi => h1 i (by omega)) (fun i hi => h2 i (by omega))
      · omega
    | succ b ih =>
      intro t ht G cG h1 h2
      have wd := w.2.1 t (by omega)
      have p49 := wd.1
      have p50 := wd.2.1
      have p56 := wd.2.2.2.2.2.2.2.1
      refine zX10_stopAllOf_2 ?_
      rw [cG.1 48 (by decide) (by decide), eN]
      first | with_reducible refine c_lt ?_ ?_ (fun z => ?_) (fun z => ?_) | with_reducible refine c_le ?_ ?_ (fun z => ?_) (fun z => ?_) | with_reducible refine c_eq ?_ ?_ (fun z => ?_) (fun z => ?_) | with_reducible refine c_ne ?_ ?_ (fun z => ?_) (fun z => ?_)
      · omega
      · omega
      · omega
      · refine s_inN ?_ (fun ea => ?_)
        · omega
        try simp only [ea]
        clear ea
        rw [cG.1 49 (by decide) (by decide)]
        first | with_reducible refine c_lt ?_ ?_ (fun q => ?_) (fun q => ?_) | with_reducible refine c_le ?_ ?_ (fun q => ?_) (fun q => ?_) | with_reducible refine c_eq ?_ ?_ (fun q => ?_) (fun q => ?_) | with_reducible refine c_ne ?_ ?_ (fun q => ?_) (fun q => ?_)
        · omega
        · omega
        · refine zX10_stopAllOf_33 ?_
          rw [show (t : Int) + 1 = ((t + 1 : Nat) : Int) by omega]
          refine ih (t + 1) (by omega) G cG (fun i hi => ?_) (fun i hi => h2 i (by omega))
          by_cases e : i = t
          · rw [e, if_neg q]; exact h2 t (Nat.le_refl _)
          · exact h1 i (by omega)
        · refine sX10_stopWH (d := d) (wl.ch cG (by decide)) (wb.ch cG (by decide)) (by omega) (by rw [cG.1 50 (by decide) (by decide)]; omega) (by rw [cG.1 56 (by decide) (by decide)]; omega) hy ?_
          have es : stV G t y (G 1 0) = stV g t y (g 1 0) := by
            unfold stV
            rw [cG.1 1 (by decide) (by decide), cG.1 3 (by decide) (by decide), cG.1 10 (by decide) (by decide), cG.1 50 (by decide) (by decide), cG.1 56 (by decide) (by decide), h2 t (Nat.le_refl _)]
          rw [es]
          refine zX10_stopAllOf_33 ?_
          rw [show (t : Int) + 1 = ((t + 1 : Nat) : Int) by omega]
          refine ih (t + 1) (by omega) _ (cG.up (by decide) (by decide)) (fun i hi => ?_) (fun i hi => ?_)
          · by_cases e : i = t
            · rw [e, up_s, if_pos (by omega)]
            · rw [up_i e]; exact h1 i (by omega)
          · rw [up_i (by omega)]; exact h2 i (by omega)
  rw [show (0 : Int) = ((0 : Nat) : Int) from rfl]
  exact main N 0 (by omega) g (Ch.rf g) (fun i hi => absurd hi (Nat.not_lt_zero i)) (fun _ _ => rfl)
def fd0 (c : mz_S) (y x : Nat) : Int := if x = y then 0 else c 14 (x * 4)
def fd1 (c : mz_S) (nt : Nat) (al : Nat → List pA) (m y x : Nat) : Int := if 0 < faS c nt al m y x then min 10000000 (fd0 c y x + faS c nt al m y x) else fd0 c y x
def fd2 (c : mz_S) (nt : Nat) (al : Nat → List pA) (m y x : Nat) : Int := min 10000000 (fd1 c nt al m y x - faB c nt al m y x)
def fd3 (c : mz_S) (nt : Nat) (al : Nat → List pA) (m y x : Nat) : Int := if 0 < faA c nt al m y x then min 10000000 (fd2 c nt al m y x + faA c nt al m y x) else fd2 c nt al m y x
theorem fd_bnd {c : mz_S} {nt m y : Nat} {al : Nat → List pA} (wl : WfL0 c) (wb : WfB c) (ie : IE c) (em : c 9 1 = (m : Int)) (hy : y < m) : ∀ x, x < m → (0 ≤ fd0 c y x ∧ fd0 c y x ≤ 10000000) ∧ (0 ≤ fd1 c nt al m y x ∧ fd1 c nt al m y x ≤ 10000000) ∧ (0 ≤ fd1 c nt al m y x - faB c nt al m y x ∧ fd1 c nt al m y x - faB c nt al m y x ≤ 10000000) ∧ (0 ≤ fd2 c nt al m y x ∧ fd2 c nt al m y x ≤ 10000000) ∧ (0 ≤ fd3 c nt al m y x ∧ fd3 c nt al m y x ≤ 10000000) := by
  have hw := wb.1
  obtain ⟨bS, bM, bT, bH, bP, bB, bU⟩ := fa_bnd (nt := nt) (al := al) wl wb ie em hy
  have bA := faA_bnd (nt := nt) (al := al) wl wb ie em hy
  intro x hx
  have o := wb.2.2 (x * 4) (by omega)
  have s := bS x hx
  have bb := bB x hx
  have a := bA x hx
  have f0 : 0 ≤ fd0 c y x ∧ fd0 c y x ≤ 10000000 := by
    unfold fd0
    split <;> omega
  have f1 : 0 ≤ fd1 c nt al m y x ∧ fd1 c nt al m y x ≤ 10000000 := by
    unfold fd1
    split <;> omega
  have le : faB c nt al m y x ≤ fd1 c nt al m y x := by
    by_cases q : faK c m y x = true
    · have h : x ≠ y := by
        unfold faK at q
        rw [decide_eq_true_iff] at q
        exact q.2.1
      have eB : faB c nt al m y x = min (faE c nt al m y) (min 10000000 (c 14 (x * 4) + faS c nt al m y x)) := by unfold faB; rw [if_pos q]
      have e0 : fd0 c y x = c 14 (x * 4) := by unfold fd0; rw [if_neg h]
      unfold fd1
      rw [e0]
      split <;> omega
    · have : faB c nt al m y x = 0 := by unfold faB; rw [if_neg q]
      omega
  have f2 : 0 ≤ fd2 c nt al m y x ∧ fd2 c nt al m y x ≤ 10000000 := by unfold fd2; omega
  refine ⟨f0, f1, by omega, f2, ?_⟩
  unfold fd3
  split <;> omega
theorem faS_le {c : mz_S} {nt m y : Nat} {al : Nat → List pA} (wl : WfL0 c) (wb : WfB c) (hy : y < 12) : ∀ x, x < m → faS c nt al m y x ≤ 400000000 := fun x hx => by
  have bdw := dworthC_bnd wl wb hy
  have := shF_leL (due := claimC c y) (rk := rkF c nt al y) (m := m) 12 (L := dworthC c y) (W := crB c m (dnF c m) y) bdw.1 (fun x _ h => (crB_iff.mp h).2.2) x hx
  have e : faS c nt al m y x = shF (claimC c y) (rkF c nt al y) m 12 (dworthC c y) (crB c m (dnF c m) y) x := rfl
  omega
abbrev caS : List Nat := [13, 14, 15, 16, 17, 18, 19, 20, 21, 22, 23, 55, 86]
theorem sX4_carryOut {T : Nat × (Nat → Int32)} {d : Nat} {Q : mz_K} {X : mz_X} {g : mz_S} {c b : mz_S} {nt m y : Nat} {al : Nat → List pA} {W : Int} {E : Nat → mvE} (wlc : WfL0 c) (wb : WfB c) (ie : IE c) (ww : WfW c) (em : c 9 1 = (m : Int)) (hy : y < m) (es : ES c W g) (hS : ∀ x, x < m → g 91 x = faS c nt al m y x ∧ g 92 x = faB c nt al m y x ∧ g 93 x = faA c nt al m y x) (h14 : g 86 14 = faT c nt al m y) (hE4 : ∀ x, x < m → 0 < faS c nt al m y x → E (cntP (faS c nt al m y) x) = (y, x, -(faS c nt al m y x), 4, c 10 y)) (hE5 : ∀ x, x < m → 0 < faA c nt al m y x → E (cntP (faS c nt al m y) m + cntP (faA c nt al m y) x) = (y, x, -(faA c nt al m y x), 5, c 10 y)) (hroom : 0 ≤ b 15 2 ∧ b 15 2 + ((cntP (faS c nt al m y) m + cntP (faA c nt al m y) m : Nat) : Int) ≤ 400) (pG : mvP b 0 E 0 g) (k : ∀ g', Ch caS [] g g' → mvP b 0 E (cntP (faS c nt al m y) m + cntP (faA c nt al m y) m) g' → (∀ x, g' 13 x = if x = y then c 1 0 else c 13 x) → (∀ x, x < m → g' 14 (x * 4) = fd3 c nt al m y x) → (∀ i, ¬ (i % 4 = 0 ∧ i / 4 < m) → g' 14 i = if y * 4 ≤ i ∧ i < y * 4 + 4 then 0 else c 14 i) → (∀ i : Nat, (i : Int) < c 48 4 → g' 55 i = if c 49 i = (y : Int) then stV c i y (c 1 0) else c 55 i) → (∀ i : Nat, ¬ (i : Int) < c 48 4 → g' 55 i = c 55 i) → Q (faT c nt al m y - faU c nt al m y) g') : zC T (d + 5) 63 [mx_R 86, mx_I (y : Int)] g Q X := by
  have hw := wb.1
  obtain ⟨bS, bM, bT, bH, bP, bB, bU⟩ := fa_bnd (nt := nt) (al := al) wlc wb ie em hy
  have bA := faA_bnd (nt := nt) (al := al) wlc wb ie em hy
  have bF := fd_bnd (nt := nt) (al := al) wlc wb ie em hy
  have lS := faS_le (nt := nt) (m := m) (al := al) wlc wb (show y < 12 by omega)
  have eg : ∀ q, q ∉ esS → q ≠ 99 → g q = c q := fun q h h9 => es.1.1 q h h9
  have ew : WfW g := by
    unfold WfW WdI at ww ⊢
    rw [eg 9 (by decide) (by decide), eg 48 (by decide) (by decide), eg 49 (by decide) (by decide), eg 50 (by decide) (by decide), eg 51 (by decide) (by decide), eg 52 (by decide) (by decide), eg 53 (by decide) (by decide), eg 54 (by decide) (by decide), eg 55 (by decide) (by decide), eg 56 (by decide) (by decide), eg 57 (by decide) (by decide), eg 58 (by decide) (by decide), eg 59 (by decide) (by decide), eg 60 (by decide) (by decide), eg 61 (by decide) (by decide)]
    exact ww
  refine zX4_carryOut (sX10_stopAllOf (d := d) es.2.1.1 (es.wb wb) ew (by omega) (fun g1 c1 h55 h55' => ?_))
  have es1 : ∀ i, stV g i y (g 1 0) = stV c i y (c 1 0) := fun i => by
    unfold stV
    rw [eg 1 (by decide) (by decide), eg 3 (by decide) (by decide), eg 10 (by decide) (by decide), eg 50 (by decide) (by decide), eg 55 (by decide) (by decide), eg 56 (by decide) (by decide)]
  refine sX0_empty (d := d + 3) (by omega) ?_
  refine s_inN ?_ (fun ea => ?_)
  · omega
  try simp only [ea]
  clear ea
  intro g3 e3
  have w1 : WfB g1 := (es.wb wb).ch c1 (by decide)
  have n13 : ∀ p, p ≠ 13 → p ≠ 14 → g3 p = g1 p := fun p h h2 => by
    rw [e3]
    funext j
    rw [up_q h]
    exact if_neg (fun z => h2 z.1)
  have v14 : ∀ i, g3 14 i = if y * 4 ≤ i ∧ i < y * 4 + 4 then 0 else c 14 i := fun i => by
    rw [e3, up_q (by decide)]
    show (if 14 = 14 ∧ y * 4 ≤ i ∧ i < y * 4 + 4 then 0 else g1 14 i) = _
    rw [c1.1 14 (by decide) (by decide), eg 14 (by decide) (by decide)]
    by_cases z : y * 4 ≤ i ∧ i < y * 4 + 4
    · rw [if_pos ⟨rfl, z⟩, if_pos z]
    · rw [if_neg (fun r => z r.2), if_neg z]
  have v13 : ∀ x, g3 13 x = if x = y then c 1 0 else c 13 x := fun x => by
    have e10 : emptyS g1 y 4 1 0 = c 1 0 := by
      show (if 1 = 14 ∧ _ then _ else g1 1 0) = _
      rw [if_neg (fun z => absurd z.1 (by decide)), c1.1 1 (by decide) (by decide), eg 1 (by decide) (by decide)]
    rw [e3, e10]
    by_cases z : x = y
    · rw [z, up_s, if_pos rfl]
    · rw [up_i z, if_neg z]
      show (if 13 = 14 ∧ _ then _ else g1 13 x) = _
      rw [if_neg (fun z => absurd z.1 (by decide)), c1.1 13 (by decide) (by decide), eg 13 (by decide) (by decide)]
  have c3a : Ch [13, 14, 55] [] g g3 := by
    refine ⟨fun p hp h9 => ?_, fun f hf => ?_⟩
    · rw [n13 p (fun z => hp (by rw [z]; decide)) (fun z => hp (by rw [z]; decide))]
      exact c1.1 p (fun z => hp (by rw [List.mem_singleton] at z; rw [z]; decide)) h9
    · rw [n13 99 (by decide) (by decide)]; exact c1.2 f hf
  have c3 : Ch caS [] g g3 := c3a.sub (by decide) (fun f hf => hf)
  have w3 : WfB g3 := by
    have d0 := wlc.1
    have e : ∀ p, p ≠ 13 → p ≠ 14 → p ≠ 55 → p ∉ esS → p ≠ 99 → g3 p = c p := fun p h1 h2 h3 h4 h5 => by
      rw [n13 p h1 h2, c1.1 p (fun z => h3 (List.mem_singleton.mp z)) h5]; exact eg p h4 h5
    unfold WfB at wb ⊢
    rw [e 1 (by decide) (by decide) (by decide) (by decide) (by decide), e 9 (by decide) (by decide) (by decide) (by decide) (by decide), e 10 (by decide) (by decide) (by decide) (by decide) (by decide), e 11 (by decide) (by decide) (by decide) (by decide) (by decide), e 12 (by decide) (by decide) (by decide) (by decide) (by decide)]
    refine ⟨wb.1, fun i hi => ?_, fun i hi => ?_⟩
    · have := wb.2.1 i hi
      refine ⟨this.1, this.2.1, this.2.2.1, ?_⟩
      rw [v13]
      split
      · omega
      · exact this.2.2.2
    · rw [v14]
      split
      · omega
      · exact wb.2.2 i hi
  have f0 : ∀ x, x < m → g3 14 (x * 4) = fd0 c y x := fun x hx => by
    rw [v14]
    unfold fd0
    by_cases z : x = y
    · rw [if_pos z, if_pos (by omega)]
    · rw [if_neg z, if_neg (by omega)]
  have e10 : g3 10 y = c 10 y := by rw [n13 10 (by decide) (by decide), c1.1 10 (by decide) (by decide), eg 10 (by decide) (by decide)]
  have m3 : mvP b 0 E 0 g3 := pG.fr c3a (by decide)
  refine sX4_handOut (d := d + 1) (c := b) (m := m) (k0 := 0) (E := E) (p := faS c nt al m y) (s := 4) w3 (by rw [n13 9 (by decide) (by decide), c1.1 9 (by decide) (by decide), eg 9 (by decide) (by decide), em]) (by omega) (fun x hx => ⟨by rw [c3.1 91 (by decide) (by decide)]; exact (hS x hx).1, (bS x hx).1, by have := lS x hx; omega⟩) (fun x hx hp => by rw [Nat.zero_add, e10]; exact hE4 x hx hp) (by omega) m3 (fun g4 c4 w4 m4 h4 h4' => ?_)
  rw [Nat.zero_add] at m4
  have c34 : Ch caS [] g g4 := c3.tr (c4.sub (by decide) (fun f hf => hf))
  have f1 : ∀ x, x < m → g4 14 (x * 4) = fd1 c nt al m y x := fun x hx => by rw [h4 x hx, f0 x hx]; rfl
  have loop : ∀ n t : Nat, t + n = m → ∀ G, Ch [14, 86] [] g4 G → WfB G → G 86 14 = faT c nt al m y - sumN (faB c nt al m y) t → (∀ x, x < t → G 14 (x * 4) = fd2 c nt al m y x) → (∀ i, ¬ (i % 4 = 0 ∧ i / 4 < t) → G 14 i = g4 14 i) → aX4_carryOut T (d + 4) Q X 44 [some (mx_R 86), some (mx_I (y : Int)), some (mx_I (t : Int))] [] G (0, 0) := by
    intro n
    induction n with
    | zero =>
      intro t ht G cG wG hT h1 h2
      refine zX4_carryOut_44 ?_
      have cGg : Ch caS [] g G := c34.tr (cG.sub (by decide) (fun f hf => hf))
      have e9 : G 9 1 = (m : Int) := by rw [cGg.1 9 (by decide) (by decide), eg 9 (by decide) (by decide), em]
      rw [e9]
      have : t = m := by omega
      subst this
      first | with_reducible refine c_lt ?_ ?_ (fun z => ?_) (fun z => ?_) | with_reducible refine c_le ?_ ?_ (fun z => ?_) (fun z => ?_) | with_reducible refine c_eq ?_ ?_ (fun z => ?_) (fun z => ?_) | with_reducible refine c_ne ?_ ?_ (fun z => ?_) (fun z => ?_)
      · omega
      · omega
      · have m5 := m4.fr cG (by decide)
        refine sX4_handOut_i2 (d := d + 1) (c := b) (m := t) (k0 := cntP (faS c nt al t y) t) (E := E) (p := faA c nt al t y) (s := 5) wG e9 (by omega) (fun x hx => ⟨by rw [cGg.1 93 (by decide) (by decide)]; exact (hS x hx).2.2, (bA x hx).1, by have := bA x hx; omega⟩) (fun x hx hp => by rw [cGg.1 10 (by decide) (by decide), eg 10 (by decide) (by decide)]; exact hE5 x hx hp) (by omega) m5 (fun g6 c6 w6 m6 h6 h6' => ?_)
        have c7 : Ch caS [] g g6 := cGg.tr (c6.sub (by decide) (fun f hf => hf))
        have e55 : g6 55 = g1 55 := by
          rw [c6.1 55 (by decide) (by decide), cG.1 55 (by decide) (by decide), c4.1 55 (by decide) (by decide), n13 55 (by decide) (by decide)]
        rw [show g6 86 14 = faT c nt al t y - faU c nt al t y by rw [c6.1 86 (by decide) (by decide), hT]; rfl]
        refine k g6 c7 m6 (fun x => by rw [c6.1 13 (by decide) (by decide), cG.1 13 (by decide) (by decide), c4.1 13 (by decide) (by decide)]; exact v13 x) (fun x hx => by rw [h6 x hx, h1 x hx]; rfl) (fun i hi => by rw [h6' i hi, h2 i hi, h4' i hi, v14 i]) (fun i hi => ?_) (fun i hi => ?_)
        · rw [e55, h55 i (by rw [eg 48 (by decide) (by decide)]; exact hi), es1, eg 49 (by decide) (by decide), eg 55 (by decide) (by decide)]
        · rw [e55, h55' i (by rw [eg 48 (by decide) (by decide)]; exact hi), eg 55 (by decide) (by decide)]
      · omega
    | succ n ih =>
      intro t ht G cG wG hT h1 h2
      have cGg : Ch caS [] g G := c34.tr (cG.sub (by decide) (fun f hf => hf))
      have e9 : G 9 1 = (m : Int) := by rw [cGg.1 9 (by decide) (by decide), eg 9 (by decide) (by decide), em]
      have e92 : G 92 t = faB c nt al m y t := by rw [cGg.1 92 (by decide) (by decide)]; exact (hS t (by omega)).2.1
      have et : sumN (faB c nt al m y) (t + 1) = sumN (faB c nt al m y) t + faB c nt al m y t := rfl
      have bb := bB t (by omega)
      have ff := bF t (by omega)
      refine zX4_carryOut_44 ?_
      rw [e9]
      first | with_reducible refine c_lt ?_ ?_ (fun z => ?_) (fun z => ?_) | with_reducible refine c_le ?_ ?_ (fun z => ?_) (fun z => ?_) | with_reducible refine c_eq ?_ ?_ (fun z => ?_) (fun z => ?_) | with_reducible refine c_ne ?_ ?_ (fun z => ?_) (fun z => ?_)
      · omega
      · omega
      · omega
      · refine s_inN ?_ (fun ea => ?_)
        · omega
        try simp only [ea]
        clear ea
        rw [e92]
        refine sX0_gets (d := d + 2) wG (by omega) (by omega) (by omega) ?_
        rw [show (((t : Int)) * 4 + 0).toNat = t * 4 by omega, show G 14 (t * 4) = fd1 c nt al m y t by rw [h2 (t * 4) (by omega)]; exact f1 t (by omega)]
        have e2d : min 10000000 (fd1 c nt al m y t + -(faB c nt al m y t)) = fd2 c nt al m y t := rfl
        rw [e2d]
        refine s_inN ?_ (fun ea => ?_)
        · omega
        try simp only [ea]
        clear ea
        intro G2 e2
        have x92 : mx_up G 14 (t * 4) (fd2 c nt al m y t) 92 t = faB c nt al m y t := by rw [up_q (by decide)]; exact e92
        have x86 : mx_up G 14 (t * 4) (fd2 c nt al m y t) 86 14 = G 86 14 := up_q (by decide)
        rw [x92, x86] at e2
        rw [show (t : Int) + 1 = ((t + 1 : Nat) : Int) by omega]
        refine ih (t + 1) (by omega) G2 ?_ ?_ ?_ (fun x hx => ?_) (fun i hi => ?_)
        · rw [e2]; exact (cG.up (by decide) (by decide)).up (by decide) (by decide)
        · rw [e2]
          have w5 := wG.up14 (i := t * 4) (v := fd2 c nt al m y t) (by omega)
          exact w5.ch ((Ch.rf _).up (S := [86]) (F := []) (by decide) (by decide)) (by decide)
        · rw [e2, up_s, hT, et]; omega
        · rw [e2, up_q (by decide)]
          by_cases e : x = t
          · rw [e, up_s]
          · rw [up_i (by omega)]; exact h1 x (by omega)
        · rw [e2, up_q (by decide), up_i (by omega)]
          exact h2 i (fun r => hi ⟨r.1, by omega⟩)
  rw [show (0 : Int) = ((0 : Nat) : Int) from rfl]
  refine loop m 0 (by omega) g4 (Ch.rf g4) w4 ?_ (fun x hx => absurd hx (Nat.not_lt_zero x)) (fun _ _ => rfl)
  rw [c4.1 86 (by decide) (by decide), c3a.1 86 (by decide) (by decide), h14]
  show _ = _ - 0
  omega
