/-! the class weighs a debtor -/
theorem zb_low : ∀ m : Nat, m < 13 → ∀ i, i < 32 → zb (mx_ishl 1 (m : Int) - 1) i = decide (i < m) := by decide +kernel
theorem claimC_ch {S F : List Nat} {g g' : mz_S} (h : Ch S F g g') (hS : ∀ q ∈ [1, 3, 4, 5, 6, 7, 10, 23], q ∉ S) (a b : Nat) : claimC g' a b = claimC g a b := by
  unfold claimC
  rw [debtC_ch h (fun q hq => hS q (by revert hq; revert q; decide)), h.1 10 (hS 10 (by decide)) (by decide)]
theorem dworthC_ch {S F : List Nat} {g g' : mz_S} (h : Ch S F g g') (hS : ∀ q ∈ [1, 3, 4, 5, 6, 7, 10, 14], q ∉ S) (y : Nat) : dworthC g' y = dworthC g y := by
  have e : ∀ p ∈ [1, 3, 4, 5, 6, 7, 10, 14], g' p = g p := fun p hp => h.1 p (hS p hp) (by intro q; subst q; revert hp; decide)
  unfold dworthC worthC rateC lgC
  simp only [e 1 (by decide), e 3 (by decide), e 4 (by decide), e 5 (by decide), e 6 (by decide), e 7 (by decide), e 10 (by decide), e 14 (by decide)]
abbrev esS : List Nat := [8, 39, 45, 46, 47, 86, 87, 88, 89, 90, 91, 92, 93, 94]
/-- the class while it reckons estates: c is how the call found it -/
def ES (c : mz_S) (W : Int) (g : mz_S) : Prop := Ch esS [] c g ∧ WfL g ∧ g 39 3 = c 39 3 ∧ WkS W g
theorem ES.st {c g g' : mz_S} {W W' : Int} {S : List Nat} (h : ES c W g) (h1 : Ch S [] g g') (hS : ∀ q ∈ S, q ∈ esS) (hl : WfL g') (h3 : g' 39 3 = g 39 3) (hk : WkS W' g') : ES c W' g' := ⟨h.1.tr (h1.sub hS (fun f hf => hf)), hl, h3.trans h.2.2.1, hk⟩
theorem ES.up {c g : mz_S} {W : Int} {q i : Nat} {v : Int} (h : ES c W g) (hq : q ∈ [86, 87, 88, 89, 90, 91, 92, 93, 94]) : ES c W (mx_up g q i v) := by
  have c1 : Ch [q] [] g (mx_up g q i v) := (Ch.rf g).up (List.mem_singleton.mpr rfl) (by intro z; subst z; revert hq; decide)
  have nq : ∀ p ∈ [1, 3, 4, 5, 6, 7, 8, 39, 46], p ∉ [q] := fun p hp z => by
    rw [List.mem_singleton] at z
    subst z
    clear c1
    revert hq hp
    revert p
    decide
  refine h.st c1 (fun p hp => ?_) (h.2.1.ch c1 (fun p hp => nq p (by revert hp; revert p; decide))) ?_ (h.2.2.2.fr c1 (fun p hp => nq p (by revert hp; revert p; decide)))
  · rw [List.mem_singleton] at hp
    subst hp
    clear nq c1
    revert hq
    revert p
    decide
  · rw [c1.1 39 (nq 39 (by decide)) (by decide)]
theorem ES.sm {c g g' : mz_S} {W : Int} (h : ES c W g) (s : Sm8 g g') (hl : WfL g') : ES c W g' := h.st (s.ch (F := [])) (by decide) hl (by rw [s 39 (by decide)]) (h.2.2.2.fr (s.ch (F := [])) (by decide))
theorem ES.wk {c g : mz_S} {W W' : Int} (h : ES c W g) (l : W ≤ W') : ES c W' g := ⟨h.1, h.2.1, h.2.2.1, h.2.2.2.wk l⟩
theorem ES.wb {c g : mz_S} {W : Int} (h : ES c W g) (w : WfB c) : WfB g := w.ch h.1 (by decide)
theorem ES.wg {c g : mz_S} {W : Int} (h : ES c W g) (w : WfG c) : WfG g := w.ch h.1 (by decide)
theorem ES.as {c g : mz_S} {W : Int} (h : ES c W g) : AsS c g := (AsS.rf c).tr h.1 (by decide) h.2.2.1
theorem ES.cl {c g : mz_S} {W : Int} (h : ES c W g) (a b : Nat) : claimC g a b = claimC c a b := claimC_ch h.1 (by decide) a b
theorem ES.dw {c g : mz_S} {W : Int} (h : ES c W g) (y : Nat) : dworthC g y = dworthC c y := dworthC_ch h.1 (by decide) y
theorem ES.em {c g : mz_S} {W : Int} (h : ES c W g) : g 9 = c 9 := h.1.1 9 (by decide) (by decide)
def wmS (c : mz_S) (y x : Nat) : Nat := if c 11 y = c 11 x then 3 else if c 10 y = c 10 x then 4 else 5
theorem wmS_lt (c : mz_S) (y x : Nat) : wmS c y x < 9 := by
  unfold wmS
  split
  · omega
  · split <;> omega
def rkF (c : mz_S) (nt : Nat) (al : Nat → List pA) (y x : Nat) : Int := w64 (akF c nt al y x (claimC c y x) 0 (wmS c y x))
def KaR (c : mz_S) (nt : Nat) (al : Nat → List pA) (m : Nat) (g : mz_S) (y : Nat) : Prop := ∀ x, x < m → g 87 (y * 12 + x) = claimC c y x ∧ (0 < claimC c y x → w32 (g 88 (y * 12 + x)) = rkF c nt al y x)
def CaE (c : mz_S) (nt : Nat) (al : Nat → List pA) (m : Nat) (g : mz_S) : Prop := ∀ z, z < m → zb (g 86 5) z = true → KaR c nt al m g z
theorem sX4_whomOf {T : Nat × (Nat → Int32)} {d : Nat} {Q : mz_K} {X : mz_X} {g : mz_S} {a b : Nat} (wb : WfB g) (ha : a < 12) (hb : b < 12) (k : Q ((wmS g a b : Nat) : Int) g) : zC T (d + 1) 53 [mx_R 86, mx_I (a : Int), mx_I (b : Int)] g Q X := by
  have ra := wb.2.1 a ha
  have rb := wb.2.1 b hb
  refine zX4_whomOf ?_
  refine s_inN ?_ (fun ea => ?_)
  · omega
  try simp only [ea]
  clear ea
  refine s_inN ?_ (fun ea => ?_)
  · omega
  try simp only [ea]
  clear ea
  unfold wmS at k
  first | with_reducible refine c_lt ?_ ?_ (fun z => ?_) (fun z => ?_) | with_reducible refine c_le ?_ ?_ (fun z => ?_) (fun z => ?_) | with_reducible refine c_eq ?_ ?_ (fun z => ?_) (fun z => ?_) | with_reducible refine c_ne ?_ ?_ (fun z => ?_) (fun z => ?_)
  · omega
  · omega
  · refine s_inN ?_ (fun ea => ?_)
    · omega
    try simp only [ea]
    clear ea
    refine s_inN ?_ (fun ea => ?_)
    · omega
    try simp only [ea]
    clear ea
    rw [if_neg z] at k
    first | with_reducible refine c_lt ?_ ?_ (fun z2 => ?_) (fun z2 => ?_) | with_reducible refine c_le ?_ ?_ (fun z2 => ?_) (fun z2 => ?_) | with_reducible refine c_eq ?_ ?_ (fun z2 => ?_) (fun z2 => ?_) | with_reducible refine c_ne ?_ ?_ (fun z2 => ?_) (fun z2 => ?_)
    · omega
    · omega
    · rw [if_neg z2] at k
      exact zX4_whomOf_49 k
    · rw [if_pos (by omega)] at k
      exact zX4_whomOf_49 k
  · rw [if_pos (by omega)] at k
    exact k
theorem sX4_weigh {T : Nat × (Nat → Int32)} {d : Nat} {Q : mz_K} {X : mz_X} {g : mz_S} {c : mz_S} {nt m y : Nat} {al : Nat → List pA} {W : Int} (wlc : WfL0 c) (wb : WfB c) (wg : WfG c) (tw : TxW c nt al) (em : c 9 1 = (m : Int)) (hy : y < m) (es : ES c W g) (ca : CaE c nt al m g) (hW : 0 ≤ W ∧ W < 2147483600) (k : ∀ g', ES c (W + 12) g' → Ch [8, 39, 45, 46, 47, 86, 87, 88] [] g g' → (∀ f, f ≠ 5 → g' 86 f = g 86 f) → CaE c nt al m g' → zb (g' 86 5) y = true → Q 0 g') : zC T (d + 7) 52 [mx_R 86, mx_I (y : Int)] g Q X := by
  have hw := wb.1
  refine zX4_weigh (sX11_holds (by omega) ?_)
  first | with_reducible refine b_eq (fun h => ?_) (fun h => ?_) | with_reducible refine b_ne (fun h => ?_) (fun h => ?_)
  · intro g2 e2
    have es2 : ES c W g2 := by rw [e2]; exact es.up (by decide)
    have main : ∀ n t : Nat, t + n = m → ∀ G o3, ES c (W + (t : Int)) G → Ch [8, 39, 45, 46, 47, 86, 87, 88] [] g G → (∀ f, f ≠ 5 → G 86 f = g 86 f) → G 86 5 = mx_ior (g 86 5) (mx_ishl 1 (y : Int)) → (∀ z x, z < m → x < m → z ≠ y → G 87 (z * 12 + x) = g 87 (z * 12 + x) ∧ G 88 (z * 12 + x) = g 88 (z * 12 + x)) → (∀ x, x < t → G 87 (y * 12 + x) = claimC c y x ∧ (0 < claimC c y x → w32 (G 88 (y * 12 + x)) = rkF c nt al y x)) → aX4_weigh T (d + 6) Q X 26 [some (mx_R 86), some (mx_I (y : Int)), some (mx_I (t : Int)), o3, none] [] G (0, 0) := by
      intro n
      induction n with
      | zero =>
        intro t ht G o3 esG cG h86 h5 hz hr
        refine zX4_weigh_26 ?_
        rw [esG.em, em]
        have : t = m := by omega
        subst this
        first | with_reducible refine c_lt ?_ ?_ (fun z => ?_) (fun z => ?_) | with_reducible refine c_le ?_ ?_ (fun z => ?_) (fun z => ?_) | with_reducible refine c_eq ?_ ?_ (fun z => ?_) (fun z => ?_) | with_reducible refine c_ne ?_ ?_ (fun z => ?_) (fun z => ?_)
        · omega
        · omega
        · refine k G (esG.wk (by omega)) cG h86 (fun a ha hb => ?_) (by rw [h5, zb_ior, zb_bit (by omega) (by omega)]; simp)
          by_cases e : a = y
          · rw [e]; exact hr
          · intro x hx
            rw [(hz a x ha hx e).1, (hz a x ha hx e).2]
            refine ca a ha ?_ x hx
            rw [h5, zb_ior, zb_bit (by omega) (by omega)] at hb
            simpa [e] using hb
        · omega
      | succ n ih =>
        intro t ht G o3 esG cG h86 h5 hz hr
        refine zX4_weigh_26 ?_
        rw [esG.em, em]
        first | with_reducible refine c_lt ?_ ?_ (fun z => ?_) (fun z => ?_) | with_reducible refine c_le ?_ ?_ (fun z => ?_) (fun z => ?_) | with_reducible refine c_eq ?_ ?_ (fun z => ?_) (fun z => ?_) | with_reducible refine c_ne ?_ ?_ (fun z => ?_) (fun z => ?_)
        · omega
        · omega
        · omega
        · refine sX6_claimOn (d := d + 2) esG.2.1 (esG.wb wb) (esG.wg wg) (by omega) (by omega) (fun G2 s2 wl2 => ?_)
          rw [esG.cl]
          have bn := claimC_bnd wlc wg (a := y) (b := t) (by omega) (by omega)
          have esG2 := esG.sm s2 wl2
          refine s_inE (y * 12 + t) (by omega) (by omega) (fun ea => ?_)
          simp only [ea]
          intro G3 e3
          have esG3 : ES c (W + (t : Int)) G3 := by rw [e3]; exact esG2.up (by decide)
          have c3 : Ch [8, 39, 45, 46, 47, 86, 87, 88] [] g G3 := by
            rw [e3]
            exact (cG.tr ((s2.ch (F := [])).sub (by decide) (fun f hf => hf))).up (by decide) (by decide)
          have v87 : G3 87 (y * 12 + t) = claimC c y t := by rw [e3, up_s]
          have o87 : ∀ p, p ≠ y * 12 + t → G3 87 p = G 87 p := fun p hp => by rw [e3, up_i hp, s2 87 (by decide)]
          have o88 : ∀ p, G3 88 p = G 88 p := fun p => by rw [e3, up_q (by decide), s2 88 (by decide)]
          have e86 : ∀ f, G3 86 f = G 86 f := fun f => by rw [e3, up_q (by decide), s2 86 (by decide)]
          have put : ∀ v G4, ES c (W + ((t + 1 : Nat) : Int)) G4 → Ch [39, 45, 46, 47] [] G3 G4 → (0 < claimC c y t → w32 v = rkF c nt al y t) → aX4_weigh T (d + 6) Q X 96 [some (mx_R 86), some (mx_I (y : Int)), some (mx_I (t : Int)), some (mx_J (claimC c y t)), none] [mx_I v, mx_I ((y : Int) * 12 + (t : Int)), mx_R 88] G4 (0, 0) := by
            intro v G4 es4 c4 hv
            refine zX4_weigh_96 ?_
            refine s_inE (y * 12 + t) (by omega) (by omega) (fun ea => ?_)
            simp only [ea]
            intro G5 e5
            rw [show (t : Int) + 1 = ((t + 1 : Nat) : Int) by omega]
            have q87 : G5 87 = G3 87 := by
              rw [e5]
              funext p
              rw [up_q (by decide), c4.1 87 (by decide) (by decide)]
            have q86 : ∀ f, G5 86 f = G 86 f := fun f => by rw [e5, up_q (by decide), c4.1 86 (by decide) (by decide), e86]
            have q88 : ∀ p, p ≠ y * 12 + t → G5 88 p = G 88 p := fun p hp => by rw [e5, up_i hp, c4.1 88 (by decide) (by decide), o88]
            refine ih (t + 1) (by omega) G5 _ (by rw [e5]; exact es4.up (by decide)) ?_ (fun f hf => by rw [q86]; exact h86 f hf) (by rw [q86]; exact h5) (fun a x ha hx hne => ?_) (fun x hx => ?_)
            · rw [e5]
              exact (c3.tr (c4.sub (by decide) (fun f hf => hf))).up (by decide) (by decide)
            · have ne : a * 12 + x ≠ y * 12 + t := by omega
              rw [q87, o87 _ ne, q88 _ ne]
              exact hz a x ha hx hne
            · rw [q87]
              by_cases e : x = t
              · rw [e, v87]
                refine ⟨rfl, fun hp => ?_⟩
                rw [e5, up_s]
                exact hv hp
              · rw [o87 _ (by omega), q88 _ (by omega)]
                exact hr x (by omega)
          first | with_reducible refine l_gt ?_ ?_ (fun h2 => ?_) (fun h2 => ?_) | with_reducible refine l_lt ?_ ?_ (fun h2 => ?_) (fun h2 => ?_) | with_reducible refine l_ge ?_ ?_ (fun h2 => ?_) (fun h2 => ?_) | with_reducible refine l_le ?_ ?_ (fun h2 => ?_) (fun h2 => ?_) | with_reducible refine l_eq ?_ ?_ (fun h2 => ?_) (fun h2 => ?_) | with_reducible refine l_ne ?_ ?_ (fun h2 => ?_) (fun h2 => ?_)
          · omega
          · omega
          · exact put 0 G3 (esG3.wk (by omega)) (Ch.rf G3) (fun hp => by omega)
          · have as3 := esG3.as
            refine sX4_whomOf (d := d + 5) (esG3.wb wb) (by omega) (by omega) ?_
            have ew : wmS G3 y t = wmS c y t := by
              unfold wmS
              rw [as3.1 10 (by decide), as3.1 11 (by decide)]
            rw [ew]
            refine sX3_askG (d := d) esG3.2.1.1 (esG3.wb wb) tw as3 esG3.2.2.2 (by omega) (by omega) (by omega) (wmS_lt c y t) (fun G4 c4 as4 wk4 => ?_)
            refine put _ G4 (esG3.st c4 (by decide) (esG3.2.1.ch c4 (by decide)) (as4.2.trans as3.2.symm) (wk4.wk (by omega))) c4 (fun _ => ?_)
            unfold rkF
            exact w32_akF (wmS_lt c y t)
    rw [show (0 : Int) = ((0 : Nat) : Int) from rfl]
    refine main m 0 (by omega) g2 none (es2.wk (by omega)) (by rw [e2]; exact (Ch.rf g).up (by decide) (by decide)) (fun f hf => by rw [e2, up_i hf]) (by rw [e2, up_s]) (fun a x _ _ _ => by rw [e2, up_q (by decide), up_q (by decide)]; exact ⟨rfl, rfl⟩) (fun x hx => absurd hx (Nat.not_lt_zero x))
  · exact k g (es.wk (by omega)) (Ch.rf g) (fun _ _ => rfl) ca h
theorem sX4_standing {T : Nat × (Nat → Int32)} {d : Nat} {Q : mz_K} {X : mz_X} {g : mz_S} {m : Nat} (w : WfB g) (em : g 9 1 = (m : Int)) (k : ∀ v, StP v (fun x => x < m ∧ g 13 x = -1) → Q v g) : zC T (d + 3) 51 [mx_R 86] g Q X := by
  have hw := w.1
  refine zX4_standing (sX0_fallenSet (d := d) w (fun s _ _ hs => k _ (fun i hi => ?_)))
  rw [em, zb_iand, zb_low m (by omega) i hi, zb_not hi, hs i hi, em]
  by_cases h1 : i < m
  · by_cases h2 : g 13 i = -1
    · simp [h1, h2]
    · simp [h1, h2]
  · simp [h1]
theorem sX4_kinOf {T : Nat × (Nat → Int32)} {d : Nat} {Q : mz_K} {X : mz_X} {g : mz_S} {m y : Nat} (w : WfB g) (em : g 9 1 = (m : Int)) (hy : y < 12) (k : ∀ v, w32 v = v → StP v (fun x => x < m ∧ x ≠ y ∧ g 11 x = g 11 y ∧ g 13 x = -1) → Q v g) : zC T (d + 2) 62 [mx_R 86, mx_I (y : Int)] g Q X := by
  have hw := w.1
  refine zX4_kinOf ?_
  have main : ∀ n t : Nat, t + n = m → ∀ v, w32 v = v → StP v (fun x => x < t ∧ x ≠ y ∧ g 11 x = g 11 y ∧ g 13 x = -1) → aX4_kinOf T (d + 1) Q X 4 [some (mx_R 86), some (mx_I (y : Int)), some (mx_I v), some (mx_I (t : Int))] [] g (0, 0) := by
    intro n
    induction n with
    | zero =>
      intro t ht v hwv hv
      refine zX4_kinOf_4 ?_
      rw [em]
      have : t = m := by omega
      subst this
      first | with_reducible refine c_lt ?_ ?_ (fun z => ?_) (fun z => ?_) | with_reducible refine c_le ?_ ?_ (fun z => ?_) (fun z => ?_) | with_reducible refine c_eq ?_ ?_ (fun z => ?_) (fun z => ?_) | with_reducible refine c_ne ?_ ?_ (fun z => ?_) (fun z => ?_)
      · omega
      · omega
      · exact k v hwv hv
      · omega
    | succ n ih =>
      intro t ht v hwv hv
      have rt := w.2.1 t (by omega)
      have ry := w.2.1 y hy
      have no : ¬ (t ≠ y ∧ g 11 t = g 11 y ∧ g 13 t = -1) → aX4_kinOf T (d + 1) Q X 58 [some (mx_R 86), some (mx_I (y : Int)), some (mx_I v), some (mx_I (t : Int))] [] g (0, 0) := by
        intro z
        refine zX4_kinOf_58 ?_
        rw [show (t : Int) + 1 = ((t + 1 : Nat) : Int) by omega]
        refine ih (t + 1) (by omega) v hwv (hv.cg (fun i hi => ?_))
        constructor
        · rintro ⟨x1, x2⟩; exact ⟨by omega, x2⟩
        · rintro ⟨x1, x2⟩
          refine ⟨?_, x2⟩
          by_cases e : i = t
          · subst e; exact absurd x2 z
          · omega
      refine zX4_kinOf_4 ?_
      rw [em]
      first | with_reducible refine c_lt ?_ ?_ (fun z => ?_) (fun z => ?_) | with_reducible refine c_le ?_ ?_ (fun z => ?_) (fun z => ?_) | with_reducible refine c_eq ?_ ?_ (fun z => ?_) (fun z => ?_) | with_reducible refine c_ne ?_ ?_ (fun z => ?_) (fun z => ?_)
      · omega
      · omega
      · omega
      · first | with_reducible refine c_lt ?_ ?_ (fun z2 => ?_) (fun z2 => ?_) | with_reducible refine c_le ?_ ?_ (fun z2 => ?_) (fun z2 => ?_) | with_reducible refine c_eq ?_ ?_ (fun z2 => ?_) (fun z2 => ?_) | with_reducible refine c_ne ?_ ?_ (fun z2 => ?_) (fun z2 => ?_)
        · omega
        · omega
        · exact no (fun q => q.1 (by omega))
        · refine s_inN ?_ (fun ea => ?_)
          · omega
          try simp only [ea]
          clear ea
          refine s_inN ?_ (fun ea => ?_)
          · omega
          try simp only [ea]
          clear ea
          first | with_reducible refine c_lt ?_ ?_ (fun z3 => ?_) (fun z3 => ?_) | with_reducible refine c_le ?_ ?_ (fun z3 => ?_) (fun z3 => ?_) | with_reducible refine c_eq ?_ ?_ (fun z3 => ?_) (fun z3 => ?_) | with_reducible refine c_ne ?_ ?_ (fun z3 => ?_) (fun z3 => ?_)
          · omega
          · omega
          · exact no (fun q => z3 q.2.1)
          · refine sX0_hasFallen (by omega) (by rw [show ((t : Int)).toNat = t by omega]; omega) ?_
            rw [show ((t : Int)).toNat = t by omega]
            first | with_reducible refine b_eq (fun h1 => ?_) (fun h1 => ?_) | with_reducible refine b_ne (fun h1 => ?_) (fun h1 => ?_)
            · exact no (fun q => h1 q.2.2)
            · refine zX4_kinOf_58 ?_
              rw [show (t : Int) + 1 = ((t + 1 : Nat) : Int) by omega]
              refine ih (t + 1) (by omega) _ (w32_ior _ _) ((hv.or (k := t) (by omega)).cg (fun i hi => ?_))
              constructor
              · rintro (⟨x1, x2⟩ | rfl)
                · exact ⟨by omega, x2⟩
                · exact ⟨by omega, by omega, by omega, Decidable.not_not.mp h1⟩
              · rintro ⟨x1, x2⟩
                by_cases e : i = t
                · exact Or.inr e
                · exact Or.inl ⟨by omega, x2⟩
  exact main m 0 (by omega) 0 w32_0 (StP.zero.cg (fun i _ => ⟨fun z => z.elim, fun z => by omega⟩))
