/-! a fall: the class hands out -/
def cntP (p : Nat → Int) : Nat → Nat
  | 0 => 0
  | n + 1 => cntP p n + (if 0 < p n then 1 else 0)
theorem cntP_mono {p : Nat → Int} {a b : Nat} (h : a ≤ b) : cntP p a ≤ cntP p b := by
  induction b with
  | zero => rw [show a = 0 by omega]; exact Nat.le_refl _
  | succ b ih =>
    by_cases e : a = b + 1
    · rw [e]; exact Nat.le_refl _
    · exact Nat.le_trans (ih (by omega)) (Nat.le_add_right _ _)
theorem cntP_sum {p : Nat → Int} : ∀ m, ((cntP p m : Nat) : Int) = sumN (fun x => if 0 < p x then 1 else 0) m := by
  intro m
  induction m with
  | zero => rfl
  | succ m ih =>
    show ((cntP p m + (if 0 < p m then 1 else 0) : Nat) : Int) = sumN _ m + (if 0 < p m then 1 else 0)
    rw [← ih]
    split <;> omega
theorem shF_leL {due rk : Nat → Int} {m : Nat} : ∀ n {L : Int} {W : Nat → Bool}, 0 ≤ L → (∀ x, x < m → W x = true → 0 < due x) → ∀ x, x < m → shF due rk m n L W x ≤ L := by
  intro n
  induction n with
  | zero => intro L W hL _ x _; exact hL
  | succ n ih =>
    intro L W hL hd x hx
    have hgd : ∀ x, x < m → grB rk W m x = true → 0 ≤ due x := fun x hx hg => Int.le_of_lt (hd x hx (grB_iff.mp hg).2.1)
    have sp : 0 ≤ sG due (grB rk W m) m := sumN_pos (fun x hx => by
      show 0 ≤ (if grB rk W m x = true then due x else 0)
      split
      · exact hgd x hx (by assumption)
      · omega)
    unfold shF
    split
    · rename_i hg
      have hall : 0 < sG due (grB rk W m) m := sG_gt hx hg (hd x hx (grB_iff.mp hg).2.1) hgd
      have s := spF_sum (sum := min L (sG due (grB rk W m) m)) hall
      have := sumN_mem (spF_pos (sum := min L (sG due (grB rk W m) m)) (by omega) hgd hall) hx
      omega
    · have := ih (L := L - min L (sG due (grB rk W m) m)) (W := fun y => W y && !grB rk W m y) (by omega) (fun x hx hw => hd x hx (by rw [Bool.and_eq_true] at hw; exact hw.1)) x hx
      omega
theorem sX4_handOut {T : Nat × (Nat → Int32)} {d : Nat} {Q : mz_K} {X : mz_X} {g : mz_S} {c : mz_S} {m y k0 : Nat} {E : Nat → mvE} {p : Nat → Int} {s : Int} (wb : WfB g) (em : g 9 1 = (m : Int)) (hy : y < 12) (hp : ∀ x, x < m → g 91 x = p x ∧ 0 ≤ p x ∧ p x ≤ 2000000000) (hE : ∀ x, x < m → 0 < p x → E (k0 + cntP p x) = (y, x, -(p x), s, g 10 y)) (hroom : 0 ≤ c 15 2 ∧ c 15 2 + ((k0 + cntP p m : Nat) : Int) ≤ 400) (pG : mvP c 0 E k0 g) (k : ∀ g', Ch [14, 15, 16, 17, 18, 19, 20, 21, 22, 23] [] g g' → WfB g' → mvP c 0 E (k0 + cntP p m) g' → (∀ x, x < m → g' 14 (x * 4) = if 0 < p x then min 10000000 (g 14 (x * 4) + p x) else g 14 (x * 4)) → (∀ i, ¬ (i % 4 = 0 ∧ i / 4 < m) → g' 14 i = g 14 i) → Q 0 g') : zC T (d + 3) 64 [mx_R 86, mx_I (y : Int), mx_R 91, mx_I s] g Q X := by
  have hw := wb.1
  refine zX4_handOut ?_
  have main : ∀ b t : Nat, t + b = m → ∀ G, Ch [14, 15, 16, 17, 18, 19, 20, 21, 22, 23] [] g G → WfB G → mvP c 0 E (k0 + cntP p t) G → (∀ x, x < t → G 14 (x * 4) = if 0 < p x then min 10000000 (g 14 (x * 4) + p x) else g 14 (x * 4)) → (∀ i, ¬ (i % 4 = 0 ∧ i / 4 < t) → G 14 i = g 14 i) → aX4_handOut T (d + 2) Q X 3 [some (mx_R 86), some (mx_I (y : Int)), some (mx_R 91), some (mx_I s), some (mx_I (t : Int))] [] G (0, 0) := by
    intro b
    induction b with
    | zero =>
      intro t ht G cG wG mG h1 h2
      refine zX4_handOut_3 ?_
      rw [cG.1 9 (by decide) (by decide), em]
      have : t = m := by omega
      subst this
      first | with_reducible refine c_lt ?_ ?_ (fun z => ?_) (fun z => ?_) | with_reducible refine c_le ?_ ?_ (fun z => ?_) (fun z => ?_) | with_reducible refine c_eq ?_ ?_ (fun z => ?_) (fun z => ?_) | with_reducible refine c_ne ?_ ?_ (fun z => ?_) (fun z => ?_)
      · omega
      · omega
      · exact k G cG wG mG h1 h2
      · omega
    | succ b ih =>
      intro t ht G cG wG mG h1 h2
      have pt := hp t (by omega)
      have eP : G 91 t = p t := by rw [cG.1 91 (by decide) (by decide)]; exact pt.1
      have et : cntP p (t + 1) = cntP p t + (if 0 < p t then 1 else 0) := rfl
      refine zX4_handOut_3 ?_
      rw [cG.1 9 (by decide) (by decide), em]
      first | with_reducible refine c_lt ?_ ?_ (fun z => ?_) (fun z => ?_) | with_reducible refine c_le ?_ ?_ (fun z => ?_) (fun z => ?_) | with_reducible refine c_eq ?_ ?_ (fun z => ?_) (fun z => ?_) | with_reducible refine c_ne ?_ ?_ (fun z => ?_) (fun z => ?_)
      · omega
      · omega
      · omega
      · refine s_inN ?_ (fun ea => ?_)
        · omega
        try simp only [ea]
        clear ea
        rw [eP]
        first | with_reducible refine l_gt ?_ ?_ (fun q => ?_) (fun q => ?_) | with_reducible refine l_lt ?_ ?_ (fun q => ?_) (fun q => ?_) | with_reducible refine l_ge ?_ ?_ (fun q => ?_) (fun q => ?_) | with_reducible refine l_le ?_ ?_ (fun q => ?_) (fun q => ?_) | with_reducible refine l_eq ?_ ?_ (fun q => ?_) (fun q => ?_) | with_reducible refine l_ne ?_ ?_ (fun q => ?_) (fun q => ?_)
        · omega
        · omega
        · refine zX4_handOut_65 ?_
          rw [show (t : Int) + 1 = ((t + 1 : Nat) : Int) by omega]
          refine ih (t + 1) (by omega) G cG wG ?_ (fun x hx => ?_) (fun i hi => h2 i (fun r => hi ⟨r.1, by omega⟩))
          · rw [et, if_neg (by omega)]; exact mG
          · by_cases e : x = t
            · rw [e, if_neg (by omega)]; exact h2 (t * 4) (by omega)
            · exact h1 x (by omega)
        · refine s_inN ?_ (fun ea => ?_)
          · omega
          try simp only [ea]
          clear ea
          refine sX0_gets (d := d) wG (by omega) (by omega) (by omega) ?_
          have o := wG.2.2 (t * 4) (by omega)
          have eo : G 14 (t * 4) = g 14 (t * 4) := h2 (t * 4) (by omega)
          rw [show (((t : Int)) * 4 + 0).toNat = t * 4 by omega]
          obtain ⟨G2, e2⟩ : ∃ G2, G2 = mx_up G 14 (t * 4) (min 10000000 (G 14 (t * 4) + p t)) := ⟨_, rfl⟩
          rw [← e2]
          have c2 : Ch [14] [] G G2 := by rw [e2]; exact (Ch.rf G).up (by decide) (by decide)
          have w2 : WfB G2 := by rw [e2]; exact wG.up14 (by omega)
          have m2 := mG.fr c2 (by decide)
          refine s_inN ?_ (fun ea => ?_)
          · omega
          try simp only [ea]
          clear ea
          refine s_inN ?_ (fun ea => ?_)
          · omega
          try simp only [ea]
          clear ea
          have e10 : G2 10 y = g 10 y := by rw [c2.1 10 (by decide) (by decide), cG.1 10 (by decide) (by decide)]
          have eP2 : G2 91 t = p t := by rw [c2.1 91 (by decide) (by decide)]; exact eP
          have lt : cntP p t + 1 ≤ cntP p m := by
            have := cntP_mono (p := p) (show t + 1 ≤ m by omega)
            rw [et, if_pos (by omega)] at this
            exact this
          have e15 : G2 15 2 = c 15 2 + ((k0 + cntP p t : Nat) : Int) := by rw [m2.1 15 (by decide), mvV_15]
          rw [e10, eP2]
          refine sX6_record (d := d) (by omega) (by omega) (by omega) (by omega) (by omega) ?_
          have c3 := recE_ch G2 0 (E (k0 + cntP p t))
          have m3 := m2.step
          have eR : recS G2 (g 10 y) (y : Int) (t : Int) 0 (-(p t)) s = recE G2 0 (E (k0 + cntP p t)) := by rw [hE t (by omega) (by omega)]; rfl
          rw [eR]
          refine zX4_handOut_65 ?_
          rw [show (t : Int) + 1 = ((t + 1 : Nat) : Int) by omega]
          refine ih (t + 1) (by omega) _ ((cG.tr (c2.sub (by decide) (fun f hf => hf))).tr (c3.sub (by decide) (fun f hf => hf))) (w2.ch c3 (by decide)) ?_ (fun x hx => ?_) (fun i hi => ?_)
          · rw [et, if_pos (by omega), ← Nat.add_assoc]; exact m3
          · rw [c3.1 14 (by decide) (by decide), e2]
            by_cases e : x = t
            · rw [e, up_s, if_pos (by omega), eo]
            · rw [up_i (by omega)]; exact h1 x (by omega)
          · rw [c3.1 14 (by decide) (by decide), e2, up_i (by omega)]
            exact h2 i (fun r => hi ⟨r.1, by omega⟩)
  rw [show (0 : Int) = ((0 : Nat) : Int) from rfl]
  exact main m 0 (by omega) g (Ch.rf g) wb (by rw [show k0 + cntP p 0 = k0 from rfl]; exact pG) (fun x hx => absurd hx (Nat.not_lt_zero x)) (fun _ _ => rfl)
theorem sX4_handOut_i2 {T : Nat × (Nat → Int32)} {d : Nat} {Q : mz_K} {X : mz_X} {g : mz_S} {c : mz_S} {m y k0 : Nat} {E : Nat → mvE} {p : Nat → Int} {s : Int} (wb : WfB g) (em : g 9 1 = (m : Int)) (hy : y < 12) (hp : ∀ x, x < m → g 93 x = p x ∧ 0 ≤ p x ∧ p x ≤ 2000000000) (hE : ∀ x, x < m → 0 < p x → E (k0 + cntP p x) = (y, x, -(p x), s, g 10 y)) (hroom : 0 ≤ c 15 2 ∧ c 15 2 + ((k0 + cntP p m : Nat) : Int) ≤ 400) (pG : mvP c 0 E k0 g) (k : ∀ g', Ch [14, 15, 16, 17, 18, 19, 20, 21, 22, 23] [] g g' → WfB g' → mvP c 0 E (k0 + cntP p m) g' → (∀ x, x < m → g' 14 (x * 4) = if 0 < p x then min 10000000 (g 14 (x * 4) + p x) else g 14 (x * 4)) → (∀ i, ¬ (i % 4 = 0 ∧ i / 4 < m) → g' 14 i = g 14 i) → Q 0 g') : zC T (d + 3) 64 [mx_R 86, mx_I (y : Int), mx_R 93, mx_I s] g Q X := by
  have hw := wb.1
  refine zX4_handOut_i2 ?_
  have main : ∀ b t : Nat, t + b = m → ∀ G, Ch [14, 15, 16, 17, 18, 19, 20, 21, 22, 23] [] g G → WfB G → mvP c 0 E (k0 + cntP p t) G → (∀ x, x < t → G 14 (x * 4) = if 0 < p x then min 10000000 (g 14 (x * 4) + p x) else g 14 (x * 4)) → (∀ i, ¬ (i % 4 = 0 ∧ i / 4 < t) → G 14 i = g 14 i) → aX4_handOut_i2 T (d + 2) Q X 3 [some (mx_R 86), some (mx_I (y : Int)), some (mx_R 93), some (mx_I s), some (mx_I (t : Int))] [] G (0, 0) := by
    intro b
    induction b with
    | zero =>
      intro t ht G cG wG mG h1 h2
      refine zX4_handOut_i2_3 ?_
      rw [cG.1 9 (by decide) (by decide), em]
      have : t = m := by omega
      subst this
      first | with_reducible refine c_lt ?_ ?_ (fun z => ?_) (fun z => ?_) | with_reducible refine c_le ?_ ?_ (fun z => ?_) (fun z => ?_) | with_reducible refine c_eq ?_ ?_ (fun z => ?_) (fun z => ?_) | with_reducible refine c_ne ?_ ?_ (fun z => ?_) (fun z => ?_)
      · omega
      · omega
      · exact k G cG wG mG h1 h2
      · omega
    | succ b ih =>
      intro t ht G cG wG mG h1 h2
      have pt := hp t (by omega)
      have eP : G 93 t = p t := by rw [cG.1 93 (by decide) (by decide)]; exact pt.1
      have et : cntP p (t + 1) = cntP p t + (if 0 < p t then 1 else 0) := rfl
      refine zX4_handOut_i2_3 ?_
      rw [cG.1 9 (by decide) (by decide), em]
      first | with_reducible refine c_lt ?_ ?_ (fun z => ?_) (fun z => ?_) | with_reducible refine c_le ?_ ?_ (fun z => ?_) (fun z => ?_) | with_reducible refine c_eq ?_ ?_ (fun z => ?_) (fun z => ?_) | with_reducible refine c_ne ?_ ?_ (fun z => ?_) (fun z => ?_)
      · omega
      · omega
      · omega
      · refine s_inN ?_ (fun ea => ?_)
        · omega
        try simp only [ea]
        clear ea
        rw [eP]
        first | with_reducible refine l_gt ?_ ?_ (fun q => ?_) (fun q => ?_) | with_reducible refine l_lt ?_ ?_ (fun q => ?_) (fun q => ?_) | with_reducible refine l_ge ?_ ?_ (fun q => ?_) (fun q => ?_) | with_reducible refine l_le ?_ ?_ (fun q => ?_) (fun q => ?_) | with_reducible refine l_eq ?_ ?_ (fun q => ?_) (fun q => ?_) | with_reducible refine l_ne ?_ ?_ (fun q => ?_) (fun q => ?_)
        · omega
        · omega
        · refine zX4_handOut_i2_65 ?_
          rw [show (t : Int) + 1 = ((t + 1 : Nat) : Int) by omega]
          refine ih (t + 1) (by omega) G cG wG ?_ (fun x hx => ?_) (fun i hi => h2 i (fun r => hi ⟨r.1, by omega⟩))
          · rw [et, if_neg (by omega)]; exact mG
          · by_cases e : x = t
            · rw [e, if_neg (by omega)]; exact h2 (t * 4) (by omega)
            · exact h1 x (by omega)
        · refine s_inN ?_ (fun ea => ?_)
          · omega
          try simp only [ea]
          clear ea
          refine sX0_gets (d := d) wG (by omega) (by omega) (by omega) ?_
          have o := wG.2.2 (t * 4) (by omega)
          have eo : G 14 (t * 4) = g 14 (t * 4) := h2 (t * 4) (by omega)
          rw [show (((t : Int)) * 4 + 0).toNat = t * 4 by omega]
          obtain ⟨G2, e2⟩ : ∃ G2, G2 = mx_up G 14 (t * 4) (min 10000000 (G 14 (t * 4) + p t)) := ⟨_, rfl⟩
          rw [← e2]
          have c2 : Ch [14] [] G G2 := by rw [e2]; exact (Ch.rf G).up (by decide) (by decide)
          have w2 : WfB G2 := by rw [e2]; exact wG.up14 (by omega)
          have m2 := mG.fr c2 (by decide)
          refine s_inN ?_ (fun ea => ?_)
          · omega
          try simp only [ea]
          clear ea
          refine s_inN ?_ (fun ea => ?_)
          · omega
          try simp only [ea]
          clear ea
          have e10 : G2 10 y = g 10 y := by rw [c2.1 10 (by decide) (by decide), cG.1 10 (by decide) (by decide)]
          have eP2 : G2 93 t = p t := by rw [c2.1 93 (by decide) (by decide)]; exact eP
          have lt : cntP p t + 1 ≤ cntP p m := by
            have := cntP_mono (p := p) (show t + 1 ≤ m by omega)
            rw [et, if_pos (by omega)] at this
            exact this
          have e15 : G2 15 2 = c 15 2 + ((k0 + cntP p t : Nat) : Int) := by rw [m2.1 15 (by decide), mvV_15]
          rw [e10, eP2]
          refine sX6_record (d := d) (by omega) (by omega) (by omega) (by omega) (by omega) ?_
          have c3 := recE_ch G2 0 (E (k0 + cntP p t))
          have m3 := m2.step
          have eR : recS G2 (g 10 y) (y : Int) (t : Int) 0 (-(p t)) s = recE G2 0 (E (k0 + cntP p t)) := by rw [hE t (by omega) (by omega)]; rfl
          rw [eR]
          refine zX4_handOut_i2_65 ?_
          rw [show (t : Int) + 1 = ((t + 1 : Nat) : Int) by omega]
          refine ih (t + 1) (by omega) _ ((cG.tr (c2.sub (by decide) (fun f hf => hf))).tr (c3.sub (by decide) (fun f hf => hf))) (w2.ch c3 (by decide)) ?_ (fun x hx => ?_) (fun i hi => ?_)
          · rw [et, if_pos (by omega), ← Nat.add_assoc]; exact m3
          · rw [c3.1 14 (by decide) (by decide), e2]
            by_cases e : x = t
            · rw [e, up_s, if_pos (by omega), eo]
            · rw [up_i (by omega)]; exact h1 x (by omega)
          · rw [c3.1 14 (by decide) (by decide), e2, up_i (by omega)]
            exact h2 i (fun r => hi ⟨r.1, by omega⟩)
  rw [show (0 : Int) = ((0 : Nat) : Int) from rfl]
  exact main m 0 (by omega) g (Ch.rf g) wb (by rw [show k0 + cntP p 0 = k0 from rfl]; exact pG) (fun x hx => absurd hx (Nat.not_lt_zero x)) (fun _ _ => rfl)
