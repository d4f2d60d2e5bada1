/-! creditors; nobody owes oneself -/
theorem net_self {g : mz_S} (w : IE g) {b co : Nat} (hb : b < 12) (hc : co < 4) : netC g b b co = 0 := by
  have w1 := w.1.1
  rw [w.2.1 b b co hb hb hc]
  refine sumN_zero (fun e he => ?_)
  have := (w.2.2.2.2.2.2 e (by omega)).2
  unfold partC
  split
  · rw [if_neg (by omega), if_neg (by omega)]
  · rfl
theorem claim_self {g : mz_S} (w : IE g) {b : Nat} (hb : b < 12) : claimC g b b = 0 := by
  have : debtC g b b (g 10 b) = 0 := by
    unfold debtC
    refine sumN_zero (fun c hc => ?_)
    rw [net_self w hb hc]
    unfold worthC
    rw [Int.zero_mul]
    rfl
  unfold claimC
  rw [this]
  rfl
theorem debt_self {g : mz_S} (w : IE g) {b : Nat} (hb : b < 12) (t : Int) : debtC g b b t = 0 := by
  unfold debtC
  refine sumN_zero (fun c hc => ?_)
  rw [net_self w hb hc]
  unfold worthC
  rw [Int.zero_mul]
  rfl
theorem claimC_bnd {g : mz_S} (wl : WfL0 g) (w : WfG g) {a b : Nat} (ha : a < 12) (hb : b < 12) : 0 ≤ claimC g a b ∧ claimC g a b ≤ 80000000000 := by
  have := debtC_bnd (t := g 10 a) wl w ha hb
  unfold claimC
  omega
/-- a set of brokers, as an int -/
def StP (x : Int) (P : Nat → Prop) : Prop := ∀ i, i < 32 → (zb x i = true ↔ P i)
theorem StP.ext {x y : Int} {P : Nat → Prop} (h : StP x P) (h2 : StP y P) : w32 x = w32 y := zb_ext (fun i hi => by
  have a := h i hi
  have b := h2 i hi
  cases hx : zb x i <;> cases hy : zb y i
  · rfl
  · exact absurd (a.mpr (b.mp hy)) (by rw [hx]; decide)
  · exact absurd (b.mpr (a.mp hx)) (by rw [hy]; decide)
  · rfl)
theorem StP.cg {x : Int} {P P' : Nat → Prop} (h : StP x P) (e : ∀ i, i < 32 → (P i ↔ P' i)) : StP x P' := fun i hi => (h i hi).trans (e i hi)
theorem StP.zero : StP 0 (fun _ => False) := fun i _ => by rw [zb_0]; simp
theorem StP.or {x : Int} {P : Nat → Prop} {k : Nat} (h : StP x P) (hk : k < 32) : StP (mx_ior x (mx_ishl 1 (k : Int))) (fun i => P i ∨ i = k) := fun i hi => by
  rw [zb_ior, zb_bit hk hi, Bool.or_eq_true, h i hi, decide_eq_true_iff]
theorem StP.or0 {x : Int} {P : Nat → Prop} (h : StP x P) : StP (mx_ior x 0) P := fun i hi => by
  rw [zb_ior, zb_0, Bool.or_false]; exact h i hi
theorem zb_not {x : Int} {i : Nat} (hi : i < 32) : zb (mx_ixor x (-1)) i = !(zb x i) := by
  rw [zb_ixor, zb_m1 i hi, Bool.xor_true]
theorem StP.minus {x : Int} {P : Nat → Prop} {k : Nat} (h : StP x P) (hk : k < 32) : StP (mx_iand x (mx_ixor (mx_ishl 1 (k : Int)) (-1))) (fun i => P i ∧ i ≠ k) := fun i hi => by
  rw [zb_iand, zb_not hi, zb_bit hk hi, Bool.and_eq_true, h i hi]
  simp
theorem StP.xor {x : Int} {P : Nat → Prop} {k : Nat} (h : StP x P) (hk : k < 32) (hP : P k) : StP (mx_ixor x (mx_ishl 1 (k : Int))) (fun i => P i ∧ i ≠ k) := fun i hi => by
  rw [zb_ixor, zb_bit hk hi]
  have := h i hi
  by_cases e : i = k
  · subst e
    rw [this.mpr hP]
    simp
  · rw [show decide (i = k) = false by simp [e], Bool.xor_false, this]
    exact ⟨fun z => ⟨z, e⟩, fun z => z.1⟩
theorem StP.nz {x : Int} {P : Nat → Prop} (h : StP x P) : w32 x = 0 ↔ ∀ i, i < 32 → ¬ P i := by
  constructor
  · intro e i hi hp
    have := (h i hi).mpr hp
    rw [← zb_w, e, zb_0] at this
    exact absurd this (by decide)
  · intro e
    have : StP 0 P := fun i hi => by
      rw [zb_0]
      exact ⟨fun z => absurd z (by decide), fun z => absurd z (e i hi)⟩
    rw [h.ext this]
    exact w32_0
theorem sX12_creditors {T : Nat × (Nat → Int32)} {d : Nat} {Q : mz_K} {X : mz_X} {g : mz_S} {c : mz_S} {y m : Nat} {st : Int} {P : Nat → Prop} (wl : WfL0 c) (wb : WfB c) (w : WfG c) (wn : WfN c) (rl : ReL c g) (rb : ReB c g) (re : ReE c g) (em : c 9 1 = (m : Int)) (hy : y < 12) (hs : StP st P) (k : ∀ g' v, Ch [168] [] g g' → (∀ x, x < m → (x ≠ y ∧ P x → g' 168 x = claimC c y x) ∧ (¬ (x ≠ y ∧ P x) → g' 168 x = 0)) → StP v (fun x => x < m ∧ x ≠ y ∧ P x ∧ 0 < claimC c y x) → Q v g') : zC T (d + 6) 311 [mx_R 99, mx_I (y : Int), mx_I st] g Q X := by
  have hw := wb.1
  refine zX12_creditors ?_
  have main : ∀ n t : Nat, t + n = m → ∀ G v, Ch [168] [] g G → (∀ x, x < t → (x ≠ y ∧ P x → G 168 x = claimC c y x) ∧ (¬ (x ≠ y ∧ P x) → G 168 x = 0)) → StP v (fun x => x < t ∧ x ≠ y ∧ P x ∧ 0 < claimC c y x) → aX12_creditors T (d + 5) Q X 5 [some (mx_R 99), some (mx_I (y : Int)), some (mx_I st), some (mx_I v), some (mx_I (t : Int))] [] G (0, 0) := by
    intro n
    induction n with
    | zero =>
      intro t ht G v cG hG hv
      refine zX12_creditors_5 ?_
      rw [cG.2 10 (by decide), rb.1, em]
      have : t = m := by omega
      subst this
      first | with_reducible refine c_lt ?_ ?_ (fun z => ?_) (fun z => ?_) | with_reducible refine c_le ?_ ?_ (fun z => ?_) (fun z => ?_) | with_reducible refine c_eq ?_ ?_ (fun z => ?_) (fun z => ?_) | with_reducible refine c_ne ?_ ?_ (fun z => ?_) (fun z => ?_)
      · omega
      · omega
      · exact k G v cG hG hv
      · omega
    | succ n ih =>
      intro t ht G v cG hG hv
      refine zX12_creditors_5 ?_
      rw [cG.2 10 (by decide), rb.1, em]
      have bn := claimC_bnd wl w (a := y) (b := t) hy (by omega)
      have put : ∀ s : Int, (0 ≤ s ∧ s ≤ 80000000000) → (t ≠ y ∧ P t → s = claimC c y t) → (¬ (t ≠ y ∧ P t) → s = 0) → aX12_creditors T (d + 5) Q X 46 [some (mx_R 99), some (mx_I (y : Int)), some (mx_I st), some (mx_I v), some (mx_I (t : Int))] [mx_J s, mx_I (t : Int), mx_R 168] G (0, 0) := by
        intro s hsb h1 h2
        refine zX12_creditors_46 ?_
        refine s_inN ?_ (fun ea => ?_)
        · omega
        try simp only [ea]
        clear ea
        intro G2 e2
        refine s_inN ?_ (fun ea => ?_)
        · omega
        try simp only [ea]
        clear ea
        have c2 : Ch [168] [] g G2 := by rw [e2]; exact cG.up (by decide) (by decide)
        rw [show G2 168 t = s by rw [e2, up_s]]
        have vals : ∀ x, x < t + 1 → (x ≠ y ∧ P x → G2 168 x = claimC c y x) ∧ (¬ (x ≠ y ∧ P x) → G2 168 x = 0) := by
          intro x hx
          rw [e2]
          by_cases e : x = t
          · subst e; rw [up_s]; exact ⟨h1, h2⟩
          · rw [up_i e]; exact hG x (by omega)
        have fin : ∀ b : Int, StP (mx_ior v b) (fun x => x < t + 1 ∧ x ≠ y ∧ P x ∧ 0 < claimC c y x) → aX12_creditors T (d + 5) Q X 68 [some (mx_R 99), some (mx_I (y : Int)), some (mx_I st), some (mx_I v), some (mx_I (t : Int))] [mx_I b, mx_I v] G2 (0, 0) := by
          intro b hb
          refine zX12_creditors_68 ?_
          rw [show (t : Int) + 1 = ((t + 1 : Nat) : Int) by omega]
          exact ih (t + 1) (by omega) G2 _ c2 vals hb
        first | with_reducible refine l_gt ?_ ?_ (fun z => ?_) (fun z => ?_) | with_reducible refine l_lt ?_ ?_ (fun z => ?_) (fun z => ?_) | with_reducible refine l_ge ?_ ?_ (fun z => ?_) (fun z => ?_) | with_reducible refine l_le ?_ ?_ (fun z => ?_) (fun z => ?_) | with_reducible refine l_eq ?_ ?_ (fun z => ?_) (fun z => ?_) | with_reducible refine l_ne ?_ ?_ (fun z => ?_) (fun z => ?_)
        · omega
        · omega
        · refine fin 0 (hv.or0.cg (fun i hi => ?_))
          constructor
          · rintro ⟨x1, x2⟩; exact ⟨by omega, x2⟩
          · rintro ⟨x1, x2, x3, x4⟩
            refine ⟨?_, x2, x3, x4⟩
            by_cases e : i = t
            · subst e
              have := h1 ⟨x2, x3⟩
              omega
            · omega
        · refine fin _ ((hv.or (k := t) (by omega)).cg (fun i hi => ?_))
          constructor
          · rintro (⟨x1, x2⟩ | rfl)
            · exact ⟨by omega, x2⟩
            · by_cases q : i ≠ y ∧ P i
              · exact ⟨by omega, q.1, q.2, by have := h1 q; omega⟩
              · have := h2 q; omega
          · rintro ⟨x1, x2⟩
            by_cases e : i = t
            · exact Or.inr e
            · exact Or.inl ⟨by omega, x2⟩
      first | with_reducible refine c_lt ?_ ?_ (fun z => ?_) (fun z => ?_) | with_reducible refine c_le ?_ ?_ (fun z => ?_) (fun z => ?_) | with_reducible refine c_eq ?_ ?_ (fun z => ?_) (fun z => ?_) | with_reducible refine c_ne ?_ ?_ (fun z => ?_) (fun z => ?_)
      · omega
      · omega
      · omega
      · first | with_reducible refine c_lt ?_ ?_ (fun z2 => ?_) (fun z2 => ?_) | with_reducible refine c_le ?_ ?_ (fun z2 => ?_) (fun z2 => ?_) | with_reducible refine c_eq ?_ ?_ (fun z2 => ?_) (fun z2 => ?_) | with_reducible refine c_ne ?_ ?_ (fun z2 => ?_) (fun z2 => ?_)
        · omega
        · omega
        · exact zX12_creditors_35 (put 0 (by omega) (fun q => absurd (by omega) q.1) (fun _ => rfl))
        · rw [zb_holds (by omega)]
          have hst := hs t (by omega)
          cases hz : zb st t with
          | true =>
            refine ⟨fun _ => ?_, fun z => absurd (by decide) z⟩
            refine sX12_claimOf (c := c) wl wb w wn (rl.fr cG (by decide) (by decide)) (rb.fr cG (by decide) (by decide)) (re.fr cG (by decide) (by decide)) hy (by omega) (put _ bn (fun _ => rfl) (fun q => absurd ⟨by omega, hst.mp hz⟩ q))
          | false =>
            refine ⟨fun z => absurd rfl z, fun _ => ?_⟩
            exact zX12_creditors_35 (put 0 (by omega) (fun q => by have := hst.mpr q.2; rw [hz] at this; exact absurd this (by decide)) (fun _ => rfl))
  exact main m 0 (by omega) g 0 (Ch.rf g) (fun x hx => absurd hx (Nat.not_lt_zero _)) (StP.zero.cg (fun i _ => ⟨fun z => z.elim, fun z => by omega⟩))
