/-! an entry more, on both sides; the call settle -/
theorem partC_neg {c : mz_S} {a b co : Int} (hab : ¬ a = b) (e : Nat) : partC c b a co e = - partC c a b co e := by
  unfold partC
  split
  · by_cases h1 : c 18 e = a ∧ c 19 e = b
    · rw [if_neg (by omega), if_pos h1, if_pos h1]
    · by_cases h2 : c 18 e = b ∧ c 19 e = a
      · rw [if_pos h2, if_neg h1, if_pos h2]; omega
      · rw [if_neg h2, if_neg h1, if_neg h1, if_neg h2]; rfl
  · rfl
theorem netC_neg {c : mz_S} (w : WfN c) {a b co : Nat} (ha : a < 12) (hb : b < 12) (hc : co < 4) (hab : a ≠ b) : netC c b a co = - netC c a b co := by
  rw [w a b co ha hb hc, w b a co hb ha hc, ← sumN_neg]
  exact sumN_congr (fun e _ => partC_neg (by omega) e)
theorem IE.rec {g g2 : mz_S} {m a b co : Nat} {t n s hd now : Int} (w : IE g) (em : g 15 2 = m) (hm : m < 400) (hnow : 0 ≤ now ∧ now ≤ 999) (ht : 0 ≤ t ∧ t < 8) (ha : a < 12) (hb : b < 12) (hab : a ≠ b) (hc : co < 4) (hn : -2000000000 ≤ n ∧ n ≤ 2000000000) (hs : 0 ≤ s ∧ s ≤ 5)
    (e13 : ∀ i : Nat, i < 12 → ¬ g 13 i = -1 → ¬ g2 13 i = -1) (e15 : g2 15 2 = m + 1) (e16 : g2 16 = lset (g 16) m now) (e17 : g2 17 = lset (g 17) m t) (e18 : g2 18 = lset (g 18) m a) (e19 : g2 19 = lset (g 19) m b) (e20 : g2 20 = lset (g 20) m co) (e21 : g2 21 = lset (g 21) m n) (e22 : g2 22 = lset (g 22) m s)
    (e23 : g2 23 = lset (lset (g 23) ((a * 12 + b) * 4 + co) (netC g a b co + n)) ((b * 12 + a) * 4 + co) (netC g b a co - n)) (e24 : g2 24 = g 24) (e25 : g2 25 = if s = 2 then lset (g 25) (a * 12 + b) (g 25 (a * 12 + b) + hd) else g 25)
    (e99 : g2 99 16 = m + 1) (e111 : g2 111 = lset (g 111) m now) (e112 : g2 112 = lset (g 112) m t) (e113 : g2 113 = lset (g 113) m a) (e114 : g2 114 = lset (g 114) m b) (e115 : g2 115 = lset (g 115) m co) (e116 : g2 116 = lset (g 116) m n) (e117 : g2 117 = lset (g 117) m s) (e118 : g2 118 = lset (g 118) m hd) (e147 : g2 147 = g 147)
    (hbd : - nbB g2 a b co ≤ netC g a b co + n ∧ netC g a b co + n ≤ nbB g2 a b co) : IE g2 := by
  obtain ⟨⟨a1, a2, a3, a4⟩, wn, ⟨r1, r2⟩, nb, mk, hid, srt⟩ := w
  have ng := netC_neg (c := g) wn ha hb hc hab
  have lt : ∀ (l : Nat → Int) (v : Int) (e : Nat), e < m → lset l m v e = l e := fun l v e he => lset_n (by omega)
  have n23 : ∀ x y z : Nat, x < 12 → y < 12 → z < 4 → netC g2 x y z = netC g x y z + (if x = a ∧ y = b ∧ z = co then n else if x = b ∧ y = a ∧ z = co then -n else 0) := by
    intro x y z hx hy hz
    unfold netC
    rw [e23]
    by_cases h1 : x = a ∧ y = b ∧ z = co
    · obtain ⟨rfl, rfl, rfl⟩ := h1
      rw [if_pos ⟨rfl, rfl, rfl⟩, lset_n (by omega), lset_s]; rfl
    · rw [if_neg h1]
      by_cases h2 : x = b ∧ y = a ∧ z = co
      · obtain ⟨rfl, rfl, rfl⟩ := h2
        rw [if_pos ⟨rfl, rfl, rfl⟩, lset_s]
        unfold netC; omega
      · rw [if_neg h2, lset_n (by omega), lset_n (by omega), Int.add_zero]
  have mono : ∀ x y z : Nat, x < 12 → y < 12 → nbB g x y z + 100000 ≤ nbB g2 x y z := by
    intro x y z hx hy
    have f1 := e13 x hx
    have f2 := e13 y hy
    unfold nbB
    rw [e15, em]
    by_cases h1 : z = 0 ∧ (¬ g 13 x = -1 ∨ ¬ g 13 y = -1)
    · rw [if_pos h1, if_pos ⟨h1.1, by rcases h1.2 with z | z; exact Or.inl (f1 z); exact Or.inr (f2 z)⟩]; omega
    · rw [if_neg h1]
      split <;> omega
  have nbs : ∀ x y z : Nat, nbB g2 x y z = nbB g2 y x z := by
    intro x y z
    unfold nbB
    congr 1
    by_cases h1 : z = 0 ∧ (¬ g2 13 x = -1 ∨ ¬ g2 13 y = -1)
    · rw [if_pos h1, if_pos ⟨h1.1, h1.2.symm⟩]
    · rw [if_neg h1, if_neg (fun q => h1 ⟨q.1, q.2.symm⟩)]
  have nb2 : WfNb g2 := by
    intro x y z hx hy hz
    have h1 := nb x y z hx hy hz
    have h2 := mono x y z hx hy
    rw [n23 x y z hx hy hz]
    by_cases q1 : x = a ∧ y = b ∧ z = co
    · obtain ⟨rfl, rfl, rfl⟩ := q1
      rw [if_pos ⟨rfl, rfl, rfl⟩]; exact hbd
    · rw [if_neg q1]
      by_cases q2 : x = b ∧ y = a ∧ z = co
      · obtain ⟨rfl, rfl, rfl⟩ := q2
        rw [if_pos ⟨rfl, rfl, rfl⟩, ng, nbs]; omega
      · rw [if_neg q2]; omega
  have nbm : ∀ x y z : Nat, nbB g2 x y z ≤ 1640100000 := by
    intro x y z
    unfold nbB
    rw [e15]
    split <;> omega
  refine ⟨⟨by omega, fun k hk => ?_, fun i hi => ?_, by rw [e24]; exact a4⟩, fun x y z hx hy hz => ?_, ⟨by omega, fun e he => ?_⟩, nb2, by unfold ReM; rw [e147, e24]; exact mk, fun x y hx hy => ?_, fun k hk => ?_⟩
  · have := a2 k hk
    rw [e16, e17, e18, e19, e20, e21]
    unfold lset
    split <;> omega
  · -- each place is a net's
    obtain ⟨x, y, z, hx, hy, hz, ei⟩ : ∃ x y z : Nat, x < 12 ∧ y < 12 ∧ z < 4 ∧ i = (x * 12 + y) * 4 + z := ⟨i / 48, i / 4 % 12, i % 4, by omega, by omega, by omega, by omega⟩
    have h1 := nb2 x y z hx hy hz
    have h2 := nbm x y z
    unfold netC at h1
    rw [ei]; omega
  · have hsum : sumN (partC g2 x y z) (m + 1) = sumN (partC g x y z) m + partC g2 x y z m := by
      show sumN (partC g2 x y z) m + _ = _
      congr 1
      refine sumN_congr (fun e he => ?_)
      unfold partC
      rw [e18, e19, e20, e21, lt _ _ e he, lt _ _ e he, lt _ _ e he, lt _ _ e he]
    have hp : partC g2 x y z m = if x = a ∧ y = b ∧ z = co then n else if x = b ∧ y = a ∧ z = co then -n else 0 := by
      unfold partC
      rw [e18, e19, e20, e21, lset_s, lset_s, lset_s, lset_s]
      by_cases q1 : x = a ∧ y = b ∧ z = co
      · rw [if_pos q1, if_pos (by omega), if_pos (by omega)]
      · rw [if_neg q1]
        by_cases q2 : x = b ∧ y = a ∧ z = co
        · rw [if_pos q2, if_pos (by omega), if_neg (by omega), if_pos (by omega)]
        · rw [if_neg q2]
          by_cases q3 : z = co
          · rw [if_pos (by omega), if_neg (by omega), if_neg (by omega)]
          · rw [if_neg (by omega)]
    rw [n23 x y z hx hy hz, e15, show ((m : Int) + 1).toNat = m + 1 by omega, hsum, hp, wn x y z hx hy hz, em]
    rfl
  · have := r2 e he
    rw [e16, e17, e18, e19, e20, e21, e22, e111, e112, e113, e114, e115, e116, e117]
    unfold lset
    split
    · exact ⟨rfl, rfl, rfl, rfl, rfl, rfl, rfl⟩
    · exact this
  · have hsum : sumN (hidR g2 x y) (m + 1) = sumN (hidR g x y) m + hidR g2 x y m := by
      show sumN (hidR g2 x y) m + _ = _
      congr 1
      refine sumN_congr (fun e he => ?_)
      unfold hidR
      rw [e113, e114, e117, e118, lt _ _ e he, lt _ _ e he, lt _ _ e he, lt _ _ e he]
    have hp : hidR g2 x y m = if s = 2 ∧ a = x ∧ b = y then hd else 0 := by
      unfold hidR
      rw [e113, e114, e117, e118, lset_s, lset_s, lset_s, lset_s]
      by_cases q : s = 2 ∧ a = x ∧ b = y
      · rw [if_pos q, if_pos (by omega)]
      · rw [if_neg q, if_neg (by omega)]
    have h0 := hid x y hx hy
    rw [em] at h0
    rw [e15, show ((m : Int) + 1).toNat = m + 1 by omega, hsum, hp, e25]
    rw [show ((m : Int)).toNat = m by omega] at h0
    by_cases q : s = 2
    · rw [if_pos q]
      by_cases q2 : a = x ∧ b = y
      · obtain ⟨rfl, rfl⟩ := q2
        rw [if_pos ⟨q, rfl, rfl⟩, lset_s, h0]
      · rw [if_neg (fun z => q2 z.2), lset_n (by omega), h0, Int.add_zero]
    · rw [if_neg q, if_neg (fun z => q z.1), h0, Int.add_zero]
  · rw [e22, e18, e19]
    rcases Nat.lt_trichotomy k m with z | z | z
    · rw [lt _ _ k z, lt _ _ k z, lt _ _ k z]; exact srt k (by omega)
    · subst z; rw [lset_s, lset_s, lset_s]; exact ⟨hs, by omega⟩
    · omega
theorem IB.coins {S F : List Nat} {g g2 : mz_S} (w : IB g) (h : Ch S F g g2) (hS : ∀ q ∈ [1, 9, 10, 11, 12, 13, 106, 107, 108, 109], q ∉ S) (hF : ∀ f ∈ [10], f ∉ F) (e : ∀ i, i < 48 → w32 (g2 110 i) = w32 (g2 14 i)) (hr : ∀ i, i < 48 → 0 ≤ g2 14 i ∧ g2 14 i ≤ 10000000) : IB g2 := by
  have ee : ∀ q ∈ [1, 9, 10, 11, 12, 13, 106, 107, 108, 109], g2 q = g q := fun q hq => h.1 q (hS q hq) (by intro z; subst z; revert hq; decide)
  unfold IB WfB ReB at w ⊢
  rw [ee 1 (by decide), ee 9 (by decide), ee 10 (by decide), ee 11 (by decide), ee 12 (by decide), ee 13 (by decide), ee 106 (by decide), ee 107 (by decide), ee 108 (by decide), ee 109 (by decide), h.2 10 (hF 10 (by decide))]
  exact ⟨⟨w.1.1, w.1.2.1, hr⟩, ⟨w.2.1.1, w.2.1.2.1, e⟩, w.2.2⟩
theorem WfB.up14 {g : mz_S} (w : WfB g) {i : Nat} {v : Int} (hv : 0 ≤ v ∧ v ≤ 10000000) : WfB (mx_up g 14 i v) := by
  unfold WfB at w ⊢
  simp only [up_at]
  refine ⟨w.1, w.2.1, fun j hj => ?_⟩
  have := w.2.2 j hj
  show 0 ≤ lset (g 14) i v j ∧ lset (g 14) i v j ≤ 10000000
  unfold lset
  split <;> omega
