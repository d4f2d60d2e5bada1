/-! a fall's entries -/
def enP (p : Nat → Int) : Nat → Nat → Nat
  | 0, _ => 0
  | m + 1, k => if 0 < p m ∧ k = cntP p m then m else enP p m k
theorem cntP_s (p : Nat → Int) (m : Nat) : cntP p (m + 1) = cntP p m + (if 0 < p m then 1 else 0) := rfl
theorem enP_at {p : Nat → Int} {m x : Nat} (hx : x < m) (hp : 0 < p x) : enP p m (cntP p x) = x := by
  induction m with
  | zero => omega
  | succ m ih =>
    unfold enP
    by_cases e : x = m
    · subst e; rw [if_pos ⟨hp, rfl⟩]
    · have := cntP_mono (p := p) (show x + 1 ≤ m by omega)
      rw [cntP_s, if_pos hp] at this
      rw [if_neg (fun z => by omega)]
      exact ih (by omega)
theorem enP_ok {p : Nat → Int} {m k : Nat} (hk : k < cntP p m) : enP p m k < m ∧ 0 < p (enP p m k) ∧ cntP p (enP p m k) = k := by
  induction m with
  | zero => exact absurd hk (Nat.not_lt_zero k)
  | succ m ih =>
    unfold enP
    by_cases z : 0 < p m ∧ k = cntP p m
    · rw [if_pos z]; exact ⟨by omega, z.1, z.2.symm⟩
    · rw [if_neg z]
      rw [cntP_s] at hk
      have : k < cntP p m := by
        by_cases q : 0 < p m
        · rw [if_pos q] at hk
          have : k ≠ cntP p m := fun r => z ⟨q, r⟩
          omega
        · rw [if_neg q] at hk; omega
      have := ih this
      exact ⟨by omega, this.2⟩
def faV (c : mz_S) (nt : Nat) (al : Nat → List pA) (m y k : Nat) : mvE := if k < cntP (faS c nt al m y) m then (y, enP (faS c nt al m y) m k, -(faS c nt al m y (enP (faS c nt al m y) m k)), 4, c 10 y) else (y, enP (faA c nt al m y) m (k - cntP (faS c nt al m y) m), -(faA c nt al m y (enP (faA c nt al m y) m (k - cntP (faS c nt al m y) m))), 5, c 10 y)
theorem faV_4 {c : mz_S} {nt m y : Nat} {al : Nat → List pA} : ∀ x, x < m → 0 < faS c nt al m y x → faV c nt al m y (cntP (faS c nt al m y) x) = (y, x, -(faS c nt al m y x), 4, c 10 y) := fun x hx hp => by
  have := cntP_mono (p := faS c nt al m y) (show x + 1 ≤ m by omega)
  rw [cntP_s, if_pos hp] at this
  unfold faV
  rw [if_pos (by omega), enP_at hx hp]
theorem faV_5 {c : mz_S} {nt m y : Nat} {al : Nat → List pA} : ∀ x, x < m → 0 < faA c nt al m y x → faV c nt al m y (cntP (faS c nt al m y) m + cntP (faA c nt al m y) x) = (y, x, -(faA c nt al m y x), 5, c 10 y) := fun x hx hp => by
  unfold faV
  rw [if_neg (by omega), show cntP (faS c nt al m y) m + cntP (faA c nt al m y) x - cntP (faS c nt al m y) m = cntP (faA c nt al m y) x by omega, enP_at hx hp]
theorem faN_cnt {c : mz_S} {nt m y : Nat} {al : Nat → List pA} : faN c nt al m y = ((cntP (faS c nt al m y) m + cntP (faA c nt al m y) m : Nat) : Int) := by
  unfold faN
  rw [sumN_add, ← cntP_sum, ← cntP_sum]
  omega
theorem cntP_le {p : Nat → Int} (m : Nat) : cntP p m ≤ m := by
  induction m with
  | zero => exact Nat.le_refl _
  | succ m ih => rw [cntP_s]; split <;> omega
theorem IE.fall {g g' : mz_S} (w : IE g) (e : ∀ q ∈ [15, 16, 17, 18, 19, 20, 21, 22, 23, 24, 25, 111, 112, 113, 114, 115, 116, 117, 118, 147], g' q = g q) (e9 : g' 99 16 = g 99 16) (hn : ∀ a b co : Nat, a < 12 → b < 12 → co < 4 → nbB g a b co ≤ nbB g' a b co) : IE g' := by
  unfold IE WfG WfN ReE WfNb ReM ReH netC partC hidR at w ⊢
  rw [e 15 (by decide), e 16 (by decide), e 17 (by decide), e 18 (by decide), e 19 (by decide), e 20 (by decide), e 21 (by decide), e 22 (by decide), e 23 (by decide), e 24 (by decide), e 25 (by decide), e 111 (by decide), e 112 (by decide), e 113 (by decide), e 114 (by decide), e 115 (by decide), e 116 (by decide), e 117 (by decide), e 118 (by decide), e 147 (by decide), e9]
  obtain ⟨w1, w2, w3, w4, w5, w6, w7⟩ := w
  refine ⟨w1, w2, w3, fun a b co ha hb hc => ?_, w5, w6, w7⟩
  have h1 := w4 a b co ha hb hc
  have h2 := hn a b co ha hb hc
  omega
