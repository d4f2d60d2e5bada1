/-! groups (pure) -/
def sbS (n : Nat) (bal : Nat → Int) (p : Nat) : Int := sumN (fun k => if p.testBit k = true then bal k else 0) n
/-- what may be left when the group with the lowest member goes -/
def gV (S : Nat → Int) (p r : Nat) : Prop := r &&& (p &&& (p - 1)) = r ∧ S r = 0
theorem gV_lt {S : Nat → Int} {p r : Nat} (hp : p ≠ 0) (h : gV S p r) : r < p := by
  have h1 : r ≤ p &&& (p - 1) := by rw [← h.1]; exact Nat.and_le_right
  have h2 : p &&& (p - 1) ≤ p - 1 := Nat.and_le_right
  omega
def GT (S G : Nat → Int) (N : Nat) : Prop := ∀ p, p < N → (S p ≠ 0 → G p = -1) ∧ (S p = 0 → p = 0 → G p = 0) ∧ (S p = 0 → p ≠ 0 → (∀ r, gV S p r → G r + 1 ≤ G p) ∧ ∃ r, gV S p r ∧ G r + 1 = G p)
theorem GT_uniq {S G G' : Nat → Int} {N : Nat} (h : GT S G N) (h' : GT S G' N) : ∀ p, p < N → G p = G' p := by
  intro p
  induction p using Nat.strongRecOn with
  | ind p ih =>
    intro hp
    have a := h p hp
    have b := h' p hp
    by_cases s : S p = 0
    · by_cases z : p = 0
      · rw [a.2.1 s z, b.2.1 s z]
      · obtain ⟨a1, r, r1, r2⟩ := a.2.2 s z
        obtain ⟨b1, q, q1, q2⟩ := b.2.2 s z
        have e1 := ih r (gV_lt z r1) (by have := gV_lt z r1; omega)
        have e2 := ih q (gV_lt z q1) (by have := gV_lt z q1; omega)
        have c1 := b1 r r1
        have c2 := a1 q q1
        omega
    · rw [a.1 s, b.1 s]
theorem GT_rng {S G : Nat → Int} {N : Nat} (h : GT S G N) (h0 : S 0 = 0) : ∀ p, p < N → -1 ≤ G p ∧ G p ≤ p ∧ (S p = 0 → 0 ≤ G p) := by
  intro p
  induction p using Nat.strongRecOn with
  | ind p ih =>
    intro hp
    have a := h p hp
    by_cases s : S p = 0
    · by_cases z : p = 0
      · have := a.2.1 s z; omega
      · obtain ⟨a1, r, r1, r2⟩ := a.2.2 s z
        have lt := gV_lt z r1
        have := ih r lt (by omega)
        have := this.2.2 r1.2
        omega
    · have := a.1 s
      exact ⟨by omega, by omega, fun q => absurd q s⟩
