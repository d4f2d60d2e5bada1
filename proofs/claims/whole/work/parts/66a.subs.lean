/-! parts of a set, as numbers (pure) -/
theorem land_bit (a b : Nat) : (a &&& b) / 2 = a / 2 &&& b / 2 ∧ ((a &&& b) % 2 = 1 ↔ a % 2 = 1 ∧ b % 2 = 1) := ⟨Nat.and_div_two, Nat.and_mod_two_eq_one⟩
/-- the next part below is the greatest below -/
theorem sub_down : ∀ n part r s : Nat, r < 2 ^ n → s &&& part = s → r &&& part = r → s < r → s ≤ (r - 1) &&& part ∧ (r - 1) &&& part < r := by
  intro n
  induction n with
  | zero => intro part r s hr _ _ hs; rw [Nat.pow_zero] at hr; omega
  | succ n ih =>
    intro part r s hr hs hrp hlt
    rw [Nat.pow_succ] at hr
    have s1 := land_bit s part
    have r1 := land_bit r part
    have d1 := land_bit (r - 1) part
    rw [hs] at s1
    rw [hrp] at r1
    have lt : (r - 1) &&& part < r := Nat.lt_of_le_of_lt Nat.and_le_left (by omega)
    refine ⟨?_, lt⟩
    by_cases o : r % 2 = 1
    · have e : (r - 1) / 2 = r / 2 := by omega
      rw [e, ← r1.1] at d1
      omega
    · have e : (r - 1) / 2 = r / 2 - 1 := by omega
      rw [e] at d1
      have := ih (part / 2) (r / 2) (s / 2) (by omega) s1.1.symm r1.1.symm (by omega)
      omega
