/-! what is said lies within its bounds -/
theorem lea_mos : ∀ s : Nat, s < 9 → w64 (mx_lea.getD s 0) = mx_lea.getD s 0 ∧ w64 (mx_mos.getD s 0) = mx_mos.getD s 0 ∧ w64 (mx_uns.getD s 0) = mx_uns.getD s 0 ∧ mx_lea.getD s 0 ≤ mx_mos.getD s 0 ∧ mx_lea.getD s 0 ≤ mx_uns.getD s 0 ∧ mx_uns.getD s 0 ≤ mx_mos.getD s 0 ∧ -1000 ≤ mx_lea.getD s 0 ∧ mx_mos.getD s 0 ≤ 1000000000 := by decide +kernel
theorem cv_rng {s : Nat} {v : Int} (hs : s < 9) : mx_lea.getD s 0 ≤ w64 (cv s v) ∧ w64 (cv s v) ≤ mx_mos.getD s 0 := by
  have h := lea_mos s hs
  unfold cv
  generalize mx_lea.getD s 0 = m at *
  generalize mx_mos.getD s 0 = M at *
  have h1 : w64 (lmin M v) ≤ M := by
    unfold lmin
    split <;> omega
  unfold lmax
  split <;> omega
theorem askP_rng {nm : Nat → Int} {cn : Nat → pA} {M s : Nat} (hs : s < 9) : ∀ p, mx_lea.getD s 0 ≤ w64 (askP nm cn M s p) ∧ w64 (askP nm cn M s p) ≤ mx_mos.getD s 0 := by
  intro p
  induction p with
  | zero =>
    have h := lea_mos s hs
    show mx_lea.getD s 0 ≤ w64 (mx_uns.getD s 0) ∧ w64 (mx_uns.getD s 0) ≤ mx_mos.getD s 0
    omega
  | succ p ih =>
    unfold askP
    split
    · exact cv_rng hs
    · exact ih
