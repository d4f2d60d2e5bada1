/-! a fall, as it is foreseen (pure) -/
theorem spI_le {m : Nat} {G : Nat → Bool} {all : Int} {due : Nat → Int} (hall : 0 < all) : ∀ n {p r : Nat → Int}, spV m G all n r → (∀ x, x < m → p x ≤ due x ∧ (0 < r x → p x + 1 ≤ due x)) → ∀ x, x < m → (spI m n (p, r)).1 x ≤ due x := by
  intro n
  induction n with
  | zero => intro p r _ h x hx; exact (h x hx).1
  | succ n ih =>
    intro p r hV h
    obtain ⟨p1, p2, p3⟩ := spV_pos hall hV
    refine ih (p := fun x => if x = bo r m then p x + 1 else p x) (spV_step hall hV) (fun x hx => ?_)
    have hh := h x hx
    by_cases e : x = bo r m
    · simp only [if_pos e]
      rw [e] at hh ⊢
      exact ⟨hh.2 p1, fun q => absurd q (by omega)⟩
    · simp only [if_neg e]
      exact hh
theorem spF_le {sum : Int} {w : Nat → Int} {G : Nat → Bool} {m : Nat} (hall : 0 < sG w G m) (hs : 0 ≤ sum ∧ sum ≤ sG w G m) (hw : ∀ x, x < m → G x = true → 0 ≤ w x) : ∀ x, x < m → G x = true → spF sum w G m x ≤ w x := by
  intro x hx hg
  have h := spV_0 (sum := sum) hall
  have := spI_le (due := fun x => if G x = true then w x else 0) hall (spN sum w G m) (p := spP sum w G m) h.1 (fun x hx => ?_) x hx
  · simp only [if_pos hg] at this
    exact this
  · unfold spP spR
    by_cases z : G x = true
    · simp only [if_pos z]
      have hwx := hw x hx z
      have e := Int.mul_ediv_add_emod (sum * w x) (sG w G m)
      have e0 := Int.emod_nonneg (sum * w x) (show sG w G m ≠ 0 by omega)
      have le : sum * w x ≤ sG w G m * w x := Int.mul_le_mul_of_nonneg_right hs.2 hwx
      obtain ⟨q, hq⟩ : ∃ q, q = sum * w x / sG w G m := ⟨_, rfl⟩
      rw [← hq] at e ⊢
      refine ⟨?_, fun r => ?_⟩
      · refine Int.not_lt.mp (fun z => ?_)
        have : sG w G m * (w x + 1) ≤ sG w G m * q := Int.mul_le_mul_of_nonneg_left (by omega) (by omega)
        rw [Int.mul_add, Int.mul_one] at this
        omega
      · refine Int.not_lt.mp (fun z => ?_)
        have : sG w G m * w x ≤ sG w G m * q := Int.mul_le_mul_of_nonneg_left (by omega) (by omega)
        omega
    · simp only [if_neg z]
      exact ⟨by omega, fun r => by omega⟩
theorem shF_le {due rk : Nat → Int} {m : Nat} : ∀ n {L : Int} {W : Nat → Bool}, 0 ≤ L → (∀ x, x < m → W x = true → 0 < due x) → ∀ x, x < m → W x = true → shF due rk m n L W x ≤ due x := by
  intro n
  induction n with
  | zero => intro L W _ hd x hx hw; exact Int.le_of_lt (hd x hx hw)
  | succ n ih =>
    intro L W hL hd x hx hw
    have hgd : ∀ x, x < m → grB rk W m x = true → 0 ≤ due x := fun x hx hg => Int.le_of_lt (hd x hx (grB_iff.mp hg).2.1)
    unfold shF
    split
    · rename_i hg
      have hall : 0 < sG due (grB rk W m) m := sG_gt hx hg (hd x hx (grB_iff.mp hg).2.1) hgd
      exact spF_le hall (by omega) hgd x hx hg
    · rename_i hg
      have sp : 0 ≤ sG due (grB rk W m) m := sumN_pos (fun x hx => by
        show 0 ≤ (if grB rk W m x = true then due x else 0)
        split
        · exact hgd x hx (by assumption)
        · omega)
      exact ih (by omega) (fun x hx hw => hd x hx (by rw [Bool.and_eq_true] at hw; exact hw.1)) x hx (by rw [hw]; simpa using hg)
def dnF (c : mz_S) (m i : Nat) : Bool := decide (i < m ∧ ¬ c 13 i = -1)
def faS (c : mz_S) (nt : Nat) (al : Nat → List pA) (m y : Nat) : Nat → Int := shC c nt al m (dnF c m) y
def faM (c : mz_S) (nt : Nat) (al : Nat → List pA) (m y x : Nat) : Int := if crB c m (dnF c m) y x = true then claimC c y x - faS c nt al m y x else 0
def faT (c : mz_S) (nt : Nat) (al : Nat → List pA) (m y : Nat) : Int := sumN (faM c nt al m y) m
def faK (c : mz_S) (m y x : Nat) : Bool := decide (x < m ∧ x ≠ y ∧ c 11 x = c 11 y ∧ c 13 x = -1)
def faH (c : mz_S) (m y : Nat) : Int := cnW (faK c m y) m
def faP (c : mz_S) (nt : Nat) (al : Nat → List pA) (m y : Nat) : Int := w64 (akF c nt al y y (faT c nt al m y) 0 6)
def faE (c : mz_S) (nt : Nat) (al : Nat → List pA) (m y : Nat) : Int := faT c nt al m y * faP c nt al m y / 100 / faH c m y
def faB (c : mz_S) (nt : Nat) (al : Nat → List pA) (m y x : Nat) : Int := if faK c m y x = true then min (faE c nt al m y) (min 10000000 (c 14 (x * 4) + faS c nt al m y x)) else 0
def faU (c : mz_S) (nt : Nat) (al : Nat → List pA) (m y : Nat) : Int := sumN (faB c nt al m y) m
def faA (c : mz_S) (nt : Nat) (al : Nat → List pA) (m y x : Nat) : Int := if crB c m (dnF c m) y x = true ∧ 0 < sG (faM c nt al m y) (crB c m (dnF c m) y) m then spF (faU c nt al m y) (faM c nt al m y) (crB c m (dnF c m) y) m x else 0
def faN (c : mz_S) (nt : Nat) (al : Nat → List pA) (m y : Nat) : Int := sumN (fun x => (if 0 < faS c nt al m y x then 1 else 0) + (if 0 < faA c nt al m y x then 1 else 0)) m
theorem sumN_ext {f : Nat → Int} {n m : Nat} (h : n ≤ m) (hz : ∀ x, n ≤ x → f x = 0) : sumN f m = sumN f n := by
  induction m with
  | zero => rw [show n = 0 by omega]
  | succ m ih =>
    by_cases e : n = m + 1
    · rw [e]
    · show sumN f m + f m = _
      rw [ih (by omega), hz m (by omega), Int.add_zero]
theorem fa_bnd {c : mz_S} {nt m y : Nat} {al : Nat → List pA} (wl : WfL0 c) (wb : WfB c) (ie : IE c) (em : c 9 1 = (m : Int)) (hy : y < m) : (∀ x, x < m → 0 ≤ faS c nt al m y x ∧ faS c nt al m y x ≤ 20000000000) ∧ (∀ x, x < m → 0 ≤ faM c nt al m y x ∧ faM c nt al m y x ≤ 20000000000) ∧ (0 ≤ faT c nt al m y ∧ faT c nt al m y ≤ 240000000000) ∧ (0 ≤ faH c m y ∧ faH c m y ≤ 12) ∧ (0 ≤ faP c nt al m y ∧ faP c nt al m y ≤ 100) ∧ (∀ x, x < m → 0 ≤ faB c nt al m y x ∧ faB c nt al m y x ≤ 10000000) ∧ (0 ≤ faU c nt al m y ∧ faU c nt al m y ≤ 120000000) := by
  have hw := wb.1
  have bdw := dworthC_bnd wl wb (show y < 12 by omega)
  have mem : ∀ x, x < m → crB c m (dnF c m) y x = true → 0 < claimC c y x := fun x _ h => (crB_iff.mp h).2.2
  have cl : ∀ x, x < m → 0 ≤ claimC c y x ∧ claimC c y x ≤ 20000000000 := fun x hx => claim_le wl ie (by omega) (by omega)
  have s0 : ∀ x, x < m → 0 ≤ faS c nt al m y x := fun x hx => shF_pos 12 bdw.1 mem x hx
  have s1 : ∀ x, x < m → crB c m (dnF c m) y x = true → faS c nt al m y x ≤ claimC c y x := fun x hx h => shF_le 12 bdw.1 mem x hx h
  have s2 : ∀ x, x < m → faS c nt al m y x ≤ 20000000000 := fun x hx => by
    by_cases q : crB c m (dnF c m) y x = true
    · have := s1 x hx q; have := cl x hx; omega
    · have : faS c nt al m y x = 0 := shF_out 12 (by simpa using q)
      omega
  have m0 : ∀ x, x < m → 0 ≤ faM c nt al m y x ∧ faM c nt al m y x ≤ 20000000000 := fun x hx => by
    unfold faM
    split
    · have := s1 x hx (by assumption); have := s0 x hx; have := cl x hx; omega
    · omega
  have t0 : 0 ≤ faT c nt al m y := sumN_pos (fun x hx => (m0 x hx).1)
  have t1 : faT c nt al m y ≤ m * 20000000000 := sumN_le (fun x hx => (m0 x hx).2)
  have h0 : 0 ≤ faH c m y := sumN_pos (fun x _ => by show (0 : Int) ≤ (if faK c m y x = true then 1 else 0); split <;> omega)
  have h1 : faH c m y ≤ m := cnW_le m
  have p := akF_rng (g := c) (nt := nt) (al := al) (a := y) (b := y) (n := faT c nt al m y) (coin := 0) (s := 6) (by decide)
  have p0 : 0 ≤ faP c nt al m y ∧ faP c nt al m y ≤ 100 := ⟨p.1, p.2⟩
  have e0 : 0 ≤ faE c nt al m y := Int.ediv_nonneg (Int.ediv_nonneg (Int.mul_nonneg t0 p0.1) (by omega)) h0
  have b0 : ∀ x, x < m → 0 ≤ faB c nt al m y x ∧ faB c nt al m y x ≤ 10000000 := fun x hx => by
    have o := wb.2.2 (x * 4) (by omega)
    have := s0 x hx
    unfold faB
    split
    · omega
    · omega
  have u0 : 0 ≤ faU c nt al m y := sumN_pos (fun x hx => (b0 x hx).1)
  have u1 : faU c nt al m y ≤ m * 10000000 := sumN_le (fun x hx => (b0 x hx).2)
  exact ⟨fun x hx => ⟨s0 x hx, s2 x hx⟩, m0, ⟨t0, by omega⟩, ⟨h0, by omega⟩, p0, b0, ⟨u0, by omega⟩⟩
