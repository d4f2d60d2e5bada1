/-! tokens as a pure function of bytes -/
def cLt (c : Int) : Bool := decide (97 ≤ c ∧ c ≤ 122)
def cDg (c : Int) : Bool := decide (48 ≤ c ∧ c ≤ 57)
def cBl (c : Int) : Bool := decide (c = 10 ∨ c = 32)
def cSg (c : Int) : Bool := ([59, 58, 60, 62, 61, 43, 45, 42, 47, 37, 40, 41, 91, 93] : List Int).contains c
def rn (p : Int → Bool) (b : Nat → Int) (n : Nat) : Nat → Nat → Nat
  | 0, i => i
  | f + 1, i => if i < n ∧ p (b i) = true then rn p b n f (i + 1) else i
def rnE (p : Int → Bool) (b : Nat → Int) (n i : Nat) : Nat := rn p b n (n - i) i
theorem rnE_s {p : Int → Bool} {b : Nat → Int} {n i : Nat} (h : i < n) (hp : p (b i) = true) : rnE p b n i = rnE p b n (i + 1) := by
  unfold rnE
  rw [show n - i = (n - (i + 1)) + 1 by omega]
  show (if i < n ∧ p (b i) = true then rn p b n (n - (i + 1)) (i + 1) else i) = _
  rw [if_pos ⟨h, hp⟩]
theorem rnE_e {p : Int → Bool} {b : Nat → Int} {n i : Nat} (h : ¬ (i < n ∧ p (b i) = true)) : rnE p b n i = i := by
  unfold rnE
  rcases Nat.lt_or_ge i n with z | z
  · rw [show n - i = (n - (i + 1)) + 1 by omega]
    show (if i < n ∧ p (b i) = true then rn p b n (n - (i + 1)) (i + 1) else i) = _
    rw [if_neg h]
  · rw [show n - i = 0 by omega]; rfl
theorem rnE_p {p : Int → Bool} {b : Nat → Int} {n : Nat} : ∀ i, i ≤ n → i ≤ rnE p b n i ∧ rnE p b n i ≤ n ∧ (∀ j, i ≤ j → j < rnE p b n i → p (b j) = true) ∧ ¬ (rnE p b n i < n ∧ p (b (rnE p b n i)) = true) := by
  refine upto (P := fun i => i ≤ rnE p b n i ∧ rnE p b n i ≤ n ∧ (∀ j, i ≤ j → j < rnE p b n i → p (b j) = true) ∧ ¬ (rnE p b n i < n ∧ p (b (rnE p b n i)) = true)) ?_ (fun i hi ih => ?_)
  · have e : rnE p b n n = n := rnE_e (fun z => absurd z.1 (Nat.lt_irrefl _))
    rw [e]
    exact ⟨Nat.le_refl _, Nat.le_refl _, fun j a c => by omega, fun z => absurd z.1 (Nat.lt_irrefl _)⟩
  · by_cases hp : p (b i) = true
    · rw [rnE_s hi hp]
      refine ⟨by omega, ih.2.1, fun j a c => ?_, ih.2.2.2⟩
      rcases Nat.lt_or_ge i j with z | z
      · exact ih.2.2.1 j z c
      · rw [show j = i by omega]; exact hp
    · rw [rnE_e (fun z => hp z.2)]
      exact ⟨Nat.le_refl _, by omega, fun j a c => by omega, fun z => hp z.2⟩
def wds : List (List Int) := [[102, 101, 101], [100, 105, 101, 115], [98, 111, 117, 110, 100], [114, 97, 110, 107], [98, 101, 97, 114, 115], [108, 111, 115, 115], [98, 97, 110], [118, 111, 105, 100], [110], [99, 111, 105, 110], [119, 97, 121], [115, 101, 97, 115, 111, 110, 115], [107, 105, 110], [100, 97, 121], [116, 105, 109, 101], [102, 114, 111, 109], [116, 111], [110, 101, 97, 114], [102, 97, 114], [116, 101, 108, 108, 101, 114], [112, 97, 121, 101, 114], [117, 110, 108, 101, 115, 115], [111, 114], [97, 110, 100], [110, 111, 116]]
def wdE (b : Nat → Int) (q e : Nat) (w : List Int) : Bool := decide (e - q = w.length) && (List.range w.length).all (fun i => decide (b (q + i) = w.getD i 0))
theorem wdE_iff {b : Nat → Int} {q e : Nat} {w : List Int} : wdE b q e w = true ↔ e - q = w.length ∧ ∀ i, i < w.length → b (q + i) = w.getD i 0 := by
  unfold wdE
  rw [Bool.and_eq_true, decide_eq_true_eq, List.all_eq_true]
  constructor
  · rintro ⟨a, c⟩
    exact ⟨a, fun i hi => decide_eq_true_eq.mp (c i (List.mem_range.mpr hi))⟩
  · rintro ⟨a, c⟩
    exact ⟨a, fun i hi => decide_eq_true_eq.mpr (c i (List.mem_range.mp hi))⟩
def wkL (b : Nat → Int) (q e : Nat) : List (List Int) → Int → Int
  | [], _ => 153
  | w :: r, k => if wdE b q e w = true then k else wkL b q e r (k + 1)
def vlF (b : Nat → Int) (q : Nat) : Nat → Int
  | 0 => 0
  | m + 1 => vlF b q m * 10 + b (q + m) - 48
/-- kind, place, end, value of the token at a place or behind it -/
def lexT (b : Nat → Int) (n p : Nat) : Int × Nat × Nat × Int :=
  let q := rnE cBl b n p
  if q < n then
    (if cLt (b q) = true then (wkL b q (rnE cLt b n (q + 1)) wds 128, q, rnE cLt b n (q + 1), 0)
     else if cDg (b q) = true then (if rnE cDg b n (q + 1) - q ≤ 6 then (154, q, rnE cDg b n (q + 1), vlF b q (rnE cDg b n (q + 1) - q)) else (156, q, rnE cDg b n (q + 1), 0))
     else if cSg (b q) = true then (b q, q, q + 1, 0)
     else (156, q, q + 1, 0))
  else (155, n, n, 0)
def tk (b : Nat → Int) (n : Nat) : Nat → Nat → Int × Nat × Nat × Int
  | 0, p => lexT b n p
  | i + 1, p => tk b n i (lexT b n p).2.2.1
theorem lexT_bl {b : Nat → Int} {n p : Nat} (h : p < n) (hp : cBl (b p) = true) : lexT b n p = lexT b n (p + 1) := by
  unfold lexT
  rw [rnE_s h hp]
theorem tk_bl {b : Nat → Int} {n p : Nat} (h : p < n) (hp : cBl (b p) = true) (i : Nat) : tk b n i p = tk b n i (p + 1) := by
  cases i with
  | zero => exact lexT_bl h hp
  | succ i => show tk b n i _ = tk b n i _; rw [lexT_bl h hp]
theorem lexT_at {b : Nat → Int} {n p : Nat} (h : p < n) (hp : ¬ cBl (b p) = true) : lexT b n p = if cLt (b p) = true then (wkL b p (rnE cLt b n (p + 1)) wds 128, p, rnE cLt b n (p + 1), 0)
     else if cDg (b p) = true then (if rnE cDg b n (p + 1) - p ≤ 6 then (154, p, rnE cDg b n (p + 1), vlF b p (rnE cDg b n (p + 1) - p)) else (156, p, rnE cDg b n (p + 1), 0))
     else if cSg (b p) = true then (b p, p, p + 1, 0)
     else (156, p, p + 1, 0) := by
  unfold lexT
  rw [rnE_e (fun z => hp z.2)]
  show (if p < n then _ else _) = _
  rw [if_pos h]
theorem lexT_end {b : Nat → Int} {n p : Nat} (h : n ≤ p) (hp : p ≤ n) : lexT b n p = (155, n, n, 0) := by
  unfold lexT
  rw [rnE_e (fun z => by omega)]
  show (if p < n then _ else _) = _
  rw [if_neg (by omega)]
theorem vlF_rng {b : Nat → Int} {q m : Nat} (h : ∀ j, j < m → cDg (b (q + j)) = true) : 0 ≤ vlF b q m ∧ vlF b q m < 10 ^ m := by
  induction m with
  | zero => exact ⟨Int.le_refl _, by show (0 : Int) < 1; decide⟩
  | succ m ih =>
    have i1 := ih (fun j hj => h j (by omega))
    have i2 := h m (by omega)
    unfold cDg at i2
    rw [decide_eq_true_eq] at i2
    show 0 ≤ vlF b q m * 10 + b (q + m) - 48 ∧ vlF b q m * 10 + b (q + m) - 48 < 10 ^ (m + 1)
    rw [Int.pow_succ]
    generalize (10 : Int) ^ m = P at i1
    omega
theorem wkL_rng {b : Nat → Int} {q e : Nat} (ws : List (List Int)) (k : Int) (hk : 128 ≤ k) (hk2 : k + ws.length ≤ 153) : 128 ≤ wkL b q e ws k ∧ wkL b q e ws k ≤ 153 := by
  induction ws generalizing k with
  | nil => exact ⟨by show (128 : Int) ≤ 153; decide, by show (153 : Int) ≤ 153; decide⟩
  | cons w r ih =>
    rw [List.length_cons] at hk2
    show 128 ≤ (if wdE b q e w = true then k else wkL b q e r (k + 1)) ∧ (if wdE b q e w = true then k else wkL b q e r (k + 1)) ≤ 153
    split
    · omega
    · exact ih (k + 1) (by omega) (by omega)
theorem cSg_rng {c : Int} (h : cSg c = true) : 37 ≤ c ∧ c ≤ 93 ∧ ¬ (48 ≤ c ∧ c ≤ 57) := by
  unfold cSg at h
  simp only [List.contains_iff_mem, List.mem_cons, List.not_mem_nil, or_false] at h
  omega
/-- what a token is like -/
theorem lexT_ok {b : Nat → Int} {n p : Nat} (hp : p ≤ n) : (0 ≤ (lexT b n p).1 ∧ (lexT b n p).1 ≤ 156) ∧ p ≤ (lexT b n p).2.1 ∧ (lexT b n p).2.1 ≤ (lexT b n p).2.2.1 ∧ (lexT b n p).2.2.1 ≤ n ∧ (¬ (lexT b n p).1 = 155 → (lexT b n p).2.1 < (lexT b n p).2.2.1) ∧ (0 ≤ (lexT b n p).2.2.2 ∧ (lexT b n p).2.2.2 ≤ 999999) := by
  have q := rnE_p (p := cBl) (b := b) (n := n) p hp
  unfold lexT
  generalize rnE cBl b n p = q0 at q
  show _
  by_cases hq : q0 < n
  · have l := rnE_p (p := cLt) (b := b) (n := n) (q0 + 1) (by omega)
    have dg := rnE_p (p := cDg) (b := b) (n := n) (q0 + 1) (by omega)
    simp only [if_pos hq]
    split
    · have w := wkL_rng (b := b) (q := q0) (e := rnE cLt b n (q0 + 1)) wds 128 (by decide) (by decide)
      exact ⟨by simp only; omega, by simp only; omega, by simp only; omega, by simp only; omega, fun _ => by simp only; omega, by simp only; omega⟩
    · split
      · next hd =>
        split
        · next h6 =>
          have v := vlF_rng (b := b) (q := q0) (m := rnE cDg b n (q0 + 1) - q0) (fun j hj => by
            rcases Nat.eq_zero_or_pos j with z | z
            · rw [z]; exact hd
            · exact dg.2.2.1 (q0 + j) (by omega) (by omega))
          have p6 : (10 : Int) ^ (rnE cDg b n (q0 + 1) - q0) ≤ 10 ^ 6 := by
            have := Nat.pow_le_pow_right (n := 10) (by decide) h6
            exact_mod_cast this
          exact ⟨by simp only; omega, by simp only; omega, by simp only; omega, by simp only; omega, fun _ => by simp only; omega, by simp only; omega⟩
        · exact ⟨by simp only; omega, by simp only; omega, by simp only; omega, by simp only; omega, fun _ => by simp only; omega, by simp only; omega⟩
      · split
        · next hs =>
          have := cSg_rng hs
          exact ⟨by simp only; omega, by simp only; omega, by simp only; omega, by simp only; omega, fun _ => by simp only; omega, by simp only; omega⟩
        · exact ⟨by simp only; omega, by simp only; omega, by simp only; omega, by simp only; omega, fun _ => by simp only; omega, by simp only; omega⟩
  · simp only [if_neg hq]
    exact ⟨by omega, by omega, by omega, by omega, fun z => absurd trivial z, by omega⟩
