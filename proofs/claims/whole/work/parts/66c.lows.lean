/-! the lowest member of a set; parts as ints (pure) -/
def fstN (f : Nat → Bool) : Nat → Nat
  | 0 => 0
  | n + 1 => if fstN f n < n then fstN f n else if f n = true then n else n + 1
theorem fstN_le (f : Nat → Bool) : ∀ n, fstN f n ≤ n := by
  intro n
  induction n with
  | zero => exact Nat.le_refl 0
  | succ n ih =>
    show (if fstN f n < n then fstN f n else if f n = true then n else n + 1) ≤ n + 1
    split
    · omega
    · split <;> omega
theorem fstN_t {f : Nat → Bool} : ∀ n, fstN f n < n → f (fstN f n) = true := by
  intro n
  induction n with
  | zero => intro h; exact absurd h (Nat.not_lt_zero _)
  | succ n ih =>
    show (if fstN f n < n then fstN f n else if f n = true then n else n + 1) < n + 1 → f (if fstN f n < n then fstN f n else if f n = true then n else n + 1) = true
    by_cases h : fstN f n < n
    · rw [if_pos h]; intro _; exact ih h
    · rw [if_neg h]
      by_cases h2 : f n = true
      · rw [if_pos h2]; intro _; exact h2
      · rw [if_neg h2]; intro h3; omega
theorem fstN_f {f : Nat → Bool} : ∀ n k, k < fstN f n → f k = false := by
  intro n
  induction n with
  | zero => intro k h; exact absurd h (Nat.not_lt_zero k)
  | succ n ih =>
    intro k
    show k < (if fstN f n < n then fstN f n else if f n = true then n else n + 1) → _
    by_cases h : fstN f n < n
    · rw [if_pos h]; exact ih k
    · have e : fstN f n = n := by have := fstN_le f n; omega
      rw [if_neg h]
      by_cases h2 : f n = true
      · rw [if_pos h2]; intro hk; exact ih k (by omega)
      · rw [if_neg h2]
        intro hk
        by_cases z : k = n
        · rw [z]; simpa using h2
        · exact ih k (by omega)
theorem fstN_eq {f : Nat → Bool} {n k : Nat} (hk : k < n) (ht : f k = true) (hf : ∀ j, j < k → f j = false) : fstN f n = k := by
  have h1 : ¬ k < fstN f n := fun z => by rw [fstN_f n k z] at ht; exact absurd ht (by decide)
  have h2 : ¬ fstN f n < k := fun z => by
    have a := fstN_t n (Nat.lt_trans z hk)
    rw [hf _ z] at a
    exact absurd a (by decide)
  omega
theorem fstN_none {f : Nat → Bool} {n : Nat} (h : ∀ k, k < n → f k = false) : fstN f n = n := by
  have h1 := fstN_le f n
  have h2 : ¬ fstN f n < n := fun z => by
    have a := fstN_t n z
    rw [h _ z] at a
    exact absurd a (by decide)
  omega
/-! low members -/
def lb (p : Nat) : Nat := p ^^^ (p &&& (p - 1))
def lwK (p : Nat) : Nat := fstN p.testBit 9
def lwB (p : Nat) : Bool := decide (p = 0) || (decide (lwK p < 9) && (decide (p &&& (p - 1) < p) && (decide (lb p = 2 ^ lwK p) && (decide (mx_iand (p : Int) (-(p : Int)) = (lb p : Nat)) && (decide (mx_iand (mx_ixor (p : Int) (-1)) ((p : Int) - 1) = ((2 ^ lwK p - 1 : Nat) : Int)) && allB (fun i => decide ((p &&& (p - 1)).testBit i = (p.testBit i && !decide (i = lwK p)))) 9)))))
theorem lw_all : allB lwB 512 = true := by decide +kernel
theorem tb_9 {p : Nat} (h : p < 512) {i : Nat} (hi : 9 ≤ i) : p.testBit i = false := Nat.testBit_lt_two_pow (Nat.lt_of_lt_of_le (show p < 2 ^ 9 from h) (Nat.pow_le_pow_right (by decide) hi))
theorem lw_get {p : Nat} (h : p < 512) (h0 : p ≠ 0) : lwK p < 9 ∧ p &&& (p - 1) < p ∧ lb p = 2 ^ lwK p ∧ mx_iand (p : Int) (-(p : Int)) = (lb p : Nat) ∧ mx_iand (mx_ixor (p : Int) (-1)) ((p : Int) - 1) = ((2 ^ lwK p - 1 : Nat) : Int) ∧ ∀ i, (p &&& (p - 1)).testBit i = (p.testBit i && !decide (i = lwK p)) := by
  have := allB_of lw_all p h
  unfold lwB at this
  simp only [Bool.and_eq_true, Bool.or_eq_true, decide_eq_true_eq] at this
  rcases this with z | ⟨a, b, c, e, f, hb⟩
  · exact absurd z h0
  · refine ⟨a, b, c, e, f, fun i => ?_⟩
    rcases Nat.lt_or_ge i 9 with z | z
    · exact of_decide_eq_true (allB_of hb i z)
    · rw [Nat.testBit_and, tb_9 h z]; rfl
theorem lw_t {p : Nat} (h : p < 512) (h0 : p ≠ 0) : p.testBit (lwK p) = true := fstN_t 9 (lw_get h h0).1
theorem lw_f {p i : Nat} (h : i < lwK p) : p.testBit i = false := fstN_f 9 i h
theorem iand_nat {a b : Nat} (ha : a < 2147483648) (hb : b < 2147483648) : mx_iand (a : Int) (b : Int) = ((a &&& b : Nat) : Int) := by
  have hl : a &&& b ≤ a := Nat.and_le_left
  have h : w32 (mx_iand (a : Int) (b : Int)) = w32 ((a &&& b : Nat) : Int) := zb_ext (fun i _ => by
    rw [zb_iand, zb_nat (by omega), zb_nat (by omega), zb_nat (by omega), Nat.testBit_and])
  rw [w32_iand, w32_of (by omega) (by omega)] at h
  exact h
theorem ixor_nat {a b : Nat} (ha : a < 512) (hb : b < 512) : mx_ixor (a : Int) (b : Int) = ((a ^^^ b : Nat) : Int) ∧ a ^^^ b < 512 := by
  have hl : a ^^^ b < 512 := Nat.xor_lt_two_pow (n := 9) ha hb
  have h : w32 (mx_ixor (a : Int) (b : Int)) = w32 ((a ^^^ b : Nat) : Int) := zb_ext (fun i _ => by
    rw [zb_ixor, zb_nat (by omega), zb_nat (by omega), zb_nat (by omega), Nat.testBit_xor])
  rw [w32_ixor, w32_of (by omega) (by omega)] at h
  exact ⟨h, hl⟩
theorem idif_nat {p q : Nat} (hp : p < 512) (hq : q &&& p = q) : mx_iand (p : Int) (mx_ixor (q : Int) (-1)) = ((p ^^^ q : Nat) : Int) := by
  have hqp : q ≤ p := by rw [← hq]; exact Nat.and_le_right
  have hl : p ^^^ q < 512 := Nat.xor_lt_two_pow (n := 9) hp (Nat.lt_of_le_of_lt hqp hp)
  have h : w32 (mx_iand (p : Int) (mx_ixor (q : Int) (-1))) = w32 ((p ^^^ q : Nat) : Int) := zb_ext (fun i hi => by
    have hh : (q &&& p).testBit i = q.testBit i := by rw [hq]
    rw [Nat.testBit_and] at hh
    rw [zb_iand, zb_not hi, zb_nat (by omega), zb_nat (by omega), zb_nat (by omega), Nat.testBit_xor]
    revert hh
    cases p.testBit i <;> cases q.testBit i <;> decide)
  rw [w32_iand, w32_of (by omega) (by omega)] at h
  exact h
theorem sub_bit {p q : Nat} : q &&& p = q ↔ ∀ i, q.testBit i = true → p.testBit i = true := by
  constructor
  · intro h i hi
    have hh : (q &&& p).testBit i = q.testBit i := by rw [h]
    rw [Nat.testBit_and, hi] at hh
    simpa using hh
  · intro h
    refine Nat.eq_of_testBit_eq (fun i => ?_)
    rw [Nat.testBit_and]
    cases hq : q.testBit i with
    | false => rfl
    | true => rw [h i hq]; rfl
theorem xor_sub {p q : Nat} (h : q &&& p = q) : (p ^^^ q) &&& p = p ^^^ q ∧ p ^^^ (p ^^^ q) = q := by
  constructor
  · refine sub_bit.mpr (fun i hi => ?_)
    rw [Nat.testBit_xor] at hi
    cases hp : p.testBit i with
    | true => rfl
    | false =>
      cases hq : q.testBit i with
      | true => rw [sub_bit.mp h i hq] at hp; exact absurd hp (by decide)
      | false => rw [hp, hq] at hi; exact absurd hi (by decide)
  · refine Nat.eq_of_testBit_eq (fun i => ?_)
    rw [Nat.testBit_xor, Nat.testBit_xor]
    cases p.testBit i <;> cases q.testBit i <;> rfl
theorem and_two {x k : Nat} : x &&& 2 ^ k = 0 ↔ x.testBit k = false := by
  have two : ∀ i, (x &&& 2 ^ k).testBit i = (x.testBit i && decide (k = i)) := fun i => by rw [Nat.testBit_and, Nat.testBit_two_pow]
  constructor
  · intro h
    have := two k
    rw [h, Nat.zero_testBit, decide_eq_true rfl, Bool.and_true] at this
    exact this.symm
  · intro h
    refine Nat.eq_of_testBit_eq (fun i => ?_)
    rw [two, Nat.zero_testBit]
    by_cases z : k = i
    · rw [← z, h]; rfl
    · rw [decide_eq_false z, Bool.and_false]
theorem low_no {p r : Nat} (hp : p < 512) (h0 : p ≠ 0) (hr : r &&& p = r) : r &&& lb p = 0 ↔ r &&& (p &&& (p - 1)) = r := by
  obtain ⟨a, b, c, e, f, hb⟩ := lw_get hp h0
  rw [c, and_two, sub_bit]
  constructor
  · intro h i hi
    rw [hb, sub_bit.mp hr i hi]
    by_cases z : i = lwK p
    · rw [z, h] at hi; exact absurd hi (by decide)
    · rw [decide_eq_false z]; rfl
  · intro h
    cases hk : r.testBit (lwK p) with
    | false => rfl
    | true =>
      have := h _ hk
      rw [hb, decide_eq_true rfl] at this
      simp at this
theorem low_xor {p q : Nat} (hp : p < 512) (h0 : p ≠ 0) (hq : q &&& p = q) : (¬ q &&& lb p = 0) ↔ (p ^^^ q) &&& (p &&& (p - 1)) = p ^^^ q := by
  rw [← low_no hp h0 (xor_sub hq).1, (lw_get hp h0).2.2.1, and_two, and_two, Nat.testBit_xor, lw_t hp h0]
  cases q.testBit (lwK p) <;> simp
/-! sums of parts -/
theorem sbS_0 (n : Nat) (bal : Nat → Int) : sbS n bal 0 = 0 := sumN_zero (fun k _ => if_neg (by rw [Nat.zero_testBit]; decide))
theorem sbS_dif {n : Nat} {bal : Nat → Int} {p q : Nat} (h : q &&& p = q) : sbS n bal (p ^^^ q) = sbS n bal p - sbS n bal q := by
  have e : sbS n bal p = sbS n bal (p ^^^ q) + sbS n bal q := by
    unfold sbS
    rw [← sumN_add]
    refine sumN_congr (fun k _ => ?_)
    have hh : (q &&& p).testBit k = q.testBit k := by rw [h]
    rw [Nat.testBit_and] at hh
    rw [Nat.testBit_xor]
    revert hh
    cases p.testBit k <;> cases q.testBit k <;> intro hh <;> simp at hh ⊢
  omega
theorem tb_lt {p n k : Nat} (hp : p < 2 ^ n) (hk : p.testBit k = true) : k < n := by
  rcases Nat.lt_or_ge k n with z | z
  · exact z
  · rw [Nat.testBit_lt_two_pow (Nat.lt_of_lt_of_le hp (Nat.pow_le_pow_right (by decide) z))] at hk
    exact absurd hk (by decide)
theorem sbS_low {n : Nat} {bal : Nat → Int} {p : Nat} (hp : p < 512) (h0 : p ≠ 0) (hn : p < 2 ^ n) : lwK p < n ∧ sbS n bal p = sbS n bal (p &&& (p - 1)) + bal (lwK p) := by
  obtain ⟨a, b, c, e, f, hb⟩ := lw_get hp h0
  have ht := lw_t hp h0
  have hk := tb_lt hn ht
  refine ⟨hk, ?_⟩
  unfold sbS
  rw [sumN_one (f := fun k => if (p &&& (p - 1)).testBit k = true then bal k else 0) hk (fun x _ hx => by
    show (if p.testBit x = true then bal x else 0) = (if (p &&& (p - 1)).testBit x = true then bal x else 0)
    rw [hb, decide_eq_false hx, Bool.not_false, Bool.and_true])]
  rw [hb (lwK p), ht, decide_eq_true rfl]
  simp
/-! the group that goes next -/
abbrev PG (S G : Nat → Int) (p q : Nat) : Prop := q &&& p = q ∧ (¬ q &&& lb p = 0) ∧ S q = 0 ∧ G (p ^^^ q) + 1 = G p
def lgF (S G : Nat → Int) (p : Nat) : Nat := fstN (fun q => decide (PG S G p q)) (p + 1)
theorem lg_ex {n N p : Nat} {bal G : Nat → Int} (hG : GT (sbS n bal) G N) (hp : p < N) (hp9 : p < 512) (h0 : p ≠ 0) (hs : sbS n bal p = 0) : PG (sbS n bal) G p (lgF (sbS n bal) G p) ∧ lgF (sbS n bal) G p ≤ p ∧ ∀ j, j < lgF (sbS n bal) G p → ¬ PG (sbS n bal) G p j := by
  obtain ⟨_, r, ⟨r1, r2⟩, r3⟩ := (hG p hp).2.2 hs h0
  have rp : r &&& p = r := sub_bit.mpr (fun i hi => by
    have := sub_bit.mp r1 i hi
    rw [Nat.testBit_and] at this
    exact ((Bool.and_eq_true _ _).mp this).1)
  have x := xor_sub rp
  have qp : PG (sbS n bal) G p (p ^^^ r) := by
    refine ⟨x.1, (low_xor hp9 h0 x.1).mpr ?_, ?_, ?_⟩
    · rw [x.2]; exact r1
    · rw [sbS_dif rp, hs, r2]; rfl
    · rw [x.2]; exact r3
  have ql : p ^^^ r ≤ p := by rw [← x.1]; exact Nat.and_le_right
  have lt : lgF (sbS n bal) G p < p + 1 := by
    have h1 : lgF (sbS n bal) G p ≤ p + 1 := fstN_le _ _
    have h2 : ¬ (p ^^^ r) < lgF (sbS n bal) G p := fun z => by
      have := fstN_f (p + 1) (p ^^^ r) z
      rw [decide_eq_true qp] at this
      exact absurd this (by decide)
    omega
  exact ⟨of_decide_eq_true (fstN_t (f := fun q => decide (PG (sbS n bal) G p q)) (p + 1) lt), by omega, fun j hj => of_decide_eq_false (fstN_f (f := fun q => decide (PG (sbS n bal) G p q)) (p + 1) j hj)⟩
theorem lg_is {n N p q : Nat} {bal G : Nat → Int} (hG : GT (sbS n bal) G N) (hp : p < N) (hp9 : p < 512) (h0 : p ≠ 0) (hs : sbS n bal p = 0) (h1 : PG (sbS n bal) G p q) (h2 : ∀ j, j < q → ¬ PG (sbS n bal) G p j) : q = lgF (sbS n bal) G p := by
  obtain ⟨a, b, c⟩ := lg_ex hG hp hp9 h0 hs
  rcases Nat.lt_trichotomy q (lgF (sbS n bal) G p) with z | z | z
  · exact absurd h1 (c q z)
  · exact z
  · exact absurd a (h2 _ z)
theorem GT_cg {S G G' : Nat → Int} {N : Nat} (h : GT S G N) (e : ∀ q, q < N → G q = G' q) : GT S G' N := by
  intro p hp
  obtain ⟨a, b, c⟩ := h p hp
  rw [← e p hp]
  refine ⟨a, b, fun s z => ?_⟩
  obtain ⟨c1, r, c2, c3⟩ := c s z
  exact ⟨fun r hr => by rw [← e r (Nat.lt_trans (gV_lt z hr) hp)]; exact c1 r hr, r, c2, by rw [← e r (Nat.lt_trans (gV_lt z c2) hp)]; exact c3⟩
theorem GT_succ {S G : Nat → Int} {p : Nat} (h : GT S G p) (n : (S p ≠ 0 → G p = -1) ∧ (S p = 0 → p = 0 → G p = 0) ∧ (S p = 0 → p ≠ 0 → (∀ r, gV S p r → G r + 1 ≤ G p) ∧ ∃ r, gV S p r ∧ G r + 1 = G p)) : GT S G (p + 1) := by
  intro q hq
  by_cases z : q = p
  · rw [z]; exact n
  · exact h q (by omega)
