/-! settling a group (pure) -/
def nzN (f : Nat → Bool) : Nat → Nat
  | 0 => 0
  | n + 1 => nzN f n + (if f n = true then 1 else 0)
theorem nzN_le {f f' : Nat → Bool} : ∀ n, (∀ k, k < n → f' k = true → f k = true) → nzN f' n ≤ nzN f n := by
  intro n
  induction n with
  | zero => intro _; exact Nat.le_refl 0
  | succ n ih =>
    intro h
    have a := ih (fun k hk => h k (by omega))
    have b := h n (by omega)
    show nzN f' n + (if f' n = true then 1 else 0) ≤ nzN f n + (if f n = true then 1 else 0)
    by_cases z : f' n = true
    · rw [if_pos z, if_pos (b z)]; omega
    · rw [if_neg z]; split <;> omega
theorem nzN_lt {f f' : Nat → Bool} {j : Nat} (hf : f j = true) (hf' : f' j = false) : ∀ n, j < n → (∀ k, k < n → f' k = true → f k = true) → nzN f' n < nzN f n := by
  intro n
  induction n with
  | zero => intro h; exact absurd h (Nat.not_lt_zero _)
  | succ n ih =>
    intro hj h
    show nzN f' n + (if f' n = true then 1 else 0) < nzN f n + (if f n = true then 1 else 0)
    by_cases z : j = n
    · have a := nzN_le (f := f) (f' := f') n (fun k hk => h k (by omega))
      subst z
      rw [if_pos hf, if_neg (by rw [hf']; decide)]
      omega
    · have a := ih (by omega) (fun k hk => h k (by omega))
      have b := h n (by omega)
      by_cases z2 : f' n = true
      · rw [if_pos z2, if_pos (b z2)]; omega
      · rw [if_neg z2]; split <;> omega
theorem nzN_n (f : Nat → Bool) : ∀ n, nzN f n ≤ n := by
  intro n
  induction n with
  | zero => exact Nat.le_refl 0
  | succ n ih => show nzN f n + (if f n = true then 1 else 0) ≤ n + 1; split <;> omega
theorem nzN_0 {f : Nat → Bool} : ∀ n, nzN f n = 0 → ∀ k, k < n → f k = false := by
  intro n
  induction n with
  | zero => intro _ k hk; omega
  | succ n ih =>
    intro h k hk
    have h' : nzN f n + (if f n = true then 1 else 0) = 0 := h
    by_cases z : f n = true
    · rw [if_pos z] at h'; omega
    · rw [if_neg z] at h'
      by_cases y : k = n
      · rw [y]; simpa using z
      · exact ih (by omega) k (by omega)
theorem sbS_one {n q j : Nat} {bal bal' : Nat → Int} (hj : j < n) (hq : q.testBit j = true) (h : ∀ x, x ≠ j → bal' x = bal x) : sbS n bal' q = sbS n bal q + (bal' j - bal j) := by
  unfold sbS
  rw [sumN_one (f := fun k => if q.testBit k = true then bal k else 0) hj (fun x _ hx => by
    show (if q.testBit x = true then bal' x else 0) = (if q.testBit x = true then bal x else 0)
    rw [h x hx]), if_pos hq, if_pos hq]
abbrev stS : Type := (Nat → Int) × List (Nat × Nat × Int)
def syA (n q : Nat) (s : stS) : Nat := fstN (fun k => q.testBit k && decide (s.1 k < 0)) n
def syB (n q : Nat) (s : stS) : Nat := fstN (fun k => q.testBit k && decide (0 < s.1 k)) n
def syV (n q : Nat) (s : stS) : Int := min (-(s.1 (syA n q s))) (s.1 (syB n q s))
def syN (n q : Nat) (s : stS) : stS := (fun k => if k = syA n q s then s.1 k + syV n q s else if k = syB n q s then s.1 k - syV n q s else s.1 k, s.2 ++ [(syA n q s, syB n q s, syV n q s)])
def syR (n q : Nat) : Nat → stS → stS
  | 0, s => s
  | f + 1, s => if syA n q s < n ∧ syB n q s < n then syR n q f (syN n q s) else s
def StI (n : Nat) (B : Int) (q : Nat) (s : stS) : Prop := (∀ k, k < n → -B ≤ s.1 k ∧ s.1 k ≤ B) ∧ sbS n s.1 q = 0 ∧ s.2.length + nzN (fun k => decide (s.1 k ≠ 0)) n ≤ 9
def nzQ (n q : Nat) (s : stS) : Nat := nzN (fun k => q.testBit k && decide (s.1 k ≠ 0)) n
theorem syA_t {n q : Nat} {s : stS} (h : syA n q s < n) : q.testBit (syA n q s) = true ∧ s.1 (syA n q s) < 0 := by
  have h2 := (Bool.and_eq_true _ _).mp (fstN_t (f := fun k => q.testBit k && decide (s.1 k < 0)) n h)
  exact ⟨h2.1, of_decide_eq_true h2.2⟩
theorem syB_t {n q : Nat} {s : stS} (h : syB n q s < n) : q.testBit (syB n q s) = true ∧ 0 < s.1 (syB n q s) := by
  have h2 := (Bool.and_eq_true _ _).mp (fstN_t (f := fun k => q.testBit k && decide (0 < s.1 k)) n h)
  exact ⟨h2.1, of_decide_eq_true h2.2⟩
theorem st_both {n q : Nat} {B : Int} {s : stS} (I : StI n B q s) (ha : syA n q s < n) : syB n q s < n := by
  obtain ⟨qa, la⟩ := syA_t ha
  refine Classical.byContradiction (fun hb => ?_)
  have no : ∀ k, k < n → (if q.testBit k = true then s.1 k else 0) ≤ 0 := fun k hk => by
    split
    · rename_i hq
      have t := fstN_f (f := fun k => q.testBit k && decide (0 < s.1 k)) n k (by show k < syB n q s; omega)
      simp only [hq, Bool.true_and, decide_eq_false_iff_not] at t
      omega
    · omega
  have m : -(if q.testBit (syA n q s) = true then s.1 (syA n q s) else 0) ≤ sumN (fun k => -(if q.testBit k = true then s.1 k else 0)) n := sumN_mem (f := fun k => -(if q.testBit k = true then s.1 k else 0)) (fun x hx => by have := no x hx; show 0 ≤ -(if q.testBit x = true then s.1 x else 0); omega) ha
  have I2 : sumN (fun k => if q.testBit k = true then s.1 k else 0) n = 0 := I.2.1
  rw [sumN_neg, I2, if_pos qa] at m
  omega
theorem syN_inv {n q : Nat} {B : Int} {s : stS} (I : StI n B q s) (ha : syA n q s < n) (hb : syB n q s < n) : StI n B q (syN n q s) ∧ nzQ n q (syN n q s) < nzQ n q s ∧ (∀ k, ¬ q.testBit k = true → (syN n q s).1 k = s.1 k) ∧ 0 < syV n q s ∧ syV n q s ≤ B := by
  obtain ⟨qa, la⟩ := syA_t ha
  obtain ⟨qb, lb⟩ := syB_t hb
  have ba := I.1 _ ha
  have bb := I.1 _ hb
  have hv : syV n q s = min (-(s.1 (syA n q s))) (s.1 (syB n q s)) := rfl
  have e1 : (syN n q s).1 = fun k => if k = syA n q s then s.1 k + syV n q s else if k = syB n q s then s.1 k - syV n q s else s.1 k := rfl
  have e2 : (syN n q s).2 = s.2 ++ [(syA n q s, syB n q s, syV n q s)] := rfl
  unfold StI nzQ
  rw [e1, e2]
  generalize syA n q s = a at *
  generalize syB n q s = b at *
  generalize syV n q s = v at *
  have hab : b ≠ a := fun z => by rw [z] at lb; omega
  have zero : ∃ j, j < n ∧ q.testBit j = true ∧ s.1 j ≠ 0 ∧ (if j = a then s.1 j + v else if j = b then s.1 j - v else s.1 j) = 0 := by
    by_cases z : -(s.1 a) ≤ s.1 b
    · exact ⟨a, ha, qa, by omega, by rw [if_pos rfl]; omega⟩
    · exact ⟨b, hb, qb, by omega, by rw [if_neg hab, if_pos rfl]; omega⟩
  obtain ⟨j, j1, j2, j3, j4⟩ := zero
  have keep : ∀ k, (if k = a then s.1 k + v else if k = b then s.1 k - v else s.1 k) ≠ 0 → s.1 k ≠ 0 := by
    intro k h
    by_cases z : k = a
    · rw [z]; omega
    · by_cases y : k = b
      · rw [y]; omega
      · rw [if_neg z, if_neg y] at h; exact h
  have cnt : nzN (fun k => decide ((if k = a then s.1 k + v else if k = b then s.1 k - v else s.1 k) ≠ 0)) n < nzN (fun k => decide (s.1 k ≠ 0)) n := nzN_lt (f := fun k => decide (s.1 k ≠ 0)) (j := j) (decide_eq_true j3) (decide_eq_false (fun z => z j4)) n j1 (fun k _ h => decide_eq_true (keep k (of_decide_eq_true h)))
  refine ⟨⟨fun k hk => ?_, ?_, ?_⟩, ?_, fun k hk => ?_, by omega, by omega⟩
  · show -B ≤ (if k = a then s.1 k + v else if k = b then s.1 k - v else s.1 k) ∧ (if k = a then s.1 k + v else if k = b then s.1 k - v else s.1 k) ≤ B
    have := I.1 k hk
    by_cases z : k = a
    · rw [if_pos z, z]; omega
    · rw [if_neg z]
      by_cases y : k = b
      · rw [if_pos y, y]; omega
      · rw [if_neg y]; exact this
  · rw [sbS_one (bal := fun k => if k = a then s.1 k + v else s.1 k) hb qb (fun x hx => by
      show (if x = a then s.1 x + v else if x = b then s.1 x - v else s.1 x) = (if x = a then s.1 x + v else s.1 x)
      rw [if_neg hx])]
    rw [sbS_one (bal := s.1) ha qa (fun x hx => if_neg hx)]
    simp only [if_pos, if_neg hab]
    have := I.2.1
    omega
  · have := I.2.2
    rw [List.length_append]
    show s.2.length + 1 + nzN (fun k => decide ((if k = a then s.1 k + v else if k = b then s.1 k - v else s.1 k) ≠ 0)) n ≤ 9
    omega
  · exact nzN_lt (f := fun k => q.testBit k && decide (s.1 k ≠ 0)) (j := j) (by show (q.testBit j && decide (s.1 j ≠ 0)) = true; rw [j2, decide_eq_true j3]; rfl) (by show (q.testBit j && decide ((if j = a then s.1 j + v else if j = b then s.1 j - v else s.1 j) ≠ 0)) = false; rw [decide_eq_false (fun z => z j4), Bool.and_false]) n j1 (fun k _ h => by
      have h2 := (Bool.and_eq_true _ _).mp h
      show (q.testBit k && decide (s.1 k ≠ 0)) = true
      rw [h2.1, decide_eq_true (keep k (of_decide_eq_true h2.2))]; rfl)
  · show (if k = a then s.1 k + v else if k = b then s.1 k - v else s.1 k) = s.1 k
    rw [if_neg (show ¬ k = a from fun z => hk (by rw [z]; exact qa)), if_neg (show ¬ k = b from fun z => hk (by rw [z]; exact qb))]
theorem nzQ_0 {n q : Nat} {s : stS} (h : nzQ n q s = 0) : syA n q s = n := fstN_none (fun k hk => by
  have := nzN_0 n h k hk
  cases hq : q.testBit k with
  | false => rfl
  | true =>
    rw [hq, Bool.true_and] at this
    have := of_decide_eq_false this
    rw [Bool.true_and, decide_eq_false (by omega)])
theorem syR_out {n q : Nat} : ∀ f (s : stS) k, ¬ q.testBit k = true → (syR n q f s).1 k = s.1 k := by
  intro f
  induction f with
  | zero => intro s k _; rfl
  | succ f ih =>
    intro s k hk
    show (if syA n q s < n ∧ syB n q s < n then syR n q f (syN n q s) else s).1 k = s.1 k
    by_cases z : syA n q s < n ∧ syB n q s < n
    · rw [if_pos z, ih _ k hk]
      show (if k = syA n q s then s.1 k + syV n q s else if k = syB n q s then s.1 k - syV n q s else s.1 k) = s.1 k
      rw [if_neg (show ¬ k = syA n q s from fun y => hk (by rw [y]; exact (syA_t z.1).1)), if_neg (show ¬ k = syB n q s from fun y => hk (by rw [y]; exact (syB_t z.2).1))]
    · rw [if_neg z]
theorem syR_inv {n q : Nat} {B : Int} : ∀ f (s : stS), StI n B q s → StI n B q (syR n q f s) := by
  intro f
  induction f with
  | zero => intro s I; exact I
  | succ f ih =>
    intro s I
    show StI n B q (if syA n q s < n ∧ syB n q s < n then syR n q f (syN n q s) else s)
    by_cases z : syA n q s < n ∧ syB n q s < n
    · rw [if_pos z]; exact ih _ (syN_inv I z.1 z.2).1
    · rw [if_neg z]; exact I
/-! one group after the other -/
def fwR (S G : Nat → Int) (n : Nat) : Nat → Nat → stS → stS
  | 0, _, s => s
  | f + 1, p, s => if p = 0 then s else fwR S G n f (p ^^^ lgF S G p) (syR n (lgF S G p) 9 s)
def FwI (n : Nat) (B : Int) (bal : Nat → Int) (f p : Nat) (s : stS) : Prop := p < 2 ^ n ∧ (∀ i, i + f < 9 → p.testBit i = false) ∧ (∀ k, k < n → p.testBit k = true → s.1 k = bal k) ∧ (∀ k, k < n → -B ≤ s.1 k ∧ s.1 k ≤ B) ∧ s.2.length + nzN (fun k => decide (s.1 k ≠ 0)) n ≤ 9 ∧ sbS n bal p = 0
theorem FwI_9 {n f p : Nat} {B : Int} {bal : Nat → Int} {s : stS} (hn : n ≤ 9) (I : FwI n B bal f p s) : p < 512 := Nat.lt_of_lt_of_le I.1 (Nat.pow_le_pow_right (by decide) hn)
theorem FwI_0 {n p : Nat} {B : Int} {bal : Nat → Int} {s : stS} (hn : n ≤ 9) (I : FwI n B bal 0 p s) : p = 0 := by
  refine Nat.eq_of_testBit_eq (fun i => ?_)
  rw [Nat.zero_testBit]
  rcases Nat.lt_or_ge i 9 with z | z
  · exact I.2.1 i (by omega)
  · exact tb_9 (FwI_9 hn I) z
theorem FwI_q {n N f p : Nat} {B : Int} {bal G : Nat → Int} {s : stS} (hn : n ≤ 9) (hG : GT (sbS n bal) G N) (hN : 2 ^ n ≤ N) (h0 : p ≠ 0) (I : FwI n B bal (f + 1) p s) : StI n B (lgF (sbS n bal) G p) s ∧ ∀ s', StI n B (lgF (sbS n bal) G p) s' → (∀ k, ¬ (lgF (sbS n bal) G p).testBit k = true → s'.1 k = s.1 k) → FwI n B bal f (p ^^^ lgF (sbS n bal) G p) s' := by
  have h9 := FwI_9 hn I
  obtain ⟨i1, i2, i3, i4, i5, i6⟩ := I
  obtain ⟨⟨a1, a2, a3, a4⟩, b, _⟩ := lg_ex hG (Nat.lt_of_lt_of_le i1 hN) h9 h0 i6
  generalize lgF (sbS n bal) G p = q at *
  have x := xor_sub a1
  refine ⟨⟨i4, ?_, i5⟩, fun s' I' out => ⟨?_, ?_, ?_, I'.1, I'.2.2, ?_⟩⟩
  · rw [← a3]
    unfold sbS
    refine sumN_congr (fun k hk => ?_)
    by_cases z : q.testBit k = true
    · rw [if_pos z, if_pos z]; exact i3 k hk (sub_bit.mp a1 k z)
    · rw [if_neg z, if_neg z]
  · exact Nat.lt_of_le_of_lt (by rw [← x.1]; exact Nat.and_le_right) i1
  · intro i hi
    cases hp : p.testBit i with
    | false =>
      cases hx : (p ^^^ q).testBit i with
      | false => rfl
      | true => rw [sub_bit.mp x.1 i hx] at hp; exact absurd hp (by decide)
    | true =>
      have lo : lwK p = i := by
        refine fstN_eq (by omega) hp (fun j hj => i2 j (by omega))
      rw [Nat.testBit_xor, hp]
      have := (lw_get h9 h0).2.2.1
      rw [this, lo, and_two] at a2
      cases hq : q.testBit i with
      | true => rfl
      | false => exact absurd hq a2
  · intro k hk hx
    have hp := sub_bit.mp x.1 k hx
    rw [out k (fun z => by rw [Nat.testBit_xor, hp, z] at hx; exact absurd hx (by decide))]
    exact i3 k hk hp
  · rw [sbS_dif a1, i6, a3]; rfl
