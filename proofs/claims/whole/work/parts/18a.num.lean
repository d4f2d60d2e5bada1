/-! numbers, bits, cells: what the formulas' words are on numbers in range -/
theorem w32_bm (n : Int) : w32 n = n.bmod 4294967296 := by unfold w32; rw [Int32.toInt_ofInt]
theorem w64_bm (n : Int) : w64 n = n.bmod 18446744073709551616 := by unfold w64; rw [Int64.toInt_ofInt]
theorem w32_of {n : Int} (h1 : -2147483648 ≤ n) (h2 : n ≤ 2147483647) : w32 n = n := by rw [w32_bm]; rw [Int.bmod_def]; split <;> omega
theorem w64_of {n : Int} (h1 : -9223372036854775808 ≤ n) (h2 : n ≤ 9223372036854775807) : w64 n = n := by rw [w64_bm]; rw [Int.bmod_def]; split <;> omega
theorem w32_lo (n : Int) : -2147483648 ≤ w32 n := by rw [w32_bm]; rw [Int.bmod_def]; split <;> omega
theorem w32_hi (n : Int) : w32 n ≤ 2147483647 := by rw [w32_bm]; rw [Int.bmod_def]; split <;> omega
theorem w64_lo (n : Int) : -9223372036854775808 ≤ w64 n := by rw [w64_bm]; rw [Int.bmod_def]; split <;> omega
theorem w64_hi (n : Int) : w64 n ≤ 9223372036854775807 := by rw [w64_bm]; rw [Int.bmod_def]; split <;> omega
theorem w32_w (n : Int) : w32 (w32 n) = w32 n := w32_of (w32_lo n) (w32_hi n)
theorem w64_w (n : Int) : w64 (w64 n) = w64 n := w64_of (w64_lo n) (w64_hi n)
theorem w32_w64 (n : Int) : w32 (w64 n) = w32 n := by rw [w64_bm, w32_bm, w32_bm, Int.bmod_def, Int.bmod_def, Int.bmod_def]; split <;> split <;> split <;> omega
theorem w64_w32 (n : Int) : w64 (w32 n) = w32 n := w64_of (by have := w32_lo n; omega) (by have := w32_hi n; omega)
theorem w32_0 : w32 0 = 0 := by decide
theorem w32_1 : w32 1 = 1 := by decide
theorem w32_m1 : w32 (-1) = -1 := by decide
theorem zat {n : Int} (h1 : 0 ≤ n) (h2 : n ≤ 2147483647) : mx_at n = n.toNat := by unfold mx_at; rw [w32_of (by omega) h2]
theorem zin {n : Int} {k : Nat} (h1 : 0 ≤ n) (h2 : n < (k : Int)) (h3 : k ≤ 2147483647) : mx_in n k := by unfold mx_in; rw [w32_of (by omega) (by omega)]; exact ⟨h1, h2⟩
theorem zatN {n : Nat} (h : n ≤ 2147483647) : mx_at (n : Int) = n := by rw [zat (by omega) (by omega)]; omega
theorem zinN {n k : Nat} (h2 : n < k) (h3 : k ≤ 2147483647) : mx_in (n : Int) k := zin (by omega) (by omega) h3
theorem zb0 : w32 0 = 0 ∨ w32 0 = 1 := Or.inl w32_0
theorem zb1 : w32 1 = 0 ∨ w32 1 = 1 := Or.inr w32_1
/-- a truth as a number -/
def bI (b : Bool) : Int := if b then 1 else 0
def pI (p : Prop) [Decidable p] : Int := if p then 1 else 0
theorem pI_t {p : Prop} [Decidable p] (h : p) : pI p = 1 := if_pos h
theorem pI_f {p : Prop} [Decidable p] (h : ¬ p) : pI p = 0 := if_neg h
theorem pI_01 (p : Prop) [Decidable p] : w32 (pI p) = 0 ∨ w32 (pI p) = 1 := by
  unfold pI; split
  · exact zb1
  · exact zb0
theorem pI_w (p : Prop) [Decidable p] : w32 (pI p) = pI p := by
  unfold pI; split
  · exact w32_1
  · exact w32_0
theorem pI_z {p : Prop} [Decidable p] : w32 (pI p) = w32 0 ↔ ¬ p := by
  unfold pI; split
  · next h => exact ⟨fun z => absurd z (by decide), fun z => absurd h z⟩
  · next h => exact ⟨fun _ => h, fun _ => rfl⟩
theorem pI_nz {p : Prop} [Decidable p] : ¬ (w32 (pI p) = w32 0) ↔ p := by rw [pI_z]; exact Decidable.not_not
/-- cells -/
theorem up_s {g : mz_S} {q i : Nat} {n : Int} : mx_up g q i n q i = n := if_pos ⟨rfl, rfl⟩
theorem up_q {g : mz_S} {q i a b : Nat} {n : Int} (h : a ≠ q) : mx_up g q i n a b = g a b := if_neg (fun z => h z.1)
theorem up_i {g : mz_S} {q i a b : Nat} {n : Int} (h : b ≠ i) : mx_up g q i n a b = g a b := if_neg (fun z => h z.2)
/-- loops that count upwards, or go by a measure -/
theorem upto {P : Nat → Prop} {N : Nat} (last : P N) (step : ∀ n, n < N → P (n + 1) → P n) : ∀ n, n ≤ N → P n := by
  intro n hn
  obtain ⟨k, hk⟩ : ∃ k, n + k = N := ⟨N - n, by omega⟩
  induction k generalizing n with
  | zero => have e : n = N := by omega
            subst e; exact last
  | succ k ih => exact step n (by omega) (ih (n + 1) (by omega) (by omega))
theorem bymeas {α : Type} (m : α → Nat) {P : α → Prop} (step : ∀ s, (∀ s', m s' < m s → P s') → P s) (s : α) : P s := by
  have h : ∀ n s, m s < n → P s := by
    intro n
    induction n with
    | zero => intro s h; omega
    | succ n ih => intro s h; exact step s (fun s' h' => ih s' (by omega))
  exact h _ s (Nat.lt_succ_self _)
/-- sums -/
def sumN (f : Nat → Int) : Nat → Int
  | 0 => 0
  | n + 1 => sumN f n + f n
theorem sumN_congr {f f' : Nat → Int} {n : Nat} (h : ∀ k, k < n → f k = f' k) : sumN f n = sumN f' n := by
  induction n with
  | zero => rfl
  | succ n ih => show sumN f n + f n = sumN f' n + f' n; rw [ih (fun k hk => h k (by omega)), h n (by omega)]
theorem sumN_le {f : Nat → Int} {n : Nat} {c : Int} (h : ∀ k, k < n → f k ≤ c) : sumN f n ≤ n * c := by
  induction n with
  | zero => show (0 : Int) ≤ _; omega
  | succ n ih => have h1 := ih (fun k hk => h k (by omega)); have h2 := h n (by omega); show sumN f n + f n ≤ _; rw [Int.natCast_add, Int.add_mul]; omega
theorem sumN_ge {f : Nat → Int} {n : Nat} {c : Int} (h : ∀ k, k < n → c ≤ f k) : n * c ≤ sumN f n := by
  induction n with
  | zero => show _ ≤ (0 : Int); omega
  | succ n ih => have h1 := ih (fun k hk => h k (by omega)); have h2 := h n (by omega); show _ ≤ sumN f n + f n; rw [Int.natCast_add, Int.add_mul]; omega
theorem sumN_pos {f : Nat → Int} {n : Nat} (h : ∀ k, k < n → 0 ≤ f k) : 0 ≤ sumN f n := by have := sumN_ge (c := 0) h; omega
theorem sumN_zero {f : Nat → Int} {n : Nat} (h : ∀ k, k < n → f k = 0) : sumN f n = 0 := by
  induction n with
  | zero => rfl
  | succ n ih => show sumN f n + f n = 0; rw [ih (fun k hk => h k (by omega)), h n (by omega)]; rfl
theorem sumN_add {f f' : Nat → Int} {n : Nat} : sumN (fun k => f k + f' k) n = sumN f n + sumN f' n := by
  induction n with
  | zero => rfl
  | succ n ih => show sumN _ n + (f n + f' n) = (sumN f n + f n) + (sumN f' n + f' n); rw [ih]; omega
theorem sumN_neg {f : Nat → Int} {n : Nat} : sumN (fun k => - f k) n = - sumN f n := by
  induction n with
  | zero => rfl
  | succ n ih => show sumN _ n + - f n = -(sumN f n + f n); rw [ih]; omega
/-- bits of an int -/
def zb (x : Int) (i : Nat) : Bool := (Int32.ofInt x).toBitVec.getLsbD i
theorem zb_ext {x y : Int} (h : ∀ i, i < 32 → zb x i = zb y i) : w32 x = w32 y := by
  unfold w32; rw [Int32.toBitVec_inj.mp (BitVec.eq_of_getLsbD_eq (fun i hi => h i hi))]
theorem zb_w (x : Int) (i : Nat) : zb (w32 x) i = zb x i := by unfold zb; rw [mx_o32]
theorem zb_big {x : Int} {i : Nat} (h : 32 ≤ i) : zb x i = false := BitVec.getLsbD_of_ge _ _ h
theorem w32_ior (x y : Int) : w32 (mx_ior x y) = mx_ior x y := by unfold mx_ior; rw [show ∀ a : Int32, w32 a.toInt = a.toInt from fun a => by unfold w32; rw [Int32.ofInt_toInt]]
theorem w32_iand (x y : Int) : w32 (mx_iand x y) = mx_iand x y := by unfold mx_iand; rw [show ∀ a : Int32, w32 a.toInt = a.toInt from fun a => by unfold w32; rw [Int32.ofInt_toInt]]
theorem w32_ixor (x y : Int) : w32 (mx_ixor x y) = mx_ixor x y := by unfold mx_ixor; rw [show ∀ a : Int32, w32 a.toInt = a.toInt from fun a => by unfold w32; rw [Int32.ofInt_toInt]]
theorem w32_ishl (x y : Int) : w32 (mx_ishl x y) = mx_ishl x y := by unfold mx_ishl; rw [show ∀ a : Int32, w32 a.toInt = a.toInt from fun a => by unfold w32; rw [Int32.ofInt_toInt]]
theorem w32_ishr (x y : Int) : w32 (mx_ishr x y) = mx_ishr x y := by unfold mx_ishr; rw [show ∀ a : Int32, w32 a.toInt = a.toInt from fun a => by unfold w32; rw [Int32.ofInt_toInt]]
theorem w32_iushr (x y : Int) : w32 (mx_iushr x y) = mx_iushr x y := by unfold mx_iushr; rw [show ∀ a : Int32, w32 a.toInt = a.toInt from fun a => by unfold w32; rw [Int32.ofInt_toInt]]
theorem zb_ior (x y : Int) (i : Nat) : zb (mx_ior x y) i = (zb x i || zb y i) := by unfold zb mx_ior; rw [Int32.ofInt_toInt, Int32.toBitVec_or, BitVec.getLsbD_or]
theorem zb_iand (x y : Int) (i : Nat) : zb (mx_iand x y) i = (zb x i && zb y i) := by unfold zb mx_iand; rw [Int32.ofInt_toInt, Int32.toBitVec_and, BitVec.getLsbD_and]
theorem zb_ixor (x y : Int) (i : Nat) : zb (mx_ixor x y) i = (zb x i ^^ zb y i) := by unfold zb mx_ixor; rw [Int32.ofInt_toInt, Int32.toBitVec_xor, BitVec.getLsbD_xor]
theorem zs_l : ∀ n, n < 32 → ((Int32.ofInt (n : Nat) &&& 31).toBitVec.smod 32).toNat = n := by decide +kernel
theorem zb_0 (i : Nat) : zb 0 i = false := BitVec.getLsbD_zero
theorem zb_m1 : ∀ i, i < 32 → zb (-1) i = true := by decide +kernel
theorem zb_1 (i : Nat) : zb 1 i = decide (i = 0) := by
  rcases Nat.lt_or_ge i 32 with h | h
  · exact (by decide +kernel : ∀ i, i < 32 → zb 1 i = decide (i = 0)) i h
  · rw [zb_big h, decide_eq_false (by omega)]
theorem zb_ishl {n : Nat} (hn : n < 32) (x : Int) {i : Nat} (hi : i < 32) : zb (mx_ishl x n) i = (decide (n ≤ i) && zb x (i - n)) := by
  unfold zb mx_ishl
  rw [Int32.ofInt_toInt, Int32.toBitVec_shiftLeft]
  show ((Int32.ofInt x).toBitVec <<< ((Int32.ofInt n &&& 31).toBitVec.smod 32).toNat).getLsbD i = _
  rw [zs_l n hn, BitVec.getLsbD_shiftLeft]
  rcases Nat.lt_or_ge i n with h | h
  · simp [h, Nat.not_le.mpr h]
  · simp [hi, h, Nat.not_lt.mpr h]
theorem zb_ishr {n : Nat} (hn : n < 32) (x : Int) {i : Nat} (hi : i < 32) : zb (mx_ishr x n) i = if n + i < 32 then zb x (n + i) else zb x 31 := by
  unfold zb mx_ishr
  rw [Int32.ofInt_toInt, Int32.toBitVec_shiftRight]
  show ((Int32.ofInt x).toBitVec.sshiftRight ((Int32.ofInt n &&& 31).toBitVec.smod 32).toNat).getLsbD i = _
  rw [zs_l n hn, BitVec.getLsbD_sshiftRight, BitVec.msb_eq_getLsbD_last]
  simp [hi]
theorem zb_bit {n : Nat} (hn : n < 32) {i : Nat} (hi : i < 32) : zb (mx_ishl 1 n) i = decide (i = n) := by
  rw [zb_ishl hn 1 hi, zb_1]
  rcases Nat.lt_or_ge i n with h | h
  · simp [Nat.not_le.mpr h]; omega
  · simp [h]; omega
/-- whether a set holds a member -/
theorem zb_and1 (x : Int) : mx_iand x 1 = bI (zb x 0) := by
  have h : w32 (mx_iand x 1) = w32 (bI (zb x 0)) := zb_ext (fun i hi => by
    rw [zb_iand, zb_1]
    rcases Nat.eq_zero_or_pos i with h | h
    · subst h; cases zb x 0 <;> decide
    · rw [decide_eq_false (by omega), Bool.and_false]
      unfold bI
      split
      · rw [zb_1, decide_eq_false (by omega)]
      · rw [zb_0])
  rw [w32_iand] at h
  rw [h]
  unfold bI
  split <;> decide
theorem zb_holds {n : Nat} (hn : n < 32) (x : Int) : mx_iand (mx_ishr x n) 1 = bI (zb x n) := by
  rw [zb_and1, zb_ishr hn x (by omega), if_pos (by omega)]; rfl
