/-! the state behind the constructors -/
def mu_gI (q i : Nat) : Int := if q = 2 ∧ i < 64 then -1 else if q = 3 ∧ i < 64 ∧ ¬ i % 9 = 0 then -1 else if q = 13 ∧ i < 12 then -1 else if q = 31 ∧ i = 3 then -1 else if q = 96 ∧ i < 4 then -1 else if q = 99 ∧ i = 35 then -1 else if q = 175 ∧ i < 4 then -1 else 0
def mu_q7 : List Nat := [2, 3, 13, 31, 96, 99, 175]
theorem mu_g_0 {q i : Nat} : ∀ ws : mu_W, (∀ w ∈ ws, ¬ (q = w.1 ∧ i = w.2.1)) → mu_g ws q i = 0 := by
  intro ws
  induction ws with
  | nil => intro _; rfl
  | cons w r ih =>
    intro h
    show (if q = w.1 ∧ i = w.2.1 then w.2.2 else mu_g r q i) = 0
    rw [if_neg (h w (List.mem_cons_self ..))]
    exact ih (fun w hw => h w (List.mem_cons_of_mem _ hw))
theorem mu_k3 : mu_w2.all (fun w => mu_q7.contains w.1 && Nat.blt w.2.1 70) = true := by decide +kernel
theorem mu_k4 : mu_q7.all (fun q => allB (fun i => decide (mu_g mu_w2 q i = mu_gI q i)) 70) = true := by decide +kernel
theorem mu_gI_0 {q i : Nat} (h : ¬ (q ∈ mu_q7 ∧ i < 70)) : mu_gI q i = 0 := by
  have e : ∀ k ∈ mu_q7, ∀ n, n ≤ 70 → ¬ (q = k ∧ i < n) := fun k hk n hn z => h ⟨by rw [z.1]; exact hk, by omega⟩
  unfold mu_gI
  rw [if_neg (e 2 (by decide) 64 (by omega)), if_neg (fun z => e 3 (by decide) 64 (by omega) ⟨z.1, z.2.1⟩), if_neg (e 13 (by decide) 12 (by omega)), if_neg (fun z => e 31 (by decide) 64 (by omega) ⟨z.1, by omega⟩), if_neg (e 96 (by decide) 4 (by omega)), if_neg (fun z => e 99 (by decide) 64 (by omega) ⟨z.1, by omega⟩), if_neg (e 175 (by decide) 4 (by omega))]
theorem mu_gE : mu_g mu_w2 = mu_gI := by
  funext q i
  by_cases h : q ∈ mu_q7 ∧ i < 70
  · exact of_decide_eq_true (allB_of (List.all_eq_true.mp mu_k4 q h.1) i h.2)
  · rw [mu_gI_0 h]
    refine mu_g_0 mu_w2 (fun w hw z => h ?_)
    have k := (Bool.and_eq_true _ _).mp (List.all_eq_true.mp mu_k3 w hw)
    rw [z.1, z.2]
    exact ⟨List.contains_iff_mem.mp k.1, Nat.blt_eq.mp k.2⟩
/-! lags without roads -/
def dgL (l : Nat → Int) : Prop := ∀ x y : Nat, x < 8 → y < 8 → (x = y → l (x * 8 + y) = 0) ∧ (x ≠ y → l (x * 8 + y) = -1)
theorem dg_I {l : Nat → Int} (h : dgL l) {fr b to : Nat} (hf : fr < 8) (hb : b < 8) (ht : to < 8) : fwI l fr b to = l := by
  refine if_neg (fun z => ?_)
  obtain ⟨p1, p2, p3⟩ := z
  have e1 : fr = b := Decidable.byContradiction (fun y => p1 ((h fr b hf hb).2 y))
  have e2 : b = to := Decidable.byContradiction (fun y => p2 ((h b to hb ht).2 y))
  subst e1 e2
  have := (h fr fr hf hf).1 rfl
  omega
theorem dg_T {l : Nat → Int} (h : dgL l) {fr b : Nat} (hf : fr < 8) (hb : b < 8) : ∀ n, n ≤ 8 → fwT l fr b n = l := by
  intro n
  induction n with
  | zero => intro _; rfl
  | succ n ih => intro hn; show fwI (fwT l fr b n) fr b n = l; rw [ih (by omega)]; exact dg_I h hf hb (by omega)
theorem dg_F {l : Nat → Int} (h : dgL l) {b : Nat} (hb : b < 8) : ∀ n, n ≤ 8 → fwF l b 8 n = l := by
  intro n
  induction n with
  | zero => intro _; rfl
  | succ n ih => intro hn; show fwT (fwF l b 8 n) n b 8 = l; rw [ih (by omega)]; exact dg_T h (by omega) hb 8 (by omega)
theorem dg_B {l : Nat → Int} (h : dgL l) : ∀ n, n ≤ 8 → fwB l 8 n = l := by
  intro n
  induction n with
  | zero => intro _; rfl
  | succ n ih => intro hn; show fwF (fwB l 8 n) n 8 8 = l; rw [ih (by omega)]; exact dg_F h (by omega) 8 (by omega)
theorem mu_2 : ∀ i, i < 64 → mu_gI 2 i = -1 := fun i hi => if_pos ⟨rfl, hi⟩
theorem mu_3 (i : Nat) : mu_gI 3 i = if i < 64 ∧ ¬ i % 9 = 0 then -1 else 0 := by
  unfold mu_gI
  rw [if_neg (show ¬ (3 = 2 ∧ i < 64) from fun z => absurd z.1 (by decide))]
  by_cases h : i < 64 ∧ ¬ i % 9 = 0
  · rw [if_pos h, if_pos ⟨rfl, h⟩]
  · rw [if_neg h, if_neg (fun z => h z.2)]
    rfl
theorem mu_13 : ∀ i, i < 12 → mu_gI 13 i = -1 := by decide +kernel
theorem mu_lag : ∀ i, i < 64 → mu_gI 3 i = lagR (mu_gI 2) i := by
  intro i hi
  have d : dgL (lag0 (mu_gI 2) (fun _ => 0) 8) := by
    intro x y hx hy
    have a : (x * 8 + y) / 8 = x := by omega
    have b : (x * 8 + y) % 8 = y := by omega
    unfold lag0
    rw [if_pos (by omega), a, b]
    constructor
    · intro e; rw [if_pos ⟨e, hx⟩]
    · intro e; rw [if_neg (fun z => e z.1)]; exact mu_2 _ (by omega)
  unfold lagR
  rw [dg_B d 8 (Nat.le_refl 8), mu_3]
  unfold lag0
  rw [if_pos hi]
  by_cases h : i / 8 = i % 8 ∧ i / 8 < 8
  · rw [if_pos h, if_neg (by omega)]
  · rw [if_neg h, if_pos (by omega), mu_2 i hi]
theorem no_neg {i : Nat} {p : Prop} (h : (i : Int) < 0) : p := by omega
theorem i_IL0 : IL0 mu_gI := by
  refine ⟨⟨by decide, by decide, by decide, fun i _ => ?_, fun r hr => absurd hr (Nat.not_lt_zero r), fun r s _ hs => absurd hs (Nat.not_lt_zero s)⟩, ⟨fun i hi => ?_, fun x y hx hy _ _ => mu_2 _ (by omega), mu_lag, fun r hr => absurd hr (Nat.not_lt_zero r)⟩, ⟨rfl, rfl, rfl, trivial, fun k _ => ⟨rfl, rfl, rfl, rfl⟩⟩, fun i hi => ?_, rfl, rfl⟩
  · rw [mu_3]; split <;> omega
  · rw [mu_2 i hi]; omega
  · rw [mu_2 i hi]; rfl
theorem i_IB : IB mu_gI := by
  refine ⟨⟨by decide, fun i hi => ⟨?_, ?_, ?_, ?_⟩, fun i _ => ?_⟩, ⟨rfl, fun i _ => ⟨rfl, rfl, rfl, fun h => no_neg h⟩, fun i _ => rfl⟩, fun i hi _ => mu_13 i hi⟩
  · exact (by decide : (0 : Int) ≤ 0 ∧ (0 : Int) < 8)
  · exact (by decide : (0 : Int) ≤ 0 ∧ (0 : Int) < 6)
  · exact (by decide : (0 : Int) ≤ 0 ∧ (0 : Int) ≤ 0)
  · rw [mu_13 i hi]; omega
  · exact (by decide : (0 : Int) ≤ 0 ∧ (0 : Int) ≤ 10000000)
theorem i_IE : IE mu_gI := by
  refine ⟨⟨by decide, fun k _ => ?_, fun i _ => ?_, fun i _ => ?_⟩, fun a b co _ _ _ => rfl, ⟨rfl, fun e _ => ⟨rfl, rfl, rfl, rfl, rfl, rfl, rfl⟩⟩, fun a b co ha hb _ => ?_, fun i _ => rfl, fun a b _ _ => rfl, fun k h => no_neg h⟩
  · exact (by decide : ((0 : Int) ≤ 0 ∧ (0 : Int) ≤ 999) ∧ ((0 : Int) ≤ 0 ∧ (0 : Int) < 8) ∧ ((0 : Int) ≤ 0 ∧ (0 : Int) < 12) ∧ ((0 : Int) ≤ 0 ∧ (0 : Int) < 12) ∧ ((0 : Int) ≤ 0 ∧ (0 : Int) < 4) ∧ (-2000000000 ≤ (0 : Int) ∧ (0 : Int) ≤ 2000000000))
  · exact (by decide : -2000000000 ≤ (0 : Int) ∧ (0 : Int) ≤ 2000000000)
  · exact (by decide : (0 : Int) ≤ 0 ∧ (0 : Int) ≤ 10000)
  · have n : netC mu_gI a b co = 0 := rfl
    have e : nbB mu_gI a b co = 0 := by
      unfold nbB
      rw [mu_13 a ha, mu_13 b hb, if_neg (by intro z; rcases z.2 with y | y <;> exact y rfl)]
      rfl
    rw [n, e]; omega
theorem i_IX : IX mu_gI := by
  refine ⟨⟨by decide, fun k _ => ?_⟩, ⟨rfl, fun k _ => ⟨rfl, rfl, rfl, rfl, rfl⟩⟩⟩
  exact (by decide : ((0 : Int) ≤ 0 ∧ (0 : Int) < 12) ∧ ((0 : Int) ≤ 0 ∧ (0 : Int) < 4) ∧ ((0 : Int) ≤ 0 ∧ (0 : Int) ≤ 999) ∧ (-1000000 ≤ (0 : Int) ∧ (0 : Int) ≤ 1000000) ∧ (-1000000 ≤ (0 : Int) ∧ (0 : Int) ≤ 1000000))
theorem mu_96 : ∀ i, i < 4 → mu_gI 96 i = -1 ∧ mu_gI 175 i = -1 := by decide +kernel
theorem i_IT : IT mu_gI := by
  refine ⟨⟨fun i hi => ⟨?_, ?_⟩, fun p _ => ?_⟩, fun i hi => ⟨?_, rfl, fun p h => no_neg h⟩⟩
  · rw [(mu_96 i hi).1]; omega
  · exact (by decide : (0 : Int) ≤ 0 ∧ (0 : Int) ≤ 60)
  · exact (by decide : -9223372036854775808 ≤ (0 : Int) ∧ (0 : Int) ≤ 9223372036854775807)
  · rw [(mu_96 i hi).1, (mu_96 i hi).2]
theorem i_IP : IP mu_gI := ⟨by decide, rfl, fun i _ => (by decide : (0 : Int) ≤ 0 ∧ (0 : Int) ≤ 255), fun i _ => rfl, fun i _ => (by decide : (0 : Int) ≤ 0 ∧ (0 : Int) ≤ 255)⟩
theorem i_IC : IC 0 mu_gI := ⟨0, 0, 0, fun _ => [], by omega, rfl, rfl, rfl, by omega, rfl, by omega, fun t ht => absurd ht (Nat.not_lt_zero t), ⟨fun i hi => absurd hi (Nat.not_lt_zero i), fun i j _ hj => absurd hj (Nat.not_lt_zero j), fun t ht => absurd ht (Nat.not_lt_zero t)⟩, by decide, fun i _ => (by decide : (0 : Int) ≤ 0 ∧ (0 : Int) ≤ 0), rfl, by decide⟩
theorem i_IW : IW mu_gI := ⟨⟨by decide, fun i h => no_neg h, fun i _ _ => ⟨rfl, rfl, rfl, rfl⟩⟩, rfl, fun i h => no_neg h⟩
theorem i_all : InvA 0 (mu_g mu_w2) := by
  rw [mu_gE]
  exact Or.inr ⟨i_IL0, fun t c _ _ => Or.inl rfl, i_IB, i_IE, i_IX, i_IT, i_IP, i_IC, i_IW, rfl⟩
