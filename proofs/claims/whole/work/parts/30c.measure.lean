/-! the reference measures its lags -/
theorem irem_of {x y : Int} (hx : 0 ≤ x ∧ x ≤ 2147483647) (hy : 0 < y ∧ y ≤ 2147483647) : mx_irem x y = x % y := by
  have h := idiv_of hx hy
  unfold mx_idiv at h
  have hq : Int32.ofInt x / Int32.ofInt y = Int32.ofInt (x / y) := by rw [← h, Int32.ofInt_toInt]
  unfold mx_irem
  rw [hq, ← Int32.ofInt_mul, ← Int32.ofInt_sub]
  have e : x - x / y * y = x % y := by rw [Int.emod_def, Int.mul_comm]
  rw [e]
  have h1 := Int.emod_nonneg x (show y ≠ 0 by omega)
  have h2 := Int.emod_lt_of_pos x hy.1
  exact w32_of (by omega) (by omega)
theorem fwI_cg {l l' : Nat → Int} (h : ∀ i, i < 64 → l i = l' i) {fr b to : Nat} (hf : fr < 8) (hb : b < 8) (ht : to < 8) : ∀ i, i < 64 → fwI l fr b to i = fwI l' fr b to i := by
  intro i hi
  have h1 := h (fr * 8 + b) (by omega)
  have h2 := h (b * 8 + to) (by omega)
  have h3 := h (fr * 8 + to) (by omega)
  unfold fwI fwP
  rw [h1, h2, h3]
  split
  · unfold lset
    split
    · rfl
    · exact h i hi
  · exact h i hi
theorem fwT_cg {l l' : Nat → Int} (h : ∀ i, i < 64 → l i = l' i) {fr b : Nat} (hf : fr < 8) (hb : b < 8) : ∀ n, n ≤ 8 → ∀ i, i < 64 → fwT l fr b n i = fwT l' fr b n i
  | 0, _ => h
  | n + 1, hn => fwI_cg (fwT_cg h hf hb n (by omega)) hf hb (by omega)
theorem fwF_cg {l l' : Nat → Int} (h : ∀ i, i < 64 → l i = l' i) {b N : Nat} (hb : b < 8) (hN : N ≤ 8) : ∀ n, n ≤ 8 → ∀ i, i < 64 → fwF l b N n i = fwF l' b N n i
  | 0, _ => h
  | n + 1, hn => fwT_cg (fwF_cg h hb hN n (by omega)) (by omega) hb N hN
theorem fwB_cg {l l' : Nat → Int} (h : ∀ i, i < 64 → l i = l' i) {N : Nat} (hN : N ≤ 8) : ∀ n, n ≤ 8 → ∀ i, i < 64 → fwB l N n i = fwB l' N n i
  | 0, _ => h
  | n + 1, hn => fwF_cg (fwB_cg h hN n (by omega)) (by omega) hN N hN
/-- the lags of these roads -/
def lagR (r : Nat → Int) : Nat → Int := fwB (lag0 r (fun _ => 0) 8) 8 8
theorem lagR_of {r l : Nat → Int} : ∀ i, i < 64 → fwB (lag0 r l 8) 8 8 i = lagR r i := fwB_cg (fun i hi => by unfold lag0; rw [if_pos hi, if_pos hi]) (by omega) 8 (by omega)
theorem lagR_cg {r r' : Nat → Int} (h : ∀ i, i < 64 → r i = r' i) : ∀ i, i < 64 → lagR r i = lagR r' i := fwB_cg (fun i hi => by unfold lag0; rw [if_pos hi, if_pos hi, h i hi]) (by omega) 8 (by omega)
theorem lagR_rng {r : Nat → Int} (hr : ∀ i, i < 64 → -1 ≤ r i ∧ r i ≤ 9) : ∀ i, i < 64 → -1 ≤ lagR r i ∧ lagR r i ≤ 2304 := by
  intro i hi
  have hG : fwG (lag0 r (fun _ => 0) 8) := lag0_G (fun i hi => (hr i hi).1)
  have h1 := (fwB_G hG (N := 8) (n := 8) (by omega) (by omega)).2 i hi
  have h2 := fwB_U hG (N := 8) (n := 8) (by omega) (by omega) (lag0_U (fun i hi => (hr i hi).2)) i hi
  unfold lagR
  omega
theorem encF_rng {l : Nat → Int} {B : Int} (hB : B ≤ 1000000) (h : ∀ i, i < 64 → -1 ≤ l i ∧ l i ≤ B) {i : Nat} (hi : i < 64) : 0 ≤ encF l i ∧ encF l i ≤ 1000000 := by
  have := h i hi
  unfold encF
  split
  · omega
  · next z => have : ¬ l i = -1 := fun e => z ⟨hi, e⟩
              omega
theorem encF_cg {l l' : Nat → Int} (h : ∀ i, i < 64 → l i = l' i) : ∀ i, i < 64 → encF l i = encF l' i := by
  intro i hi
  unfold encF
  rw [h i hi]
theorem sX12_measure {T : Nat × (Nat → Int32)} {d : Nat} {Q : mz_K} {X : mz_X} {g : mz_S} {c : mz_S} {N : Nat} (hN : N ≤ 8) (eN : g 99 2 = N) (hr : ∀ i, i < 64 → -1 ≤ c 2 i ∧ c 2 i ≤ 9 ∧ ¬ c 2 i = 0) (hc : ∀ x y, x < 8 → y < 8 → x ≠ y → N ≤ x ∨ N ≤ y → c 2 (x * 8 + y) = -1) (h : ∀ i, i < 64 → g 100 i = if c 2 i = -1 then 0 else c 2 i) (k : ∀ f : Nat → Int, (∀ i, i < 64 → f i = encF (lagR (c 2)) i) → Q 0 (cellS g 101 f)) : zC T (d + 2) 212 [mx_R 99] g Q X := by
  obtain ⟨l0, el0⟩ : ∃ l0, l0 = lag0 (c 2) (g 101) 8 := ⟨_, rfl⟩
  have hG : fwG l0 := by rw [el0]; exact lag0_G (fun i hi => (hr i hi).1)
  have hU : ∀ i, i < 64 → l0 i ≤ 9 := by rw [el0]; exact lag0_U (fun i hi => (hr i hi).2.1)
  have hCL : fwCL l0 N := by
    intro x y hx hy hxy hn
    rw [el0]
    unfold lag0
    rw [if_pos (by omega), if_neg (by omega)]
    exact hc x y hx hy hxy hn
  have outer : ∀ m : Nat, m ≤ N → ∀ o2 o3 : Option mx_v, aX12_measure T (d + 1) Q X 58 [some (mx_R 99), some (mx_I (m : Int)), o2, o3] [] (cellS g 101 (encF (fwB l0 N m))) (0, 0) := by
    refine upto ?_ (fun m hm ih => ?_)
    · intro o2 o3
      refine zX12_measure_58 ?_
      rw [cellS_n (by decide), eN]
      first | with_reducible refine c_lt ?_ ?_ (fun h1 => ?_) (fun h1 => ?_) | with_reducible refine c_le ?_ ?_ (fun h1 => ?_) (fun h1 => ?_) | with_reducible refine c_eq ?_ ?_ (fun h1 => ?_) (fun h1 => ?_) | with_reducible refine c_ne ?_ ?_ (fun h1 => ?_) (fun h1 => ?_)
      · omega
      · omega
      · refine k _ (encF_cg (fun i hi => ?_))
        rw [← fwB_cut hG hCL hN, el0]
        exact lagR_of i hi
      · omega
    · intro o2 o3
      refine zX12_measure_58 ?_
      rw [cellS_n (by decide), eN]
      first | with_reducible refine c_lt ?_ ?_ (fun h1 => ?_) (fun h1 => ?_) | with_reducible refine c_le ?_ ?_ (fun h1 => ?_) (fun h1 => ?_) | with_reducible refine c_eq ?_ ?_ (fun h1 => ?_) (fun h1 => ?_) | with_reducible refine c_ne ?_ ?_ (fun h1 => ?_) (fun h1 => ?_)
      · omega
      · omega
      · omega
      · have hGm := fwB_G hG (N := N) (n := m) (by omega) (by omega)
        have hp : (9 : Int) * 2 ^ m ≤ 2304 := by
          have h8 : m = 0 ∨ m = 1 ∨ m = 2 ∨ m = 3 ∨ m = 4 ∨ m = 5 ∨ m = 6 ∨ m = 7 := by omega
          rcases h8 with z | z | z | z | z | z | z | z <;> subst z <;> decide
        have hUm : ∀ i, i < 64 → fwB l0 N m i ≤ 2304 := fun i hi => by
          have := fwB_U hG (N := N) (n := m) (by omega) (by omega) hU i hi
          omega
        have hUU : fwU (fwB l0 N m) m 2304 := ⟨fun j hj => by have := hUm j hj; omega, fun x hx => ⟨hUm _ (by omega), hUm _ (by omega)⟩⟩
        have mid : ∀ a : Nat, a ≤ N → ∀ o3 : Option mx_v, aX12_measure T (d + 1) Q X 68 [some (mx_R 99), some (mx_I (m : Int)), some (mx_I (a : Int)), o3] [] (cellS g 101 (encF (fwF (fwB l0 N m) m N a))) (0, 0) := by
          refine upto ?_ (fun a ha ih2 => ?_)
          · intro o3
            refine zX12_measure_68 ?_
            rw [cellS_n (by decide), eN]
            first | with_reducible refine c_lt ?_ ?_ (fun h2 => ?_) (fun h2 => ?_) | with_reducible refine c_le ?_ ?_ (fun h2 => ?_) (fun h2 => ?_) | with_reducible refine c_eq ?_ ?_ (fun h2 => ?_) (fun h2 => ?_) | with_reducible refine c_ne ?_ ?_ (fun h2 => ?_) (fun h2 => ?_)
            · omega
            · omega
            · exact ih _ _
            · omega
          · intro o3
            refine zX12_measure_68 ?_
            rw [cellS_n (by decide), eN]
            first | with_reducible refine c_lt ?_ ?_ (fun h2 => ?_) (fun h2 => ?_) | with_reducible refine c_le ?_ ?_ (fun h2 => ?_) (fun h2 => ?_) | with_reducible refine c_eq ?_ ?_ (fun h2 => ?_) (fun h2 => ?_) | with_reducible refine c_ne ?_ ?_ (fun h2 => ?_) (fun h2 => ?_)
            · omega
            · omega
            · omega
            · have hGa := fwF_G hGm (b := m) (N := N) (n := a) (by omega) (by omega) (by omega)
              have hUa := fwF_U hGm (b := m) (N := N) (n := a) (B := 2304) (by omega) (by omega) (by omega) hUU
              have inner : ∀ b : Nat, b ≤ N → aX12_measure T (d + 1) Q X 78 [some (mx_R 99), some (mx_I (m : Int)), some (mx_I (a : Int)), some (mx_I (b : Int))] [] (cellS g 101 (encF (fwT (fwF (fwB l0 N m) m N a) a m b))) (0, 0) := by
                refine upto ?_ (fun b hb ih3 => ?_)
                · refine zX12_measure_78 ?_
                  rw [cellS_n (by decide), eN]
                  first | with_reducible refine c_lt ?_ ?_ (fun h3 => ?_) (fun h3 => ?_) | with_reducible refine c_le ?_ ?_ (fun h3 => ?_) (fun h3 => ?_) | with_reducible refine c_eq ?_ ?_ (fun h3 => ?_) (fun h3 => ?_) | with_reducible refine c_ne ?_ ?_ (fun h3 => ?_) (fun h3 => ?_)
                  · omega
                  · omega
                  · exact ih2 _
                  · omega
                · refine zX12_measure_78 ?_
                  rw [cellS_n (by decide), eN]
                  first | with_reducible refine c_lt ?_ ?_ (fun h3 => ?_) (fun h3 => ?_) | with_reducible refine c_le ?_ ?_ (fun h3 => ?_) (fun h3 => ?_) | with_reducible refine c_eq ?_ ?_ (fun h3 => ?_) (fun h3 => ?_) | with_reducible refine c_ne ?_ ?_ (fun h3 => ?_) (fun h3 => ?_)
                  · omega
                  · omega
                  · omega
                  · have hGb := fwT_G hGa (fr := a) (b := m) (n := b) (by omega) (by omega) (by omega)
                    have hUb := fwT_U hGa (fr := a) (b := m) (n := b) (B := 2304) (by omega) (by omega) (by omega) hUa
                    have rg : ∀ i, i < 64 → -1 ≤ fwT (fwF (fwB l0 N m) m N a) a m b i ∧ fwT (fwF (fwB l0 N m) m N a) a m b i ≤ 5000 := fun i hi => by
                      have h1 := hGb.2 i hi
                      have h2 := hUb.1 i hi
                      omega
                    refine s_inE (a * 8 + b) ?_ ?_ (fun ea => ?_)
                    · omega
                    · omega
                    try simp only [ea]
                    clear ea
                    refine s_inE (a * 8 + m) ?_ ?_ (fun ea => ?_)
                    · omega
                    · omega
                    try simp only [ea]
                    clear ea
                    refine s_inE (m * 8 + b) ?_ ?_ (fun ea => ?_)
                    · omega
                    · omega
                    try simp only [ea]
                    clear ea
                    rw [cellS_s]
                    have r1 := encF_rng (by omega) rg (i := a * 8 + b) (by omega)
                    have r2 := encF_rng (by omega) rg (i := a * 8 + m) (by omega)
                    have r3 := encF_rng (by omega) rg (i := m * 8 + b) (by omega)
                    refine sJ9_min (by omega) (by omega) ?_
                    refine s_inE (a * 8 + b) ?_ ?_ (fun ea => ?_)
                    · omega
                    · omega
                    try simp only [ea]
                    clear ea
                    rintro _ rfl
                    rw [cellS_up, encF_s hGb (fun i hi => by have := (rg i hi).2; omega) (by omega) (by omega) (by omega)]
                    exact ih3
              exact inner 0 (by omega)
        exact mid 0 (by omega) _
  have first : ∀ n : Nat, n ≤ 64 → aX12_measure T (d + 1) Q X 2 [some (mx_R 99), some (mx_I (n : Int)), none, none] [] (cellS g 101 (fun i => if i < n then encF l0 i else g 101 i)) (0, 0) := by
    refine upto ?_ (fun n hn ih => ?_)
    · have e : (fun i => if i < 64 then encF l0 i else g 101 i) = encF l0 := by
        funext i
        split
        · rfl
        · next z =>
          unfold encF
          rw [if_neg (fun z2 => z z2.1), el0]
          unfold lag0
          rw [if_neg z]
      rw [e]
      refine zX12_measure_2 ?_
      first | with_reducible refine c_lt ?_ ?_ (fun h1 => ?_) (fun h1 => ?_) | with_reducible refine c_le ?_ ?_ (fun h1 => ?_) (fun h1 => ?_) | with_reducible refine c_eq ?_ ?_ (fun h1 => ?_) (fun h1 => ?_) | with_reducible refine c_ne ?_ ?_ (fun h1 => ?_) (fun h1 => ?_)
      · omega
      · omega
      · exact outer 0 (by omega) _ _
      · omega
    · have put : ∀ v : Int, v = encF l0 n → aX12_measure T (d + 1) Q X 49 [some (mx_R 99), some (mx_I (n : Int)), none, none] [mx_I v, mx_I (n : Int), mx_R 101] (cellS g 101 (fun i => if i < n then encF l0 i else g 101 i)) (0, 0) := by
        intro v hv
        refine zX12_measure_49 ?_
        refine s_inN ?_ (fun ea => ?_)
        · omega
        try simp only [ea]
        clear ea
        rintro _ rfl
        have e : lset (fun i => if i < n then encF l0 i else g 101 i) n v = (fun i => if i < n + 1 then encF l0 i else g 101 i) := by
          funext i
          show (if i = n then v else if i < n then encF l0 i else g 101 i) = (if i < n + 1 then encF l0 i else g 101 i)
          rcases Nat.lt_trichotomy i n with z | z | z
          · rw [if_neg (by omega), if_pos z, if_pos (by omega)]
          · subst z
            rw [if_pos rfl, if_pos (by omega), hv]
          · rw [if_neg (by omega), if_neg (by omega), if_neg (by omega)]
        rw [cellS_up, e]
        exact ih
      have hrn := hr n hn
      refine zX12_measure_2 ?_
      first | with_reducible refine c_lt ?_ ?_ (fun h1 => ?_) (fun h1 => ?_) | with_reducible refine c_le ?_ ?_ (fun h1 => ?_) (fun h1 => ?_) | with_reducible refine c_eq ?_ ?_ (fun h1 => ?_) (fun h1 => ?_) | with_reducible refine c_ne ?_ ?_ (fun h1 => ?_) (fun h1 => ?_)
      · omega
      · omega
      · omega
      · refine ⟨by decide, by decide, ?_⟩
        rw [idiv_of (by omega) (by omega), irem_of (by omega) (by omega)]
        first | with_reducible refine c_lt ?_ ?_ (fun h2 => ?_) (fun h2 => ?_) | with_reducible refine c_le ?_ ?_ (fun h2 => ?_) (fun h2 => ?_) | with_reducible refine c_eq ?_ ?_ (fun h2 => ?_) (fun h2 => ?_) | with_reducible refine c_ne ?_ ?_ (fun h2 => ?_) (fun h2 => ?_)
        · omega
        · omega
        · have e2 : l0 n = c 2 n := by
            rw [el0]
            unfold lag0
            rw [if_pos hn, if_neg (by omega)]
          refine s_inN ?_ (fun ea => ?_)
          · omega
          try simp only [ea]
          clear ea
          rw [cellS_n (by decide), h n hn]
          rcases Decidable.em (c 2 n = -1) with z | z
          · rw [if_pos z]
            refine ⟨fun _ => put _ ?_, fun z2 => absurd (by decide) z2⟩
            unfold encF
            rw [if_pos ⟨hn, by omega⟩]
          · rw [if_neg z]
            first | with_reducible refine c_lt ?_ ?_ (fun h3 => ?_) (fun h3 => ?_) | with_reducible refine c_le ?_ ?_ (fun h3 => ?_) (fun h3 => ?_) | with_reducible refine c_eq ?_ ?_ (fun h3 => ?_) (fun h3 => ?_) | with_reducible refine c_ne ?_ ?_ (fun h3 => ?_) (fun h3 => ?_)
            · omega
            · omega
            · omega
            · refine s_inN ?_ (fun ea => ?_)
              · omega
              try simp only [ea]
              clear ea
              refine put _ ?_
              unfold encF
              rw [if_neg (fun z2 => z (by omega)), e2]
        · refine put _ ?_
          have e2 : l0 n = 0 := by
            rw [el0]
            unfold lag0
            rw [if_pos hn, if_pos (by omega)]
          unfold encF
          rw [if_neg (fun z2 => by omega), e2]
  have h0 := first 0 (by omega)
  have e : cellS g 101 (fun i => if i < 0 then encF l0 i else g 101 i) = g := by
    have e1 : (fun i => if i < 0 then encF l0 i else g 101 i) = g 101 := by funext i; rw [if_neg (by omega)]
    rw [e1]
    exact cellS_id
  rw [e] at h0
  exact zX12_measure h0
