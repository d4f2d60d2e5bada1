/-! the calls feed, fault, count -/
def popN : Nat → Nat → Nat
  | 0, _ => 0
  | k + 1, n => popN k n + (if n.testBit k then 1 else 0)
def bcF (x0 : Int) : Int := mx_iand (((mx_iand (((mx_iand (x0 - (mx_iand (mx_iushr x0 1) 1431655765)) 858993459) + (mx_iand (mx_iushr (x0 - (mx_iand (mx_iushr x0 1) 1431655765)) 2) 858993459)) + (mx_iushr ((mx_iand (x0 - (mx_iand (mx_iushr x0 1) 1431655765)) 858993459) + (mx_iand (mx_iushr (x0 - (mx_iand (mx_iushr x0 1) 1431655765)) 2) 858993459)) 4)) 252645135) + (mx_iushr (mx_iand (((mx_iand (x0 - (mx_iand (mx_iushr x0 1) 1431655765)) 858993459) + (mx_iand (mx_iushr (x0 - (mx_iand (mx_iushr x0 1) 1431655765)) 2) 858993459)) + (mx_iushr ((mx_iand (x0 - (mx_iand (mx_iushr x0 1) 1431655765)) 858993459) + (mx_iand (mx_iushr (x0 - (mx_iand (mx_iushr x0 1) 1431655765)) 2) 858993459)) 4)) 252645135) 8)) + (mx_iushr ((mx_iand (((mx_iand (x0 - (mx_iand (mx_iushr x0 1) 1431655765)) 858993459) + (mx_iand (mx_iushr (x0 - (mx_iand (mx_iushr x0 1) 1431655765)) 2) 858993459)) + (mx_iushr ((mx_iand (x0 - (mx_iand (mx_iushr x0 1) 1431655765)) 858993459) + (mx_iand (mx_iushr (x0 - (mx_iand (mx_iushr x0 1) 1431655765)) 2) 858993459)) 4)) 252645135) + (mx_iushr (mx_iand (((mx_iand (x0 - (mx_iand (mx_iushr x0 1) 1431655765)) 858993459) + (mx_iand (mx_iushr (x0 - (mx_iand (mx_iushr x0 1) 1431655765)) 2) 858993459)) + (mx_iushr ((mx_iand (x0 - (mx_iand (mx_iushr x0 1) 1431655765)) 858993459) + (mx_iand (mx_iushr (x0 - (mx_iand (mx_iushr x0 1) 1431655765)) 2) 858993459)) 4)) 252645135) 8)) 16)) 63
def allB (p : Nat → Bool) : Nat → Bool
  | 0 => true
  | n + 1 => p n && allB p n
theorem allB_of {p : Nat → Bool} {n : Nat} (h : allB p n = true) : ∀ k, k < n → p k = true := by
  induction n with
  | zero => intro k hk; omega
  | succ n ih =>
    intro k hk
    have h' := (Bool.and_eq_true _ _).mp h
    rcases Nat.lt_or_ge k n with z | z
    · exact ih h'.2 k z
    · rw [show k = n by omega]; exact h'.1
def bcG (x0 : Int) : Int :=
  (fun c : Int => (fun e : Int => mx_iand (e + mx_iushr e 16) 63) (c + mx_iushr c 8)) ((fun b : Int => mx_iand (b + mx_iushr b 4) 252645135) ((fun a : Int => mx_iand a 858993459 + mx_iand (mx_iushr a 2) 858993459) (x0 - mx_iand (mx_iushr x0 1) 1431655765)))
theorem bcF_G (x : Int) : bcF x = bcG x := rfl
def bcB (n : Nat) : Bool := decide (bcG (n : Int) = (popN 12 n : Nat)) && (decide (n = 0) || (decide (mx_iand (n : Int) ((n : Int) - 1) = ((n &&& (n - 1) : Nat) : Int)) && decide (popN 12 (n &&& (n - 1)) + 1 = popN 12 n)))
theorem bc_0 : allB bcB 1024 = true := by decide +kernel
theorem bc_1 : allB (fun n => bcB (n + 1024)) 1024 = true := by decide +kernel
theorem bc_2 : allB (fun n => bcB (n + 2048)) 1024 = true := by decide +kernel
theorem bc_3 : allB (fun n => bcB (n + 3072)) 1024 = true := by decide +kernel
theorem bc_all {n : Nat} (h : n < 4096) : bcB n = true := by
  rcases Nat.lt_or_ge n 1024 with z | z
  · exact allB_of bc_0 n z
  · rcases Nat.lt_or_ge n 2048 with z2 | z2
    · have := allB_of bc_1 (n - 1024) (by omega)
      rw [show n - 1024 + 1024 = n by omega] at this; exact this
    · rcases Nat.lt_or_ge n 3072 with z3 | z3
      · have := allB_of bc_2 (n - 2048) (by omega)
        rw [show n - 2048 + 2048 = n by omega] at this; exact this
      · have := allB_of bc_3 (n - 3072) (by omega)
        rw [show n - 3072 + 3072 = n by omega] at this; exact this
theorem bc_pop {n : Nat} (h : n < 4096) : bcF (n : Int) = (popN 12 n : Nat) := by
  have := bc_all h
  unfold bcB at this
  simp only [Bool.and_eq_true, decide_eq_true_eq] at this
  rw [bcF_G]; exact this.1
theorem bc_low {n : Nat} (h : n < 4096) (h0 : n ≠ 0) : mx_iand (n : Int) ((n : Int) - 1) = ((n &&& (n - 1) : Nat) : Int) ∧ popN 12 (n &&& (n - 1)) + 1 = popN 12 n := by
  have := bc_all h
  unfold bcB at this
  simp only [Bool.and_eq_true, Bool.or_eq_true, decide_eq_true_eq] at this
  rcases this.2 with z | z
  · exact absurd z h0
  · exact z
theorem sJ6_bitCount {T : Nat × (Nat → Int32)} {d : Nat} {Q : mz_K} {X : mz_X} {g : mz_S} {n : Nat} (h : n < 4096) (k : Q ((popN 12 n : Nat) : Int) g) : zC T (d + 1) 343 [mx_I (n : Int)] g Q X := by
  refine zJ6_bitCount_0f7a4 ?_
  rw [← bc_pop h] at k
  exact k
/-- sets as naturals -/
theorem zb_nat {n : Nat} (h : n < 4294967296) (i : Nat) : zb (n : Int) i = n.testBit i := by
  unfold zb
  show (BitVec.ofInt 32 (n : Int)).getLsbD i = _
  rw [BitVec.ofInt_natCast, BitVec.getLsbD, BitVec.toNat_ofNat, Nat.mod_eq_of_lt (by omega)]
theorem zb_set {s : Int} (k : Nat) (hk : k ≤ 31) (hs : w32 s = s) (h : ∀ i, k ≤ i → i < 32 → zb s i = false) : ∃ n : Nat, s = (n : Int) ∧ n < 2 ^ k ∧ ∀ i, zb s i = n.testBit i := by
  have hp : 2 ^ k ≤ 2 ^ 31 := Nat.pow_le_pow_right (by decide) hk
  have h1 : (Int32.ofInt s).toBitVec.toNat < 2 ^ k := by
    refine Nat.lt_pow_two_of_testBit _ (fun i hi => ?_)
    rcases Nat.lt_or_ge i 32 with z | z
    · exact h i hi z
    · exact Nat.testBit_lt_two_pow (Nat.lt_of_lt_of_le (BitVec.isLt _) (Nat.pow_le_pow_right (by decide) z))
  have h2 : s = ((Int32.ofInt s).toBitVec.toNat : Int) := by
    have e : w32 s = ((Int32.ofInt s).toBitVec.toNat : Int) := by
      unfold w32
      rw [← Int32.toInt_toBitVec, BitVec.toInt_eq_toNat_of_lt (by omega)]
    rw [hs] at e; exact e
  exact ⟨(Int32.ofInt s).toBitVec.toNat, h2, h1, fun i => rfl⟩
theorem popN_sum (k n : Nat) : ((popN k n : Nat) : Int) = sumN (fun i => bI (n.testBit i)) k := by
  induction k with
  | zero => rfl
  | succ k ih =>
    show ((popN k n + (if n.testBit k then 1 else 0) : Nat) : Int) = sumN _ k + bI (n.testBit k)
    rw [← ih]
    unfold bI
    split <;> omega
theorem sX12_ones {T : Nat × (Nat → Int32)} {d : Nat} {Q : mz_K} {X : mz_X} {g : mz_S} {n : Nat} (h : n < 4096) (k : Q ((popN 12 n : Nat) : Int) g) : zC T (d + 1) 294 [mx_I (n : Int)] g Q X := by
  have main : ∀ m : Nat, m < 4096 → ∀ c : Nat, c + popN 12 m = popN 12 n → aX12_ones T d Q X 4 [some (mx_I (n : Int)), some (mx_I (c : Int)), some (mx_I (m : Int))] [] g (0, 0) := by
    intro m
    induction m using Nat.strongRecOn with
    | ind m ih =>
      intro hm c hc
      refine zX12_ones_4 ?_
      first | with_reducible refine c_lt ?_ ?_ (fun z => ?_) (fun z => ?_) | with_reducible refine c_le ?_ ?_ (fun z => ?_) (fun z => ?_) | with_reducible refine c_eq ?_ ?_ (fun z => ?_) (fun z => ?_) | with_reducible refine c_ne ?_ ?_ (fun z => ?_) (fun z => ?_)
      · omega
      · omega
      · have z' : m = 0 := by omega
        subst z'
        have e : c = popN 12 n := by rw [← hc]; rfl
        rw [e]; exact k
      · have b := bc_low hm (by omega)
        rw [b.1]
        have hlt : m &&& (m - 1) ≤ m - 1 := Nat.and_le_right
        have := ih (m &&& (m - 1)) (by omega) (by omega) (c + 1) (by omega)
        rw [show ((c + 1 : Nat) : Int) = (c : Int) + 1 by omega] at this
        exact this
  exact zX12_ones (main n h 0 (by omega))
theorem sX12_standingOnes {T : Nat × (Nat → Int32)} {d : Nat} {Q : mz_K} {X : mz_X} {g : mz_S} {c : mz_S} (w : WfB c) (h : ReB c g) (k : ∀ n : Nat, n < 4096 → (∀ i, n.testBit i = decide ((i : Int) < c 9 1 ∧ c 13 i = -1)) → Q (n : Int) g) : zC T (d + 2) 313 [mx_R 99] g Q X := by
  have h1 := w.1
  have main : ∀ i : Nat, i ≤ (c 9 1).toNat → ∀ s, w32 s = s → (∀ j, j < 32 → zb s j = decide (j < i ∧ c 13 j = -1)) → aX12_standingOnes T (d + 1) Q X 4 [some (mx_R 99), some (mx_I s), some (mx_I (i : Int))] [] g (0, 0) := by
    refine upto ?_ (fun i hi ih => ?_)
    · intro s hs hb
      refine zX12_standingOnes_4 ?_
      rw [h.1]
      first | with_reducible refine c_lt ?_ ?_ (fun z => ?_) (fun z => ?_) | with_reducible refine c_le ?_ ?_ (fun z => ?_) (fun z => ?_) | with_reducible refine c_eq ?_ ?_ (fun z => ?_) (fun z => ?_) | with_reducible refine c_ne ?_ ?_ (fun z => ?_) (fun z => ?_)
      · omega
      · omega
      · obtain ⟨n, e1, e2, e3⟩ := zb_set (s := s) 12 (by omega) hs (fun i hi hi2 => by rw [hb i hi2, decide_eq_false (by omega)])
        rw [e1]
        refine k n e2 (fun i => ?_)
        rw [← e3 i]
        rcases Nat.lt_or_ge i 32 with z | z
        · rw [hb i z]
          exact decide_eq_decide.mpr ⟨fun z => ⟨by omega, z.2⟩, fun z => ⟨by omega, z.2⟩⟩
        · rw [zb_big z, decide_eq_false (by omega)]
      · omega
    · intro s hs hb
      refine zX12_standingOnes_4 ?_
      rw [h.1]
      first | with_reducible refine c_lt ?_ ?_ (fun z => ?_) (fun z => ?_) | with_reducible refine c_le ?_ ?_ (fun z => ?_) (fun z => ?_) | with_reducible refine c_eq ?_ ?_ (fun z => ?_) (fun z => ?_) | with_reducible refine c_ne ?_ ?_ (fun z => ?_) (fun z => ?_)
      · omega
      · omega
      · omega
      · refine sX12_hasFallen w h (by omega) ?_
        simp only [Int.toNat_natCast]
        first | with_reducible refine b_eq (fun h4 => ?_) (fun h4 => ?_) | with_reducible refine b_ne (fun h4 => ?_) (fun h4 => ?_)
        · refine zX12_standingOnes_28 (ih _ (w32_ior _ _) (fun j hj => ?_))
          rw [zb_ior, zb_bit (by omega) hj, hb j hj, ← Bool.decide_or]
          refine decide_eq_decide.mpr ⟨fun z => ?_, fun z => ?_⟩
          · rcases z with z | z
            · exact ⟨by omega, z.2⟩
            · subst z; exact ⟨by omega, Decidable.not_not.mp h4⟩
          · rcases Nat.lt_or_ge j i with z2 | z2
            · exact Or.inl ⟨z2, z.2⟩
            · exact Or.inr (by omega)
        · refine zX12_standingOnes_28 (ih _ (w32_ior _ _) (fun j hj => ?_))
          rw [zb_ior, zb_0, hb j hj, Bool.or_false]
          refine decide_eq_decide.mpr ⟨fun z => ⟨by omega, z.2⟩, fun z => ⟨?_, z.2⟩⟩
          rcases Nat.lt_or_ge j i with z2 | z2
          · exact z2
          · have : j = i := by omega
            subst this
            exact absurd z.2 h4
  exact zX12_standingOnes (main 0 (by omega) 0 w32_0 (fun j _ => by rw [zb_0]; exact (decide_eq_false (by omega)).symm))
theorem sX0_fallenSetN {T : Nat × (Nat → Int32)} {d : Nat} {Q : mz_K} {X : mz_X} {g : mz_S} (w : WfB g) (k : ∀ n : Nat, n < 4096 → (∀ i, n.testBit i = decide ((i : Int) < g 9 1 ∧ ¬ g 13 i = -1)) → Q (n : Int) g) : zC T (d + 2) 3 [mx_R 9] g Q X := by
  have h1 := w.1
  refine sX0_fallenSet w (fun s hr hs hb => ?_)
  obtain ⟨n, e1, e2, e3⟩ := zb_set (s := s) 12 (by omega) hs (fun i hi hi2 => by rw [hb i hi2, decide_eq_false (by omega)])
  rw [e1]
  refine k n e2 (fun i => ?_)
  rw [← e3 i]
  rcases Nat.lt_or_ge i 32 with z | z
  · exact hb i z
  · rw [zb_big z, decide_eq_false (by omega)]
/-- the tape -/
def IP (g : mz_S) : Prop := (0 ≤ g 26 1 ∧ g 26 1 ≤ 400) ∧ g 99 26 = g 26 1 ∧ (∀ i, i < 400 → 0 ≤ g 27 i ∧ g 27 i ≤ 255) ∧ (∀ i : Nat, (i : Int) < g 26 1 → g 119 i = g 27 i) ∧ ∀ i, i < 400 → 0 ≤ g 119 i ∧ g 119 i ≤ 255
theorem IP.fr {S F : List Nat} {g g' : mz_S} (w : IP g) (h : Ch S F g g') (hS : ∀ q ∈ [26, 27, 119], q ∉ S) (hF : ∀ f ∈ [26], f ∉ F) : IP g' := by
  have e : ∀ q ∈ [26, 27, 119], g' q = g q := fun q hq => h.1 q (hS q hq) (by intro z; subst z; revert hq; decide)
  unfold IP at w ⊢
  rw [e 26 (by decide), e 27 (by decide), e 119 (by decide), h.2 26 (hF 26 (by decide))]
  exact w
def bytF (x : Int) (j : Nat) : Int := mx_iand (mx_iushr x (24 - 8 * (j : Int))) 255
theorem bytF_rng (x : Int) (j : Nat) : 0 ≤ bytF x j ∧ bytF x j ≤ 255 := by
  unfold bytF mx_iand
  generalize Int32.ofInt (mx_iushr x (24 - 8 * (j : Int))) = y
  have h : (y &&& Int32.ofInt 255).toBitVec.toNat ≤ 255 := by
    rw [Int32.toBitVec_and, BitVec.toNat_and]; exact Nat.and_le_right
  rw [← Int32.toInt_toBitVec, BitVec.toInt_eq_toNat_of_lt (by omega)]
  omega
def fedS (g : mz_S) (x : Int) (m : Nat) : mz_S := mx_up (rngS g 27 (g 26 1).toNat (bytF x) m) 26 1 (g 26 1 + m)
theorem sX8_addFour {T : Nat × (Nat → Int32)} {d : Nat} {Q : mz_K} {X : mz_X} {g : mz_S} {x : Int} (h : 0 ≤ g 26 1 ∧ g 26 1 ≤ 396) (k : Q 0 (fedS g x 4)) : zC T (d + 1) 112 [mx_R 26, mx_I x] g Q X := by
  have main : ∀ i : Nat, i ≤ 4 → aX8_addFour T d Q X 3 [some (mx_R 26), some (mx_I x), some (mx_I (24 - 8 * (i : Int)))] [] (fedS g x i) (0, 0) := by
    refine upto ?_ (fun i hi ih => ?_)
    · refine zX8_addFour_3 ?_
      first | with_reducible refine c_lt ?_ ?_ (fun z => ?_) (fun z => ?_) | with_reducible refine c_le ?_ ?_ (fun z => ?_) (fun z => ?_) | with_reducible refine c_eq ?_ ?_ (fun z => ?_) (fun z => ?_) | with_reducible refine c_ne ?_ ?_ (fun z => ?_) (fun z => ?_)
      · omega
      · omega
      · exact zX8_addFour_49 k
      · omega
    · have e1 : fedS g x i 26 1 = g 26 1 + i := up_s
      refine zX8_addFour_3 ?_
      rw [e1]
      first | with_reducible refine c_lt ?_ ?_ (fun z => ?_) (fun z => ?_) | with_reducible refine c_le ?_ ?_ (fun z => ?_) (fun z => ?_) | with_reducible refine c_eq ?_ ?_ (fun z => ?_) (fun z => ?_) | with_reducible refine c_ne ?_ ?_ (fun z => ?_) (fun z => ?_)
      · omega
      · omega
      · omega
      · first | with_reducible refine c_lt ?_ ?_ (fun z2 => ?_) (fun z2 => ?_) | with_reducible refine c_le ?_ ?_ (fun z2 => ?_) (fun z2 => ?_) | with_reducible refine c_eq ?_ ?_ (fun z2 => ?_) (fun z2 => ?_) | with_reducible refine c_ne ?_ ?_ (fun z2 => ?_) (fun z2 => ?_)
        · omega
        · omega
        · omega
        · refine s_inE ((g 26 1).toNat + i) ?_ ?_ (fun ea => ?_)
          · omega
          · omega
          try simp only [ea]
          clear ea
          intro g1 eg1
          intro g2 eg2
          have e2 : g1 26 1 = g 26 1 + i := by rw [eg1, up_q (by decide)]; exact e1
          have e3 : g2 = fedS g x (i + 1) := by
            rw [eg2, e2, eg1]
            unfold fedS
            rw [← rngS_s (g := g) (q := 27) (b := (g 26 1).toNat) (f := bytF x) (m := i) rfl]
            funext a b
            simp only [mx_up]
            by_cases hab : a = 26 ∧ b = 1
            · rw [if_pos hab, if_pos hab]; omega
            · rw [if_neg hab, if_neg hab, if_neg hab]; rfl
          rw [e3, show 24 - 8 * (i : Int) + -8 = 24 - 8 * ((i + 1 : Nat) : Int) by omega]
          exact ih
  have m0 := main 0 (by omega)
  have e0 : fedS g x 0 = g := by
    unfold fedS
    rw [rngS_0]
    funext a b
    simp only [mx_up]
    split
    · next z => rw [z.1, z.2]; omega
    · rfl
  rw [e0] at m0
  exact zX8_addFour m0
def pick5 (a b c d e : Int) (k : Nat) : Int := if k < 4 then a else if k < 8 then b else if k < 12 then c else if k < 16 then d else e
def fedF (a b c d e : Int) (k : Nat) : Int := bytF (pick5 a b c d e k) (k % 4)
theorem sX11_feed {T : Nat × (Nat → Int32)} {d : Nat} {Q : mz_K} {X : mz_X} {g : mz_S} {a b c e f : Int} (h : 0 ≤ g 26 1 ∧ g 26 1 ≤ 400) (k1 : 380 < g 26 1 → Q (-1) g) (k2 : g 26 1 ≤ 380 → Q (g 26 1 + 20) (mx_up (rngS g 27 (g 26 1).toNat (fedF a b c e f) 20) 26 1 (g 26 1 + 20))) : zC T (d + 2) 169 [mx_R 0, mx_I a, mx_I b, mx_I c, mx_I e, mx_I f] g Q X := by
  refine zX11_feed ?_
  first | with_reducible refine c_lt ?_ ?_ (fun z => ?_) (fun z => ?_) | with_reducible refine c_le ?_ ?_ (fun z => ?_) (fun z => ?_) | with_reducible refine c_eq ?_ ?_ (fun z => ?_) (fun z => ?_) | with_reducible refine c_ne ?_ ?_ (fun z => ?_) (fun z => ?_)
  · omega
  · omega
  · have l1 : ∀ (G : mz_S) (x : Int), fedS G x 4 26 1 = G 26 1 + 4 := fun G x => up_s
    have l2 : ∀ (G : mz_S) (x : Int), 0 ≤ G 26 1 → fedS G x 4 27 = lrng (G 27) (G 26 1).toNat (bytF x) 4 := by
      intro G x _
      unfold fedS; rw [up_at, if_neg (by decide), rngS_at, if_pos rfl]
    refine sX8_addFour (by omega) (sX8_addFour (by rw [l1]; omega) (sX8_addFour (by rw [l1, l1]; omega) (sX8_addFour (by rw [l1, l1, l1]; omega) (sX8_addFour (by rw [l1, l1, l1, l1]; omega) ?_))))
    have e : fedS (fedS (fedS (fedS (fedS g a 4) b 4) c 4) e 4) f 4 = mx_up (rngS g 27 (g 26 1).toNat (fedF a b c e f) 20) 26 1 (g 26 1 + 20) := by
      funext x i
      by_cases h26 : x = 26
      · subst h26
        by_cases hi : i = 1
        · subst hi
          rw [l1, l1, l1, l1, l1, up_s]; omega
        · rw [up_i hi, rngS_n (by decide)]
          unfold fedS
          rw [up_i hi, rngS_n (by decide), up_i hi, rngS_n (by decide), up_i hi, rngS_n (by decide), up_i hi, rngS_n (by decide), up_i hi, rngS_n (by decide)]
      · by_cases h27 : x = 27
        · subst h27
          rw [l2 _ _ (by simp only [l1]; omega), l2 _ _ (by simp only [l1]; omega), l2 _ _ (by simp only [l1]; omega), l2 _ _ (by simp only [l1]; omega), l2 _ _ (by omega), up_q h26, rngS_at, if_pos rfl]
          simp only [l1]
          obtain ⟨n, en⟩ := Int.eq_ofNat_of_zero_le h.1
          rw [en, show ((n : Int)).toNat = n by omega, show ((n : Int) + 4).toNat = n + 4 by omega, show ((n : Int) + 4 + 4).toNat = n + 8 by omega, show ((n : Int) + 4 + 4 + 4).toNat = n + 12 by omega, show ((n : Int) + 4 + 4 + 4 + 4).toNat = n + 16 by omega]
          unfold lrng fedF pick5
          by_cases c0 : n ≤ i ∧ i < n + 20
          · rw [if_pos c0]
            obtain ⟨j, rfl⟩ : ∃ j, i = n + j := ⟨i - n, by omega⟩
            rcases Nat.lt_or_ge j 4 with z1 | z1
            · rw [if_neg (by omega), if_neg (by omega), if_neg (by omega), if_neg (by omega), if_pos (by omega), if_pos (by omega)]
              congr 1; omega
            · rcases Nat.lt_or_ge j 8 with z2 | z2
              · rw [if_neg (by omega), if_neg (by omega), if_neg (by omega), if_pos (by omega), if_neg (by omega), if_pos (by omega)]
                congr 1; omega
              · rcases Nat.lt_or_ge j 12 with z3 | z3
                · rw [if_neg (by omega), if_neg (by omega), if_pos (by omega), if_neg (by omega), if_neg (by omega), if_pos (by omega)]
                  congr 1; omega
                · rcases Nat.lt_or_ge j 16 with z4 | z4
                  · rw [if_neg (by omega), if_pos (by omega), if_neg (by omega), if_neg (by omega), if_neg (by omega), if_pos (by omega)]
                    congr 1; omega
                  · rw [if_pos (by omega), if_neg (by omega), if_neg (by omega), if_neg (by omega), if_neg (by omega)]
                    congr 1; omega
          · rw [if_neg (by omega), if_neg (by omega), if_neg (by omega), if_neg (by omega), if_neg (by omega), if_neg (by omega)]
        · rw [up_q h26, rngS_n h27]
          unfold fedS
          rw [up_q h26, rngS_n h27, up_q h26, rngS_n h27, up_q h26, rngS_n h27, up_q h26, rngS_n h27, up_q h26, rngS_n h27]
    rw [e, up_s]
    exact k2 (by omega)
  · exact k1 (by omega)
theorem and3_v {i : Nat} (h : i < 20) : mx_iand (i : Int) 3 = ((i % 4 : Nat) : Int) := (by decide +kernel : ∀ i : Nat, i < 20 → mx_iand (i : Int) 3 = ((i % 4 : Nat) : Int)) i h
theorem sX12_feed {T : Nat × (Nat → Int32)} {d : Nat} {Q : mz_K} {X : mz_X} {g : mz_S} {a b c e f : Int} (h : 0 ≤ g 99 26 ∧ g 99 26 ≤ 400) (k1 : 380 < g 99 26 → Q (-1) (mx_up g 99 0 0)) (k2 : g 99 26 ≤ 380 → Q (g 99 26 + 20) (mx_up (rngS (mx_up g 99 0 0) 119 (g 99 26).toNat (fedF a b c e f) 20) 99 26 (g 99 26 + 20))) : zC T (d + 1) 240 [mx_R 99, mx_I a, mx_I b, mx_I c, mx_I e, mx_I f] g Q X := by
  refine zX12_feed ?_
  intro G eG
  have e26 : G 99 26 = g 99 26 := by rw [eG, up_i (by decide)]
  rw [← eG] at k1 k2
  rw [e26]
  first | with_reducible refine c_lt ?_ ?_ (fun z => ?_) (fun z => ?_) | with_reducible refine c_le ?_ ?_ (fun z => ?_) (fun z => ?_) | with_reducible refine c_eq ?_ ?_ (fun z => ?_) (fun z => ?_) | with_reducible refine c_ne ?_ ?_ (fun z => ?_) (fun z => ?_)
  · omega
  · omega
  · have k := k2 (by omega)
    have main : ∀ i : Nat, i ≤ 20 → ∀ o7, aX12_feed T d Q X 23 [some (mx_R 99), some (mx_I a), some (mx_I b), some (mx_I c), some (mx_I e), some (mx_I f), some (mx_I (i : Int)), o7] [] (mx_up (rngS G 119 (g 99 26).toNat (fedF a b c e f) i) 99 26 (g 99 26 + i)) (0, 0) := by
      refine upto ?_ (fun i hi ih => ?_)
      · intro o7
        refine zX12_feed_23 ?_
        first | with_reducible refine c_lt ?_ ?_ (fun z2 => ?_) (fun z2 => ?_) | with_reducible refine c_le ?_ ?_ (fun z2 => ?_) (fun z2 => ?_) | with_reducible refine c_eq ?_ ?_ (fun z2 => ?_) (fun z2 => ?_) | with_reducible refine c_ne ?_ ?_ (fun z2 => ?_) (fun z2 => ?_)
        · omega
        · omega
        · rw [up_s]; exact k
        · omega
      · intro o7
        have put : ∀ s, s = pick5 a b c e f i → ∀ o7, aX12_feed T d Q X 76 [some (mx_R 99), some (mx_I a), some (mx_I b), some (mx_I c), some (mx_I e), some (mx_I f), some (mx_I (i : Int)), o7] [mx_I s] (mx_up (rngS G 119 (g 99 26).toNat (fedF a b c e f) i) 99 26 (g 99 26 + i)) (0, 0) := by
          intro s hs o7
          refine zX12_feed_76 ?_
          rw [up_s, and3_v hi]
          refine s_inE ((g 99 26).toNat + i) ?_ ?_ (fun ea => ?_)
          · omega
          · omega
          try simp only [ea]
          clear ea
          intro g1 eg1
          intro g2 eg2
          have e2 : g1 99 26 = g 99 26 + i := by rw [eg1, up_q (by decide), up_s]
          have e3 : g2 = mx_up (rngS G 119 (g 99 26).toNat (fedF a b c e f) (i + 1)) 99 26 (g 99 26 + ((i + 1 : Nat) : Int)) := by
            rw [eg2, e2, eg1, ← rngS_s (g := G) (q := 119) (b := (g 99 26).toNat) (f := fedF a b c e f) (m := i) rfl]
            funext x y
            simp only [mx_up]
            by_cases hab : x = 99 ∧ y = 26
            · rw [if_pos hab, if_pos hab]; omega
            · rw [if_neg hab, if_neg hab, if_neg hab, hs]; rfl
          rw [e3]
          have := ih (some (mx_I s))
          exact this
        refine zX12_feed_23 ?_
        first | with_reducible refine c_lt ?_ ?_ (fun z2 => ?_) (fun z2 => ?_) | with_reducible refine c_le ?_ ?_ (fun z2 => ?_) (fun z2 => ?_) | with_reducible refine c_eq ?_ ?_ (fun z2 => ?_) (fun z2 => ?_) | with_reducible refine c_ne ?_ ?_ (fun z2 => ?_) (fun z2 => ?_)
        · omega
        · omega
        · omega
        · unfold pick5 at put
          first | with_reducible refine c_lt ?_ ?_ (fun z3 => ?_) (fun z3 => ?_) | with_reducible refine c_le ?_ ?_ (fun z3 => ?_) (fun z3 => ?_) | with_reducible refine c_eq ?_ ?_ (fun z3 => ?_) (fun z3 => ?_) | with_reducible refine c_ne ?_ ?_ (fun z3 => ?_) (fun z3 => ?_)
          · omega
          · omega
          · first | with_reducible refine c_lt ?_ ?_ (fun z4 => ?_) (fun z4 => ?_) | with_reducible refine c_le ?_ ?_ (fun z4 => ?_) (fun z4 => ?_) | with_reducible refine c_eq ?_ ?_ (fun z4 => ?_) (fun z4 => ?_) | with_reducible refine c_ne ?_ ?_ (fun z4 => ?_) (fun z4 => ?_)
            · omega
            · omega
            · first | with_reducible refine c_lt ?_ ?_ (fun z5 => ?_) (fun z5 => ?_) | with_reducible refine c_le ?_ ?_ (fun z5 => ?_) (fun z5 => ?_) | with_reducible refine c_eq ?_ ?_ (fun z5 => ?_) (fun z5 => ?_) | with_reducible refine c_ne ?_ ?_ (fun z5 => ?_) (fun z5 => ?_)
              · omega
              · omega
              · first | with_reducible refine c_lt ?_ ?_ (fun z6 => ?_) (fun z6 => ?_) | with_reducible refine c_le ?_ ?_ (fun z6 => ?_) (fun z6 => ?_) | with_reducible refine c_eq ?_ ?_ (fun z6 => ?_) (fun z6 => ?_) | with_reducible refine c_ne ?_ ?_ (fun z6 => ?_) (fun z6 => ?_)
                · omega
                · omega
                · exact put _ (by rw [if_neg (by omega), if_neg (by omega), if_neg (by omega), if_neg (by omega)]) _
                · exact put _ (by rw [if_neg (by omega), if_neg (by omega), if_neg (by omega), if_pos (by omega)]) _
              · exact put _ (by rw [if_neg (by omega), if_neg (by omega), if_pos (by omega)]) _
            · exact put _ (by rw [if_neg (by omega), if_pos (by omega)]) _
          · exact put _ (by rw [if_pos (by omega)]) _
    have m0 := main 0 (by omega) none
    rw [rngS_0] at m0
    have e0 : mx_up G 99 26 (g 99 26 + ((0 : Nat) : Int)) = G := by
      funext x y
      simp only [mx_up]
      split
      · next z => rw [z.1, z.2, e26]; omega
      · rfl
    rw [e0] at m0
    exact m0
  · exact k1 (by omega)
theorem C_feed {T : Nat × (Nat → Int32)} {d : Nat} {X X' : mz_X} {g : mz_S} {a b c e f : Int} (w : IP g) : zC T (d + 4) 169 [mx_R 0, mx_I a, mx_I b, mx_I c, mx_I e, mx_I f] g (fun r g1 => zC T (d + 4) 240 [mx_R 99, mx_I a, mx_I b, mx_I c, mx_I e, mx_I f] g1 (fun b g2 => r = b ∧ IP g2 ∧ Qy [26, 27, 119] [0, 26] g g2 ∧ ∀ p, p ≠ 1 → g2 26 p = g 26 p) X') X := by
  obtain ⟨w1, w2, w3, w4, w5⟩ := w
  refine sX11_feed w1 (fun h1 => ?_) (fun h1 => ?_)
  · refine sX12_feed (by omega) (fun _ => ?_) (fun z => by omega)
    have c1 := ch_0 g 0
    refine ⟨rfl, IP.fr ⟨w1, w2, w3, w4, w5⟩ c1 (by decide) (by decide), ⟨c1.sub (by decide) (by decide), fun z => z.fr c1 (by decide)⟩, fun p _ => by rw [c1.1 26 (by decide) (by decide)]⟩
  · obtain ⟨g1, e1⟩ : ∃ g1, g1 = mx_up (rngS g 27 (g 26 1).toNat (fedF a b c e f) 20) 26 1 (g 26 1 + 20) := ⟨_, rfl⟩
    rw [← e1]
    have f9 : g1 99 26 = g 26 1 := by rw [e1, up_q (by decide), rngS_n (by decide), w2]
    refine sX12_feed (by omega) (fun z => by omega) (fun _ => ?_)
    rw [f9]
    obtain ⟨g2, e2⟩ : ∃ g2, g2 = mx_up (rngS (mx_up g1 99 0 0) 119 (g 26 1).toNat (fedF a b c e f) 20) 99 26 (g 26 1 + 20) := ⟨_, rfl⟩
    rw [← e2]
    have c2 : Ch [26, 27, 119] [0, 26] g g2 := by
      rw [e2, e1]
      repeat' first | exact Ch.rf g | refine Ch.up9 ?_ (by decide) | refine Ch.up ?_ (by decide) (by decide) | refine Ch.rng ?_ (by decide) (by decide)
    have q26 : g2 26 = lset (g 26) 1 (g 26 1 + 20) := by rw [e2, e1]; simp [up_at, rngS_at]
    have q27 : g2 27 = lrng (g 27) (g 26 1).toNat (fedF a b c e f) 20 := by rw [e2, e1]; simp [up_at, rngS_at]
    have q119 : g2 119 = lrng (g 119) (g 26 1).toNat (fedF a b c e f) 20 := by rw [e2, e1]; simp [up_at, rngS_at]
    refine ⟨rfl, ⟨?_, ?_, ?_, ?_, ?_⟩, ⟨c2, fun z => z.fr c2 (by decide)⟩, fun p hp => by rw [q26, lset_n hp]⟩
    · rw [q26, lset_s]; omega
    · rw [q26, lset_s, e2, up_s]
    · rw [q27]
      intro i hi
      unfold lrng
      split
      · exact bytF_rng _ _
      · exact w3 i hi
    · rw [q26, lset_s, q27, q119]
      intro i hi
      unfold lrng
      split
      · rfl
      · exact w4 i (by omega)
    · rw [q119]
      intro i hi
      unfold lrng
      split
      · exact bytF_rng _ _
      · exact w5 i hi
/-- fault -/
theorem C_fault {T : Nat × (Nat → Int32)} {d : Nat} {X X' : mz_X} {g : mz_S} {x : Int} (h1 : g 99 34 = g 31 2) (h2 : g 99 35 = g 31 3) (hx : R32 x) : zC T (d + 4) 171 [mx_R 0, mx_I x] g (fun r g1 => zC T (d + 4) 265 [mx_R 99, mx_I x] g1 (fun b g2 => r = b ∧ Qy [] [0] g g2) X') X := by
  have c1 := ch_0 g 0
  have e1 : mx_up g 99 0 0 99 34 = g 31 2 := by rw [up_i (by decide), h1]
  have e2 : mx_up g 99 0 0 99 35 = g 31 3 := by rw [up_i (by decide), h2]
  have fin : ∀ r b : Int, r = b → r = b ∧ Qy [] [0] g (mx_up g 99 0 0) := fun r b e => ⟨e, c1, fun z => z.fr c1 (by decide)⟩
  refine zX11_fault ?_
  first | with_reducible refine c_lt ?_ ?_ (fun z1 => ?_) (fun z1 => ?_) | with_reducible refine c_le ?_ ?_ (fun z1 => ?_) (fun z1 => ?_) | with_reducible refine c_eq ?_ ?_ (fun z1 => ?_) (fun z1 => ?_) | with_reducible refine c_ne ?_ ?_ (fun z1 => ?_) (fun z1 => ?_)
  · omega
  · omega
  · first | with_reducible refine c_lt ?_ ?_ (fun z2 => ?_) (fun z2 => ?_) | with_reducible refine c_le ?_ ?_ (fun z2 => ?_) (fun z2 => ?_) | with_reducible refine c_eq ?_ ?_ (fun z2 => ?_) (fun z2 => ?_) | with_reducible refine c_ne ?_ ?_ (fun z2 => ?_) (fun z2 => ?_)
    · omega
    · omega
    · refine zX11_fault_28 (zX12_fault ?_)
      rintro _ rfl
      rw [e1, e2]
      first | with_reducible refine c_lt ?_ ?_ (fun z3 => ?_) (fun z3 => ?_) | with_reducible refine c_le ?_ ?_ (fun z3 => ?_) (fun z3 => ?_) | with_reducible refine c_eq ?_ ?_ (fun z3 => ?_) (fun z3 => ?_) | with_reducible refine c_ne ?_ ?_ (fun z3 => ?_) (fun z3 => ?_)
      · omega
      · omega
      · first | with_reducible refine c_lt ?_ ?_ (fun z4 => ?_) (fun z4 => ?_) | with_reducible refine c_le ?_ ?_ (fun z4 => ?_) (fun z4 => ?_) | with_reducible refine c_eq ?_ ?_ (fun z4 => ?_) (fun z4 => ?_) | with_reducible refine c_ne ?_ ?_ (fun z4 => ?_) (fun z4 => ?_)
        · omega
        · omega
        · exact zX12_fault_29 (fin _ _ rfl)
        · omega
      · omega
    · refine zX11_fault_28 (zX12_fault ?_)
      rintro _ rfl
      rw [e1, e2]
      first | with_reducible refine c_lt ?_ ?_ (fun z3 => ?_) (fun z3 => ?_) | with_reducible refine c_le ?_ ?_ (fun z3 => ?_) (fun z3 => ?_) | with_reducible refine c_eq ?_ ?_ (fun z3 => ?_) (fun z3 => ?_) | with_reducible refine c_ne ?_ ?_ (fun z3 => ?_) (fun z3 => ?_)
      · omega
      · omega
      · first | with_reducible refine c_lt ?_ ?_ (fun z4 => ?_) (fun z4 => ?_) | with_reducible refine c_le ?_ ?_ (fun z4 => ?_) (fun z4 => ?_) | with_reducible refine c_eq ?_ ?_ (fun z4 => ?_) (fun z4 => ?_) | with_reducible refine c_ne ?_ ?_ (fun z4 => ?_) (fun z4 => ?_)
        · omega
        · omega
        · omega
        · exact zX12_fault_29 (fin _ _ rfl)
      · omega
  · refine zX12_fault ?_
    rintro _ rfl
    rw [e1, e2]
    first | with_reducible refine c_lt ?_ ?_ (fun z3 => ?_) (fun z3 => ?_) | with_reducible refine c_le ?_ ?_ (fun z3 => ?_) (fun z3 => ?_) | with_reducible refine c_eq ?_ ?_ (fun z3 => ?_) (fun z3 => ?_) | with_reducible refine c_ne ?_ ?_ (fun z3 => ?_) (fun z3 => ?_)
    · omega
    · omega
    · omega
    · exact zX12_fault_29 (fin _ _ rfl)
/-- count -/
theorem C_count {T : Nat × (Nat → Int32)} {d : Nat} {X X' : mz_X} {g : mz_S} {x : Int} (wl : IL g) (wb : IB g) (we : IE g) (wx : IX g) (wp : IP g) (ht : g 99 36 = g 39 3) (hw : g 99 55 = g 48 4) (hx : R32 x) : zC T (d + 4) 206 [mx_R 0, mx_I x] g (fun r g1 => zC T (d + 4) 329 [mx_R 99, mx_I x] g1 (fun b g2 => r = b ∧ Qy [] [0] g g2) X') X := by
  have c1 := ch_0 g 0
  have fin : ∀ r b : Int, r = b → r = b ∧ Qy [] [0] g (mx_up g 99 0 0) := fun r b e => ⟨e, c1, fun z => z.fr c1 (by decide)⟩
  have hxw : w32 x = x := w32_of hx.1 hx.2
  by_cases hr : 0 ≤ x ∧ x ≤ 9
  · have go : ∀ r : Int, (∀ b, b = r → r = b ∧ Qy [] [0] g (mx_up g 99 0 0)) := fun r b e => fin r b e.symm
    have ref : ∀ r : Int, aX12_count T (d + 3) (fun b g2 => r = b ∧ Qy [] [0] g g2) X' ([60, 65, 70, 75, 80, 85, 90, 95, 100, 113].getD (x - 0).toNat 0) [some (mx_R 99), some (mx_I x)] [] (mx_up g 99 0 0) (0, 0) → zC T (d + 4) 329 [mx_R 99, mx_I x] g (fun b g2 => r = b ∧ Qy [] [0] g g2) X' := by
      intro r k
      refine zX12_count ?_
      rintro _ rfl
      rw [hxw]
      exact ⟨fun z => absurd hr z, fun _ => k⟩
    refine zX11_count ?_
    rw [hxw]
    refine ⟨fun z => absurd hr z, fun _ => ?_⟩
    have h10 : x = 0 ∨ x = 1 ∨ x = 2 ∨ x = 3 ∨ x = 4 ∨ x = 5 ∨ x = 6 ∨ x = 7 ∨ x = 8 ∨ x = 9 := by omega
    have u : ∀ f, f ≠ 0 → mx_up g 99 0 0 99 f = g 99 f := fun f hf => up_i hf
    rcases h10 with z | z | z | z | z | z | z | z | z | z <;> subst z
    · exact zX11_count_56 (ref _ (zX12_count_60 (go _ _ (by rw [u 1 (by decide), wl.2.2.1.1]))))
    · exact zX11_count_64 (ref _ (zX12_count_65 (go _ _ (by rw [u 2 (by decide), wl.2.2.1.2.1]))))
    · exact zX11_count_72 (ref _ (zX12_count_70 (go _ _ (by rw [u 10 (by decide), wb.2.1.1]))))
    · exact zX11_count_80 (ref _ (zX12_count_75 (go _ _ (by rw [u 3 (by decide), wl.2.2.1.2.2.1]))))
    · exact zX11_count_88 (ref _ (zX12_count_80 (go _ _ (by rw [u 36 (by decide), ht]))))
    · exact zX11_count_96 (ref _ (zX12_count_85 (go _ _ (by rw [u 55 (by decide), hw]))))
    · exact zX11_count_104 (ref _ (zX12_count_90 (go _ _ (by rw [u 16 (by decide), we.2.2.1.1]))))
    · exact zX11_count_112 (ref _ (zX12_count_95 (go _ _ (by rw [u 84 (by decide), wx.2.1]))))
    · refine zX11_count_120 (sX0_fallenSetN wb.1 (fun n hn hb => sJ6_bitCount hn (ref _ (zX12_count_100 ?_))))
      have rb : ReB g (mx_up g 99 0 0) := wb.2.1.fr c1 (by decide) (by decide)
      refine sX12_standingOnes wb.1 rb (fun m hm hb2 => sX12_ones hm (go _ _ ?_))
      rw [u 10 (by decide), wb.2.1.1, popN_sum, popN_sum]
      have h9 := wb.1.1
      have hs : sumN (fun i => bI (n.testBit i)) 12 + sumN (fun i => bI (m.testBit i)) 12 = g 9 1 := by
        rw [← sumN_add]
        have : ∀ k : Nat, sumN (fun i => bI (n.testBit i) + bI (m.testBit i)) k = min (k : Int) (g 9 1) := by
          intro k
          induction k with
          | zero => show (0 : Int) = _; omega
          | succ k ih =>
            show sumN _ k + (bI (n.testBit k) + bI (m.testBit k)) = _
            rw [ih, hb k, hb2 k]
            unfold bI
            by_cases z1 : (k : Int) < g 9 1
            · by_cases z2 : g 13 k = -1
              · rw [decide_eq_false (fun z => z.2 z2), decide_eq_true ⟨z1, z2⟩]; simp; omega
              · rw [decide_eq_true ⟨z1, z2⟩, decide_eq_false (fun z => z2 z.2)]; simp; omega
            · rw [decide_eq_false (fun z => z1 z.1), decide_eq_false (fun z => z1 z.1)]; simp; omega
        rw [this 12]; omega
      omega
    · exact zX11_count_131 (ref _ (zX12_count_113 (go _ _ (by rw [u 26 (by decide), wp.2.1]))))
  · refine zX11_count ?_
    rw [hxw]
    refine ⟨fun _ => zX12_count ?_, fun z => absurd z hr⟩
    rintro _ rfl
    rw [hxw]
    exact ⟨fun _ => fin _ _ rfl, fun z => absurd z hr⟩
