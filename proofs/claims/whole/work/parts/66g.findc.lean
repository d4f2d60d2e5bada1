/-! fewest settlings: the class, whole -/
theorem pow13 : ∀ n, n < 13 → mx_ishl 1 (n : Nat) = ((2 ^ n : Nat) : Int) := by decide +kernel
/-- what all owe one another is nothing -/
theorem dbl_0 {F : Nat → Nat → Int} : ∀ m, (∀ a b, a < m → b < m → F b a = - F a b) → sumN (fun a => sumN (fun b => F a b) m) m = 0 := by
  intro m
  induction m with
  | zero => intro _; rfl
  | succ m ih =>
    intro h
    have i := ih (fun a b ha hb => h a b (by omega) (by omega))
    have s := h m m (by omega) (by omega)
    have e1 : sumN (fun a => sumN (fun b => F a b) (m + 1)) m = sumN (fun a => sumN (fun b => F a b) m + F a m) m := sumN_congr (fun a _ => rfl)
    have e2 : sumN (fun b => F m b) m = - sumN (fun a => F a m) m := by
      rw [← sumN_neg]
      exact sumN_congr (fun a ha => h a m (by omega) (by omega))
    have e3 : sumN (fun a => sumN (fun b => F a b) m + F a m) m = sumN (fun a => sumN (fun b => F a b) m) m + sumN (fun a => F a m) m := sumN_add
    show sumN (fun a => sumN (fun b => F a b) (m + 1)) m + (sumN (fun b => F m b) m + F m m) = 0
    omega
theorem fw_sum {N : Nat → Nat → Int} {m : Nat} {st : Nat → Bool} : ∀ a, sumN (fun i => fwO N m st ((fwM N m st a).getD i 0)) (fwM N m st a).length = sumN (fun x => if st x = true then fwO N m st x else 0) a := by
  intro a
  induction a with
  | zero => rfl
  | succ a ih =>
    show _ = sumN (fun x => if st x = true then fwO N m st x else 0) a + (if st a = true then fwO N m st a else 0)
    rw [← ih]
    by_cases z : st a = true ∧ fwO N m st a ≠ 0
    · have e : fwM N m st (a + 1) = fwM N m st a ++ [a] := if_pos z
      rw [e, List.length_append, if_pos z.1]
      show sumN _ (fwM N m st a).length + fwO N m st ((fwM N m st a ++ [a]).getD (fwM N m st a).length 0) = _
      rw [getD_app, if_neg (Nat.lt_irrefl _), if_pos rfl]
      congr 1
      exact sumN_congr (fun i hi => by rw [getD_app, if_pos hi])
    · have e : fwM N m st (a + 1) = fwM N m st a := if_neg z
      rw [e]
      have : (if st a = true then fwO N m st a else 0) = 0 := by
        by_cases y : st a = true
        · rw [if_pos y]; exact Decidable.byContradiction (fun w => z ⟨y, w⟩)
        · exact if_neg y
      rw [this, Int.add_zero]
theorem fw_0 {N : Nat → Nat → Int} {m : Nat} {st : Nat → Bool} (hN : ∀ a b, a < m → b < m → N b a = - N a b) : sbS (fwM N m st m).length (fun i => fwO N m st ((fwM N m st m).getD i 0)) (2 ^ (fwM N m st m).length - 1) = 0 := by
  have e : sbS (fwM N m st m).length (fun i => fwO N m st ((fwM N m st m).getD i 0)) (2 ^ (fwM N m st m).length - 1) = sumN (fun i => fwO N m st ((fwM N m st m).getD i 0)) (fwM N m st m).length := by
    unfold sbS
    refine sumN_congr (fun k hk => ?_)
    rw [Nat.testBit_two_pow_sub_one, decide_eq_true hk, if_pos rfl]
  rw [e, fw_sum]
  have d := dbl_0 (F := fun a b => if st a = true then (if st b = true then N b a else 0) else 0) m (fun a b ha hb => by
    show (if st b = true then (if st a = true then N a b else 0) else 0) = - (if st a = true then (if st b = true then N b a else 0) else 0)
    have := hN a b ha hb
    by_cases x : st a = true
    · by_cases y : st b = true
      · simp only [if_pos x, if_pos y]; omega
      · simp only [if_pos x, if_neg y]; rfl
    · by_cases y : st b = true
      · simp only [if_neg x, if_pos y]; rfl
      · simp only [if_neg x, if_neg y]; rfl)
  refine Eq.trans ?_ d
  refine sumN_congr (fun a ha => ?_)
  by_cases x : st a = true
  · rw [if_pos x]
    unfold fwO
    exact sumN_congr (fun b _ => by rw [if_pos x])
  · rw [if_neg x]
    exact (sumN_zero (fun b _ => if_neg x)).symm
theorem fwB_bnd {N : Nat → Nat → Int} {m : Nat} {st : Nat → Bool} (hm : m ≤ 12) (hb : ∀ a b, a < 12 → b < 12 → -2000000000 ≤ N a b ∧ N a b ≤ 2000000000) (i : Nat) (hi : i < (fwM N m st m).length) : -24000000000 ≤ fwO N m st ((fwM N m st m).getD i 0) ∧ fwO N m st ((fwM N m st m).getD i 0) ≤ 24000000000 := by
  have := getD_lt (fwM_lt (N := N) (m := m) (st := st) m) hi
  exact fwO_bnd hm hb (by omega) m (Nat.le_refl m)
def fwS0 (M : List Nat) (O : Nat → Int) : stS := (fun i => O (M.getD i 0), [])
def fwSS (M : List Nat) (O : Nat → Int) : Nat → Int := sbS M.length (fun i => O (M.getD i 0))
theorem fw_I {N : Nat → Nat → Int} {m : Nat} {st : Nat → Bool} (hm : m ≤ 12) (hb : ∀ a b, a < 12 → b < 12 → -2000000000 ≤ N a b ∧ N a b ≤ 2000000000) (hN : ∀ a b, a < m → b < m → N b a = - N a b) (hl : (fwM N m st m).length ≤ 9) : FwI (fwM N m st m).length 24000000000 (fun i => fwO N m st ((fwM N m st m).getD i 0)) 9 (2 ^ (fwM N m st m).length - 1) (fwS0 (fwM N m st m) (fwO N m st)) := by
  have p := Nat.two_pow_pos (fwM N m st m).length
  exact ⟨by omega, fun i hi => by omega, fun k _ _ => rfl, fun k hk => fwB_bnd hm hb k hk, Nat.le_trans (by show 0 + _ ≤ _; rw [Nat.zero_add]; exact nzN_n _ _) hl, fw_0 hN⟩
theorem sX1_settleAll {T : Nat × (Nat → Int32)} {d : Nat} {Q : mz_K} {X : mz_X} {g : mz_S} {n P co s : Nat} {M : List Nat} {bal : Nat → Int} (hn : n ≤ 9) (hP : P = 2 ^ n) (h65 : ∀ i, i < n → g 65 i = (M.getD i 0 : Nat)) (h66 : ∀ i, i < n → g 66 i = bal i) (hB : ∀ i, i < n → -24000000000 ≤ bal i ∧ bal i ≤ 24000000000) (h10 : g 62 10 = 0) (I0 : FwI n 24000000000 bal 9 (P - 1) (bal, [])) (k : ∀ g' G, Ch [62, 66, 67, 68, 69, 70, 71] [] g g' → GT (sbS n bal) G P → SsG g' 66 62 10 69 70 71 n M (fwR (sbS n bal) G n 9 (P - 1) (bal, [])) → Q 0 g') : zC T (d + 3) 18 [mx_R 62, mx_I ((P : Int) - 1)] g (fun _ g3 => aX1_findSettlings T (d + 3) Q X 32 [some (mx_R 62), some (mx_I (co : Int)), some (mx_I (s : Int)), some (mx_I (n : Int)), some (mx_I ((P : Int) - 1)), some (mx_I ((P : Int) - 1)), some (mx_I 0), none] [] g3 (0, 0)) X := by
  have p1 : 1 ≤ P := by rw [hP]; exact Nat.two_pow_pos n
  have p2 : P ≤ 512 := by rw [hP]; exact Nat.pow_le_pow_right (n := 2) (by decide) hn
  refine sX1_countGroups (d := d) hn hP h66 hB (fun g3 c3 h67 hG => ?_)
  have main : ∀ f j : Nat, j + f = 9 → ∀ (p : Nat) (s' : stS) G x4 o7, FwI n 24000000000 bal f p s' → Ch [62, 66, 69, 70, 71] [] g3 G → SsG G 66 62 10 69 70 71 n M s' → (∀ g', Ch [62, 66, 69, 70, 71] [] g3 g' → SsG g' 66 62 10 69 70 71 n M (fwR (sbS n bal) (g3 68) n f p s') → Q 0 g') → aX1_findSettlings T (d + 3) Q X 32 [some (mx_R 62), some (mx_I (co : Int)), some (mx_I (s : Int)), some (mx_I (n : Int)), some (mx_I x4), some (mx_I (p : Int)), some (mx_I (j : Int)), o7] [] G (0, 0) := by
    intro f
    induction f with
    | zero =>
      intro j hj p s' G x4 o7 I cG hS kk
      refine zX1_findSettlings_32 ?_
      first | with_reducible refine c_lt ?_ ?_ (fun z => ?_) (fun z => ?_) | with_reducible refine c_le ?_ ?_ (fun z => ?_) (fun z => ?_) | with_reducible refine c_eq ?_ ?_ (fun z => ?_) (fun z => ?_) | with_reducible refine c_ne ?_ ?_ (fun z => ?_) (fun z => ?_)
      · omega
      · omega
      · exact zX1_findSettlings_74 (kk G cG hS)
      · omega
    | succ f ih =>
      intro j hj p s' G x4 o7 I cG hS kk
      have hp9 := FwI_9 hn I
      have hpP : p < P := by rw [hP]; exact I.1
      refine zX1_findSettlings_32 ?_
      first | with_reducible refine c_lt ?_ ?_ (fun z => ?_) (fun z => ?_) | with_reducible refine c_le ?_ ?_ (fun z => ?_) (fun z => ?_) | with_reducible refine c_eq ?_ ?_ (fun z => ?_) (fun z => ?_) | with_reducible refine c_ne ?_ ?_ (fun z => ?_) (fun z => ?_)
      · omega
      · omega
      · omega
      · first | with_reducible refine c_lt ?_ ?_ (fun z2 => ?_) (fun z2 => ?_) | with_reducible refine c_le ?_ ?_ (fun z2 => ?_) (fun z2 => ?_) | with_reducible refine c_eq ?_ ?_ (fun z2 => ?_) (fun z2 => ?_) | with_reducible refine c_ne ?_ ?_ (fun z2 => ?_) (fun z2 => ?_)
        · omega
        · omega
        · refine zX1_findSettlings_74 (kk G cG ?_)
          show SsG G 66 62 10 69 70 71 n M (if p = 0 then s' else fwR (sbS n bal) (g3 68) n f (p ^^^ lgF (sbS n bal) (g3 68) p) (syR n (lgF (sbS n bal) (g3 68) p) 9 s'))
          rw [if_pos (by omega)]
          exact hS
        · have h0 : p ≠ 0 := by omega
          have e68 : G 68 = g3 68 := cG.1 68 (by decide) (by decide)
          have e67 : G 67 = g3 67 := cG.1 67 (by decide) (by decide)
          have eq : fwR (sbS n bal) (g3 68) n (f + 1) p s' = fwR (sbS n bal) (g3 68) n f (p ^^^ lgF (sbS n bal) (g3 68) p) (syR n (lgF (sbS n bal) (g3 68) p) 9 s') := if_neg h0
          rw [eq] at kk
          obtain ⟨y1, y2, y3⟩ := lg_ex hG hpP hp9 h0 I.2.2.2.2.2
          obtain ⟨i1, i2⟩ := FwI_q hn hG (by rw [← hP]; exact Nat.le_refl P) h0 I
          refine sX1_leastGroup (d := d + 2) (P := P) hn hP (fun q hq => by rw [e67]; exact h67 q hq) hB (by rw [e68]; exact hG) hpP h0 I.2.2.2.2.2 ?_
          rw [e68]
          generalize lgF (sbS n bal) (g3 68) p = q at *
          refine sX1_settleGroup (d := d) hn (by omega) (fun i hi => by rw [cG.1 65 (by decide) (by decide), c3.1 65 (by decide) (by decide)]; exact h65 i hi) i1 hS (fun g4 c4 h4 => ?_)
          rw [idif_nat hp9 y1.1, show (j : Int) + 1 = ((j + 1 : Nat) : Int) by omega]
          exact ih (j + 1) (by omega) (p ^^^ q) (syR n q 9 s') g4 x4 _ (i2 _ (syR_inv 9 s' i1) (syR_out 9 s')) (cG.tr c4) h4 kk
  rw [show (P : Int) - 1 = ((P - 1 : Nat) : Int) by omega]
  refine main 9 0 (by omega) (P - 1) (bal, []) g3 _ none I0 (Ch.rf g3) ⟨fun i hi => by rw [c3.1 66 (by decide) (by decide)]; exact h66 i hi, by rw [c3.1 62 (by decide) (by decide)]; exact h10, fun j hj => absurd hj (Nat.not_lt_zero j)⟩ (fun g' c' h' => k g' (g3 68) ((c3.sub (by decide) (by decide)).tr (c'.sub (by decide) (by decide))) hG h')
theorem sX1_findSettlings {T : Nat × (Nat → Int32)} {d : Nat} {Q : mz_K} {X : mz_X} {g : mz_S} {co m s : Nat} {N : Nat → Nat → Int} {M : List Nat} {O : Nat → Int} (eN : N = fun a b => netC g a b co) (eM : M = fwM N m s.testBit m) (eO : O = fwO N m s.testBit) (wg : WfG g) (em : g 9 1 = (m : Int)) (hm : m ≤ 12) (hco : co < 4) (hs : s < 4096) (hpop : popN 12 s ≤ 9) (hN : ∀ a b, a < m → b < m → N b a = - N a b) (k : ∀ g' G, Ch [62, 65, 66, 67, 68, 69, 70, 71] [] g g' → GT (fwSS M O) G (2 ^ M.length) → SsG g' 66 62 10 69 70 71 M.length M (fwR (fwSS M O) G M.length 9 (2 ^ M.length - 1) (fwS0 M O)) → Q 0 g') : zC T (d + 4) 16 [mx_R 62, mx_I (co : Int), mx_I (s : Int)] g Q X := by
  have hb : ∀ a b, a < 12 → b < 12 → -2000000000 ≤ N a b ∧ N a b ≤ 2000000000 := fun a b ha hb => by rw [eN]; exact wg.2.2.1 ((a * 12 + b) * 4 + co) (by omega)
  have hl : M.length ≤ 9 := by rw [eM]; exact Nat.le_trans (fwM_len m) (Nat.le_trans (popN_le hm) hpop)
  refine zX1_findSettlings ?_
  intro g1 f1
  have c1 : Ch [62] [] g g1 := by rw [f1]; exact (Ch.rf g).up (by decide) (by decide)
  have nn : (fun a b => netC g1 a b co) = N := by
    rw [eN]
    funext a b
    unfold netC
    rw [c1.1 23 (by decide) (by decide)]
  have wg1 : WfG g1 := by
    unfold WfG at wg ⊢
    rw [c1.1 15 (by decide) (by decide), c1.1 16 (by decide) (by decide), c1.1 17 (by decide) (by decide), c1.1 18 (by decide) (by decide), c1.1 19 (by decide) (by decide), c1.1 20 (by decide) (by decide), c1.1 21 (by decide) (by decide), c1.1 23 (by decide) (by decide), c1.1 24 (by decide) (by decide)]
    exact wg
  refine sX1_takeMembers (d := d) (m := m) wg1 (by rw [c1.1 9 (by decide) (by decide)]; exact em) hm hco hs hpop (fun g2 c2 h2 => ?_)
  rw [nn, ← eO, ← eM] at h2
  rw [nn, ← eM, pow13 _ (by omega)]
  have s2 : g2 62 10 = 0 := by rw [c2.1 62 (by decide) (by decide), f1, up_s]
  have I0 := fw_I (st := s.testBit) hm hb hN (by rw [← eM]; exact hl)
  rw [← eO, ← eM] at I0
  have BB : ∀ i, i < M.length → -24000000000 ≤ O (M.getD i 0) ∧ O (M.getD i 0) ≤ 24000000000 := fun i hi => by
    rw [eM] at hi ⊢
    rw [eO]
    exact fwB_bnd hm hb i hi
  exact sX1_settleAll (d := d) (n := M.length) (P := 2 ^ M.length) (M := M) (bal := fun i => O (M.getD i 0)) hl rfl (fun i hi => (h2 i hi).1) (fun i hi => (h2 i hi).2) BB s2 I0 (fun g' G c' hG h' => k g' G ((c1.sub (by decide) (by decide)).tr ((c2.sub (by decide) (by decide)).tr (c'.sub (by decide) (by decide)))) hG h')
