/-! fewest settlings: the reference, whole -/
theorem ge_two {x k : Nat} (h : x.testBit k = true) : 2 ^ k ≤ x := by
  rcases Nat.lt_or_ge x (2 ^ k) with z | z
  · rw [Nat.testBit_lt_two_pow z] at h
    exact absurd h (by decide)
  · exact z
theorem lb_0 {p q : Nat} (hp : p < 512) (h0 : p ≠ 0) : (¬ q &&& lb p = 0) ↔ q.testBit (lwK p) = true := by
  rw [(lw_get hp h0).2.2.1, and_two]
  cases q.testBit (lwK p) <;> simp
theorem lb_sub {p : Nat} (hp : p < 512) (h0 : p ≠ 0) : lb p &&& p = lb p ∧ ¬ lb p &&& lb p = 0 := by
  have t := lw_t hp h0
  have e := (lw_get hp h0).2.2.1
  constructor
  · refine sub_bit.mpr (fun i hi => ?_)
    rw [e, Nat.testBit_two_pow] at hi
    rw [← of_decide_eq_true hi]
    exact t
  · rw [Nat.and_self, e]
    have := Nat.two_pow_pos (lwK p)
    omega
theorem sX12_fwGroups {T : Nat × (Nat → Int32)} {d : Nat} {Q : mz_K} {X : mz_X} {g : mz_S} {n P : Nat} {x1 x2 x3 : Int} {M : List Nat} {bal G : Nat → Int} {o5 o6 : Option mx_v} (hn : n ≤ 9) (hP : P = 2 ^ n) (h82 : g 99 82 = (n : Int)) (hM : ∀ i, i < n → g 151 i = (M.getD i 0 : Nat)) (h155 : ∀ i, i < n → g 155 i = bal i) (h156 : ∀ j, j < P → g 156 j = sbS n bal j) (h154 : ∀ j, j < P → g 154 j = G j) (hB : ∀ i, i < n → -24000000000 ≤ bal i ∧ bal i ≤ 24000000000) (hG : GT (sbS n bal) G P) (h83 : g 99 83 = 0) (I0 : FwI n 24000000000 bal 9 (P - 1) (bal, [])) (k : ∀ g', Ch [152, 153, 155, 157] [83] g g' → SsG g' 155 99 83 152 153 157 n M (fwR (sbS n bal) G n 9 (P - 1) (bal, [])) → Q 0 g') : aX12_seekFewest T (d + 3) Q X 222 [some (mx_R 99), some (mx_I x1), some (mx_I x2), some (mx_I x3), some (mx_I ((P : Int) - 1)), o5, o6] [] g (0, 0) := by
  have p1 : 1 ≤ P := by rw [hP]; exact Nat.two_pow_pos n
  have p2 : P ≤ 512 := by rw [hP]; exact Nat.pow_le_pow_right (n := 2) (by decide) hn
  have main : ∀ (f p : Nat) (s' : stS) G1 o5 o6, FwI n 24000000000 bal f p s' → Ch [152, 153, 155, 157] [83] g G1 → SsG G1 155 99 83 152 153 157 n M s' → (∀ g', Ch [152, 153, 155, 157] [83] g g' → SsG g' 155 99 83 152 153 157 n M (fwR (sbS n bal) G n f p s') → Q 0 g') → aX12_seekFewest T (d + 3) Q X 222 [some (mx_R 99), some (mx_I x1), some (mx_I x2), some (mx_I x3), some (mx_I (p : Int)), o5, o6] [] G1 (0, 0) := by
    intro f
    induction f with
    | zero =>
      intro p s' G1 o5 o6 I cG hS kk
      have h0 := FwI_0 hn I
      refine zX12_seekFewest_222 ?_
      rw [h0] at kk ⊢
      first | with_reducible refine c_lt ?_ ?_ (fun z => ?_) (fun z => ?_) | with_reducible refine c_le ?_ ?_ (fun z => ?_) (fun z => ?_) | with_reducible refine c_eq ?_ ?_ (fun z => ?_) (fun z => ?_) | with_reducible refine c_ne ?_ ?_ (fun z => ?_) (fun z => ?_)
      · omega
      · omega
      · exact kk G1 cG hS
      · omega
    | succ f ih =>
      intro p s' G1 o5 o6 I cG hS kk
      have hp9 := FwI_9 hn I
      have hpP : p < P := by rw [hP]; exact I.1
      refine zX12_seekFewest_222 ?_
      first | with_reducible refine c_lt ?_ ?_ (fun z => ?_) (fun z => ?_) | with_reducible refine c_le ?_ ?_ (fun z => ?_) (fun z => ?_) | with_reducible refine c_eq ?_ ?_ (fun z => ?_) (fun z => ?_) | with_reducible refine c_ne ?_ ?_ (fun z => ?_) (fun z => ?_)
      · omega
      · omega
      · refine kk G1 cG ?_
        show SsG G1 155 99 83 152 153 157 n M (if p = 0 then s' else fwR (sbS n bal) G n f (p ^^^ lgF (sbS n bal) G p) (syR n (lgF (sbS n bal) G p) 9 s'))
        rw [if_pos (by omega)]
        exact hS
      · have h0 : p ≠ 0 := by omega
        have eq : fwR (sbS n bal) G n (f + 1) p s' = fwR (sbS n bal) G n f (p ^^^ lgF (sbS n bal) G p) (syR n (lgF (sbS n bal) G p) 9 s') := if_neg h0
        rw [eq] at kk
        have hs := I.2.2.2.2.2
        obtain ⟨y1, y2, y3⟩ := lg_ex hG hpP hp9 h0 hs
        obtain ⟨i1, i2⟩ := FwI_q hn hG (by rw [← hP]; exact Nat.le_refl P) h0 I
        have is := fun q => lg_is (q := q) hG hpP hp9 h0 hs
        generalize lgF (sbS n bal) G p = t at *
        have b0 := lb_sub hp9 h0
        have hl := lb_lt hp9
        rw [(lw_get hp9 h0).2.2.2.1]
        have seek : ∀ c v : Nat, v + c = t → v &&& p = v → (¬ v &&& lb p = 0) → (∀ j, j < v → ¬ PG (sbS n bal) G p j) → aX12_seekFewest T (d + 3) Q X 239 [some (mx_R 99), some (mx_I x1), some (mx_I x2), some (mx_I x3), some (mx_I (p : Int)), some (mx_I (lb p : Nat)), some (mx_I (v : Int))] [] G1 (0, 0) := by
          intro c
          induction c using Nat.strongRecOn with
          | ind c ih2 =>
            intro v hv v1 v2 hno
            refine zX12_seekFewest_239 ?_
            refine sX12_isGroup (d := d + 2) hn hP (fun j hj => by rw [cG.1 156 (by decide) (by decide)]; exact h156 j hj) (fun j hj => by rw [cG.1 154 (by decide) (by decide)]; exact h154 j hj) hB hG hpP hs v1 v2 (fun yes => ?_) (fun no => ?_)
            · first | with_reducible refine c_lt ?_ ?_ (fun y => ?_) (fun y => ?_) | with_reducible refine c_le ?_ ?_ (fun y => ?_) (fun y => ?_) | with_reducible refine c_eq ?_ ?_ (fun y => ?_) (fun y => ?_) | with_reducible refine c_ne ?_ ?_ (fun y => ?_) (fun y => ?_)
              · omega
              · omega
              · have et := is v yes hno
                rw [et]
                refine sX12_pays (d := d + 1) hn (by omega) (by rw [cG.2 82 (by decide)]; exact h82) (fun i hi => by rw [cG.1 151 (by decide) (by decide)]; exact hM i hi) i1 hS (fun g4 c4 h4 => ?_)
                rw [(ixor_nat hp9 (show t < 512 by omega)).1]
                exact ih (p ^^^ t) (syR n t 9 s') g4 _ _ (i2 _ (syR_inv 9 s' i1) (syR_out 9 s')) (cG.tr c4) h4 kk
              · omega
            · first | with_reducible refine c_lt ?_ ?_ (fun y => ?_) (fun y => ?_) | with_reducible refine c_le ?_ ?_ (fun y => ?_) (fun y => ?_) | with_reducible refine c_eq ?_ ?_ (fun y => ?_) (fun y => ?_) | with_reducible refine c_ne ?_ ?_ (fun y => ?_) (fun y => ?_)
              · omega
              · omega
              · omega
              · have lt : v < t := by
                  rcases Nat.lt_or_ge v t with w | w
                  · exact w
                  · rw [show v = t by omega] at no
                    exact absurd y1 no
                refine sX12_nextSub (d := d + 2) hp9 (show t < 512 by omega) y1.1 y1.2.1 lt (fun v' w1 w2 w3 w4 w5 => ?_)
                refine ih2 (t - v') (by omega) v' (by omega) w3 w4 (fun j hj pg => ?_)
                rcases Nat.lt_or_ge j v with w | w
                · exact hno j w pg
                · by_cases w6 : j = v
                  · rw [w6] at pg; exact no pg
                  · exact w5 j (by omega) hj ⟨pg.1, pg.2.1⟩
        have lbe := (lw_get hp9 h0).2.2.1
        have lt : lb p ≤ t := by rw [lbe]; exact ge_two ((lb_0 hp9 h0).mp y1.2.1)
        refine seek (t - lb p) (lb p) (by omega) b0.1 b0.2 (fun j hj pg => ?_)
        have := ge_two ((lb_0 hp9 h0).mp pg.2.1)
        omega
  rw [show (P : Int) - 1 = ((P - 1 : Nat) : Int) by omega]
  exact main 9 (P - 1) (bal, []) g o5 o6 I0 (Ch.rf g) ⟨h155, h83, fun j hj => absurd hj (Nat.not_lt_zero j)⟩ k
theorem sX12_seekFewest {T : Nat × (Nat → Int32)} {d : Nat} {Q : mz_K} {X : mz_X} {g : mz_S} {c : mz_S} {co m s : Nat} {N : Nat → Nat → Int} {M : List Nat} {O G : Nat → Int} (eN : N = fun a b => netC c a b co) (eM : M = fwM N m s.testBit m) (eO : O = fwO N m s.testBit) (w : WfG c) (wn : WfN c) (re : ReE c g) (h10 : g 99 10 = (m : Int)) (hm : m ≤ 12) (hco : co < 4) (hs : s < 4096) (hpop : popN 12 s ≤ 9) (hN : ∀ a b, a < m → b < m → N b a = - N a b) (hG : GT (fwSS M O) G (2 ^ M.length)) (k : ∀ g', Ch [148, 151, 152, 153, 154, 155, 156, 157] [82, 83] g g' → SsG g' 155 99 83 152 153 157 M.length M (fwR (fwSS M O) G M.length 9 (2 ^ M.length - 1) (fwS0 M O)) → Q 0 g') : zC T (d + 4) 297 [mx_R 99, mx_I (co : Int), mx_I (s : Int)] g Q X := by
  have hb : ∀ a b, a < 12 → b < 12 → -2000000000 ≤ N a b ∧ N a b ≤ 2000000000 := fun a b ha hb => by rw [eN]; exact w.2.2.1 ((a * 12 + b) * 4 + co) (by omega)
  have hl : M.length ≤ 9 := by rw [eM]; exact Nat.le_trans (fwM_len m) (Nat.le_trans (popN_le hm) hpop)
  have I0 := fw_I (st := s.testBit) hm hb hN (by rw [← eM]; exact hl)
  rw [← eO, ← eM] at I0
  have BB : ∀ i, i < M.length → -24000000000 ≤ O (M.getD i 0) ∧ O (M.getD i 0) ≤ 24000000000 := fun i hi => by
    rw [eM] at hi ⊢
    rw [eO]
    exact fwB_bnd hm hb i hi
  refine zX12_seekFewest (sX12_layNets (d := d) w wn re h10 hm hco (fun g1 c1 n1 => ?_))
  rw [← eN] at n1
  intro g2 f2
  have c2 : Ch [148] [82] g g2 := by rw [f2]; exact (c1.sub (by decide) (by decide)).up9 (by decide)
  refine sX12_fwMembers eM eO hm hs hpop hb (fun a b ha hb => by rw [f2, up_q (by decide)]; exact n1 a b ha hb) (by rw [c2.2 10 (by decide)]; exact h10) (by rw [f2, up_s]) (fun g3 o6 c3 h3 h82 => ?_)
  refine sX12_fwTables (d := d + 1) (P := 2 ^ M.length) (bal := fun i => O (M.getD i 0)) hl rfl h82 (fun i hi => (h3 i hi).2) BB (fun g4 o5 o6 c4 h156 hG4 h83 => ?_)
  have same : ∀ j, j < 2 ^ M.length → g4 154 j = G j := fun j hj => GT_uniq hG4 hG j hj
  refine sX12_fwGroups (d := d) (P := 2 ^ M.length) (bal := fun i => O (M.getD i 0)) hl rfl (by rw [c4.2 82 (by decide)]; exact h82) (fun i hi => by rw [c4.1 151 (by decide) (by decide)]; exact (h3 i hi).1) (fun i hi => by rw [c4.1 155 (by decide) (by decide)]; exact (h3 i hi).2) h156 same BB hG h83 I0 (fun g' c' h' => k g' ?_ h')
  exact (c2.sub (by decide) (by decide)).tr ((c3.sub (by decide) (by decide)).tr ((c4.sub (by decide) (by decide)).tr (c'.sub (by decide) (by decide))))
