/-! the calls fell, expect -/
theorem C_fell {T : Nat × (Nat → Int32)} {d : Nat} {X X' : mz_X} {g : mz_S} {b : Int} (w : IB g) (hb : R32 b) : zC T (d + 4) 383 [mx_R 0, mx_I b, mx_R 179] g (fun kk g1 => zC T (d + 4) 317 [mx_R 99, mx_I b] g1 (fun r g2 => AnsI kk r g2 ∧ Qy [179] [0] g g2) X') X := by
  have hw := w.1.1
  have wb' := w.1
  refine wL_fell (zX11_fell (sX11_isBroker (by omega) (by omega) ⟨by decide, by decide, sX11_needFound (fun h1 => ?_) (fun h1 => ⟨rfl, ?_⟩)⟩))
  · refine s_in (by omega) (fun ea => ?_)
    rw [ea]
    have c1 : Ch [179] [0] g (mx_up g 179 0 (w32 (g 13 b.toNat))) := (Ch.rf g).up (by decide) (by decide)
    have c2 : Ch [179] [0] g (mx_up (mx_up g 179 0 (w32 (g 13 b.toNat))) 99 0 0) := c1.up9 (by decide)
    refine zX12_fell ?_
    rintro _ rfl
    have h' : ReB g (mx_up (mx_up g 179 0 (w32 (g 13 b.toNat))) 99 0 0) := w.2.1.fr c2 (by decide) (by decide)
    refine sX12_isBrokerC h' wb' (by omega) ?_
    first | with_reducible refine b_eq (fun z1 => ?_) (fun z1 => ?_) | with_reducible refine b_ne (fun z1 => ?_) (fun z1 => ?_)
    · exact absurd h1 z1
    · refine s_in (by omega) (fun eb => ?_)
      rw [eb, (h'.2.1 b.toNat (by omega)).2.2.2 (by omega)]
      refine zX12_fell_27 ?_
      exact ⟨⟨by omega, up_s, fun _ => by rw [up_q (by decide), up_s]⟩, c2, fun z => z.fr c2 (by decide)⟩
  · refine zX12_fell ?_
    rintro _ rfl
    have h' : ReB g (mx_up g 99 0 0) := w.2.1.fr (ch_0 g 0) (by decide) (by decide)
    refine sX12_isBrokerC h' wb' (by omega) ?_
    first | with_reducible refine b_eq (fun z1 => ?_) (fun z1 => ?_) | with_reducible refine b_ne (fun z1 => ?_) (fun z1 => ?_)
    · exact sX12_fails (zX12_fell_27 (qy_bad (Ch.rf g) (fun z => z) (by decide) 1 (by omega)))
    · exact absurd z1 h1
def ReX (c r : mz_S) : Prop := r 99 84 = c 72 4 ∧ ∀ k, k < 80 → r 158 k = c 73 k ∧ r 159 k = c 74 k ∧ r 160 k = c 75 k ∧ r 161 k = c 76 k ∧ r 162 k = c 77 k
def WfX (c : mz_S) : Prop := (0 ≤ c 72 4 ∧ c 72 4 ≤ 80) ∧ ∀ k, k < 80 → (0 ≤ c 73 k ∧ c 73 k < 12) ∧ (0 ≤ c 74 k ∧ c 74 k < 4) ∧ (0 ≤ c 75 k ∧ c 75 k ≤ 999) ∧ (-1000000 ≤ c 76 k ∧ c 76 k ≤ 1000000) ∧ (-1000000 ≤ c 77 k ∧ c 77 k ≤ 1000000)
def IX (g : mz_S) : Prop := WfX g ∧ ReX g g
theorem IX.fr {S F : List Nat} {g g' : mz_S} (w : IX g) (h : Ch S F g g') (hS : ∀ q ∈ [72, 73, 74, 75, 76, 77, 158, 159, 160, 161, 162], q ∉ S) (hF : ∀ f ∈ [84], f ∉ F) : IX g' := by
  have e : ∀ q ∈ [72, 73, 74, 75, 76, 77, 158, 159, 160, 161, 162], g' q = g q := fun q hq => h.1 q (hS q hq) (by intro z; subst z; revert hq; decide)
  unfold IX WfX ReX at w ⊢
  rw [e 72 (by decide), e 73 (by decide), e 74 (by decide), e 75 (by decide), e 76 (by decide), e 77 (by decide), e 158 (by decide), e 159 (by decide), e 160 (by decide), e 161 (by decide), e 162 (by decide), h.2 84 (hF 84 (by decide))]
  exact w
theorem ReX.fr {S F : List Nat} {c r r' : mz_S} (w : ReX c r) (h : Ch S F r r') (hS : ∀ q ∈ [158, 159, 160, 161, 162], q ∉ S) (hF : ∀ f ∈ [84], f ∉ F) : ReX c r' := by
  have e : ∀ q ∈ [158, 159, 160, 161, 162], r' q = r q := fun q hq => h.1 q (hS q hq) (by intro z; subst z; revert hq; decide)
  unfold ReX at w ⊢
  rw [e 158 (by decide), e 159 (by decide), e 160 (by decide), e 161 (by decide), e 162 (by decide), h.2 84 (hF 84 (by decide))]
  exact w
def expS (g : mz_S) (b co dy lo hi : Int) : mz_S := mx_up (mx_up (mx_up (mx_up (mx_up (mx_up g 73 (g 72 4).toNat b) 74 (g 72 4).toNat co) 75 (g 72 4).toNat dy) 76 (g 72 4).toNat lo) 77 (g 72 4).toNat hi) 72 4 (g 72 4 + 1)
theorem sX2_addExpected {T : Nat × (Nat → Int32)} {d : Nat} {Q : mz_K} {X : mz_X} {g : mz_S} {b co dy lo hi : Int} (hm : 0 ≤ g 72 4 ∧ g 72 4 ≤ 80) (k1 : g 72 4 = 80 → Q (-1) g) (k2 : g 72 4 < 80 → Q (g 72 4) (expS g b co dy lo hi)) : zC T (d + 1) 24 [mx_R 72, mx_I b, mx_I co, mx_I dy, mx_I lo, mx_I hi] g Q X := by
  refine zX2_addExpected ?_
  first | with_reducible refine c_lt ?_ ?_ (fun h => ?_) (fun h => ?_) | with_reducible refine c_le ?_ ?_ (fun h => ?_) (fun h => ?_) | with_reducible refine c_eq ?_ ?_ (fun h => ?_) (fun h => ?_) | with_reducible refine c_ne ?_ ?_ (fun h => ?_) (fun h => ?_)
  · omega
  · omega
  · have e : mx_at (g 72 4) = (g 72 4).toNat := zat (by omega) (by omega)
    have i : mx_in (g 72 4) 80 := zin (by omega) (by omega) (by omega)
    refine ⟨i, ?_⟩
    intro g1 e1
    have f1 : g1 72 4 = g 72 4 := by rw [e1, up_q (by decide)]
    rw [f1]
    refine ⟨i, ?_⟩
    intro g2 e2
    have f2 : g2 72 4 = g 72 4 := by rw [e2, up_q (by decide), f1]
    rw [f2]
    refine ⟨i, ?_⟩
    intro g3 e3
    have f3 : g3 72 4 = g 72 4 := by rw [e3, up_q (by decide), f2]
    rw [f3]
    refine ⟨i, ?_⟩
    intro g4 e4
    have f4 : g4 72 4 = g 72 4 := by rw [e4, up_q (by decide), f3]
    rw [f4]
    refine ⟨i, ?_⟩
    intro g5 e5
    have f5 : g5 72 4 = g 72 4 := by rw [e5, up_q (by decide), f4]
    rw [f5]
    intro g6 e6
    have f6 : g6 72 4 = g 72 4 + 1 := by rw [e6, up_s]
    have k := k2 h
    have f7 : g6 = expS g b co dy lo hi := by rw [e6, e5, e4, e3, e2, e1, e]; rfl
    rw [f6, show g 72 4 + 1 - 1 = g 72 4 by omega, f7]
    exact k
  · exact k1 (by omega)
theorem sX11_expect {T : Nat × (Nat → Int32)} {d : Nat} {Q : mz_K} {X : mz_X} {g : mz_S} {b co dy lo hi : Int} (wl : WfL0 g) (wb : WfB g) (wx : WfX g) (hb : R32 b) (hc : R32 co) (hd : R32 dy) (hl : R32 lo) (hh : R32 hi) (k1 : ¬ (0 ≤ b ∧ b ≤ g 9 1 - 1) → X 0 g) (k2 : 0 ≤ b ∧ b ≤ g 9 1 - 1 → ¬ ((0 ≤ co ∧ co ≤ 3) ∧ (0 ≤ dy ∧ dy ≤ 999) ∧ g 1 0 ≤ dy ∧ lo ≤ hi ∧ -1000000 ≤ lo ∧ hi ≤ 1000000) → X 1 g) (k3 : 0 ≤ b ∧ b ≤ g 9 1 - 1 → ((0 ≤ co ∧ co ≤ 3) ∧ (0 ≤ dy ∧ dy ≤ 999) ∧ g 1 0 ≤ dy ∧ lo ≤ hi ∧ -1000000 ≤ lo ∧ hi ≤ 1000000) → g 72 4 = 80 → Q (-1) g) (k4 : 0 ≤ b ∧ b ≤ g 9 1 - 1 → ((0 ≤ co ∧ co ≤ 3) ∧ (0 ≤ dy ∧ dy ≤ 999) ∧ g 1 0 ≤ dy ∧ lo ≤ hi ∧ -1000000 ≤ lo ∧ hi ≤ 1000000) → g 72 4 < 80 → Q (g 72 4) (expS g b co dy lo hi)) : zC T (d + 3) 192 [mx_R 0, mx_I b, mx_I co, mx_I dy, mx_I lo, mx_I hi] g Q X := by
  have hw := wb.1
  have h0 := wl.1
  have hx := wx.1
  refine zX11_expect ?_
  repeat' first
    | with_reducible refine zX11_expect_60 ?_
    | with_reducible refine zX11_expect_61 ?_
    | with_reducible refine sX2_addExpected (by omega) (fun _ => ?_) (fun _ => ?_)
    | with_reducible refine sX11_needFound (fun _ => ?_) (fun _ => ?_)
    | with_reducible refine sX11_needArgument (fun _ => ?_) (fun _ => ?_)
    | with_reducible refine sX11_needState (fun _ => ?_) (fun _ => ?_)
    | with_reducible refine sX11_needPlace (fun _ => ?_) (fun _ => ?_)
    | with_reducible refine nF_t ?_
    | with_reducible refine nF_f ?_
    | with_reducible refine nA_t ?_
    | with_reducible refine nA_f ?_
    | with_reducible refine nS_t ?_
    | with_reducible refine nS_f ?_
    | with_reducible refine nP_t ?_
    | with_reducible refine nP_f ?_
    | with_reducible refine sX11_isTown (by omega) (by omega) ?_
    | with_reducible refine sX11_isBroker (by omega) (by omega) ?_
    | with_reducible refine sX11_isWord (by omega) (by omega) ?_
    | with_reducible refine sX11_isCoin (by omega) ?_
    | with_reducible refine sX11_isDay (by omega) ?_
    | with_reducible refine sX11_isTray (by omega) ?_
    | with_reducible refine sX12_isTray (by omega) ?_
    | with_reducible refine sX11_within (by omega) (by omega) (by omega) ?_
    | with_reducible refine sX12_isTownC (by assumption) (by assumption) (by omega) ?_
    | with_reducible refine sX12_isBrokerC (by assumption) (by assumption) (by omega) ?_
    | with_reducible refine sX12_isCoin (by omega) ?_
    | with_reducible refine sX12_isDay (by omega) ?_
    | with_reducible refine sX12_withinW (by omega) (by omega) (by omega) ?_
    | with_reducible refine sX12_fails ?_
    | with_reducible refine b_eq (fun _ => ?_) (fun _ => ?_)
    | with_reducible refine b_ne (fun _ => ?_) (fun _ => ?_)
    | with_reducible refine c_lt (by omega) (by omega) (fun _ => ?_) (fun _ => ?_)
    | with_reducible refine c_le (by omega) (by omega) (fun _ => ?_) (fun _ => ?_)
    | with_reducible refine c_eq (by omega) (by omega) (fun _ => ?_) (fun _ => ?_)
    | with_reducible refine c_ne (by omega) (by omega) (fun _ => ?_) (fun _ => ?_)
    | with_reducible refine l_gt (by omega) (by omega) (fun _ => ?_) (fun _ => ?_)
    | with_reducible refine l_lt (by omega) (by omega) (fun _ => ?_) (fun _ => ?_)
    | with_reducible refine l_ge (by omega) (by omega) (fun _ => ?_) (fun _ => ?_)
    | with_reducible refine l_le (by omega) (by omega) (fun _ => ?_) (fun _ => ?_)
    | with_reducible refine l_eq (by omega) (by omega) (fun _ => ?_) (fun _ => ?_)
    | with_reducible refine l_ne (by omega) (by omega) (fun _ => ?_) (fun _ => ?_)
    | refine ⟨by decide, by decide, ?_⟩
    | fail
  any_goals first | exact k1 (by omega) | exact k2 (by omega) (by omega) | exact k3 (by omega) (by omega) (by omega) | exact k4 (by omega) (by omega) (by omega)
theorem sX12_expect {T : Nat × (Nat → Int32)} {d : Nat} {Q : mz_K} {X : mz_X} {g : mz_S} {c : mz_S} {b co dy lo hi : Int} (wl : WfL0 c) (wb : WfB c) (wx : WfX c) (hL : ReL c g) (hB : ReB c g) (hX : ReX c g) (hb : R32 b) (hc : R32 co) (hd : R32 dy) (hl : R32 lo) (hh : R32 hi) (k1 : ¬ (0 ≤ b ∧ b ≤ c 9 1 - 1) → Q 0 (mx_up (mx_up g 99 0 0) 99 0 1)) (k2 : 0 ≤ b ∧ b ≤ c 9 1 - 1 → ¬ ((0 ≤ co ∧ co ≤ 3) ∧ (0 ≤ dy ∧ dy ≤ 999) ∧ c 1 0 ≤ dy ∧ lo ≤ hi ∧ -1000000 ≤ lo ∧ hi ≤ 1000000) → Q 0 (mx_up (mx_up g 99 0 0) 99 0 2)) (k3 : 0 ≤ b ∧ b ≤ c 9 1 - 1 → ((0 ≤ co ∧ co ≤ 3) ∧ (0 ≤ dy ∧ dy ≤ 999) ∧ c 1 0 ≤ dy ∧ lo ≤ hi ∧ -1000000 ≤ lo ∧ hi ≤ 1000000) → c 72 4 = 80 → Q (-1) (mx_up g 99 0 0)) (k4 : 0 ≤ b ∧ b ≤ c 9 1 - 1 → ((0 ≤ co ∧ co ≤ 3) ∧ (0 ≤ dy ∧ dy ≤ 999) ∧ c 1 0 ≤ dy ∧ lo ≤ hi ∧ -1000000 ≤ lo ∧ hi ≤ 1000000) → c 72 4 < 80 → Q (c 72 4) (mx_up (mx_up (mx_up (mx_up (mx_up (mx_up (mx_up g 99 0 0) 158 (c 72 4).toNat b) 159 (c 72 4).toNat co) 160 (c 72 4).toNat dy) 161 (c 72 4).toNat lo) 162 (c 72 4).toNat hi) 99 84 (c 72 4 + 1))) : zC T (d + 3) 303 [mx_R 99, mx_I b, mx_I co, mx_I dy, mx_I lo, mx_I hi] g Q X := by
  have hw := wb.1
  have h0 := wl.1
  have hx := wx.1
  refine zX12_expect ?_
  intro g1 e1
  have h' : ReL c g1 := by rw [e1]; exact hL.fr (ch_0 g 0) (by decide) (by decide)
  have hb' : ReB c g1 := by rw [e1]; exact hB.fr (ch_0 g 0) (by decide) (by decide)
  have hx' : ReX c g1 := by rw [e1]; exact hX.fr (ch_0 g 0) (by decide) (by decide)
  rw [← e1] at k1 k2 k3 k4
  have f1 : g1 99 84 = c 72 4 := hx'.1
  have f0 : g1 99 1 = c 1 0 := h'.1
  have fw : w32 (g1 99 1) = c 1 0 := by rw [f0]; exact w32_of (by omega) (by omega)
  have fl : w32 lo = lo := w32_of hl.1 hl.2
  repeat' first
    | with_reducible refine zX12_expect_72 ?_
    | with_reducible refine sX11_needFound (fun _ => ?_) (fun _ => ?_)
    | with_reducible refine sX11_needArgument (fun _ => ?_) (fun _ => ?_)
    | with_reducible refine sX11_needState (fun _ => ?_) (fun _ => ?_)
    | with_reducible refine sX11_needPlace (fun _ => ?_) (fun _ => ?_)
    | with_reducible refine nF_t ?_
    | with_reducible refine nF_f ?_
    | with_reducible refine nA_t ?_
    | with_reducible refine nA_f ?_
    | with_reducible refine nS_t ?_
    | with_reducible refine nS_f ?_
    | with_reducible refine nP_t ?_
    | with_reducible refine nP_f ?_
    | with_reducible refine sX11_isTown (by omega) (by omega) ?_
    | with_reducible refine sX11_isBroker (by omega) (by omega) ?_
    | with_reducible refine sX11_isWord (by omega) (by omega) ?_
    | with_reducible refine sX11_isCoin (by omega) ?_
    | with_reducible refine sX11_isDay (by omega) ?_
    | with_reducible refine sX11_isTray (by omega) ?_
    | with_reducible refine sX12_isTray (by omega) ?_
    | with_reducible refine sX11_within (by omega) (by omega) (by omega) ?_
    | with_reducible refine sX12_isTownC (by assumption) (by assumption) (by omega) ?_
    | with_reducible refine sX12_isBrokerC (by assumption) (by assumption) (by omega) ?_
    | with_reducible refine sX12_isCoin (by omega) ?_
    | with_reducible refine sX12_isDay (by omega) ?_
    | with_reducible refine sX12_withinW (by omega) (by omega) (by omega) ?_
    | with_reducible refine sX12_fails ?_
    | with_reducible refine b_eq (fun _ => ?_) (fun _ => ?_)
    | with_reducible refine b_ne (fun _ => ?_) (fun _ => ?_)
    | with_reducible refine c_lt (by omega) (by omega) (fun _ => ?_) (fun _ => ?_)
    | with_reducible refine c_le (by omega) (by omega) (fun _ => ?_) (fun _ => ?_)
    | with_reducible refine c_eq (by omega) (by omega) (fun _ => ?_) (fun _ => ?_)
    | with_reducible refine c_ne (by omega) (by omega) (fun _ => ?_) (fun _ => ?_)
    | with_reducible refine l_gt (by omega) (by omega) (fun _ => ?_) (fun _ => ?_)
    | with_reducible refine l_lt (by omega) (by omega) (fun _ => ?_) (fun _ => ?_)
    | with_reducible refine l_ge (by omega) (by omega) (fun _ => ?_) (fun _ => ?_)
    | with_reducible refine l_le (by omega) (by omega) (fun _ => ?_) (fun _ => ?_)
    | with_reducible refine l_eq (by omega) (by omega) (fun _ => ?_) (fun _ => ?_)
    | with_reducible refine l_ne (by omega) (by omega) (fun _ => ?_) (fun _ => ?_)
    | refine ⟨by decide, by decide, ?_⟩
    | fail
  any_goals first | exact k1 (by omega) | exact k2 (by omega) (by omega) | exact k3 (by omega) (by omega) (by omega)
  have e : mx_at (c 72 4) = (c 72 4).toNat := zat (by omega) (by omega)
  rw [f1]
  have i : mx_in (c 72 4) 80 := zin (by omega) (by omega) (by omega)
  refine ⟨i, ?_⟩
  intro g5 e5
  have f5 : g5 99 84 = c 72 4 := by rw [e5, up_q (by decide), f1]
  rw [f5]
  refine ⟨i, ?_⟩
  intro g6 e6
  have f6 : g6 99 84 = c 72 4 := by rw [e6, up_q (by decide), f5]
  rw [f6]
  refine ⟨i, ?_⟩
  intro g7 e7
  have f7 : g7 99 84 = c 72 4 := by rw [e7, up_q (by decide), f6]
  rw [f7]
  refine ⟨i, ?_⟩
  intro g8 e8
  have f8 : g8 99 84 = c 72 4 := by rw [e8, up_q (by decide), f7]
  rw [f8]
  refine ⟨i, ?_⟩
  intro g9 e9
  have f9 : g9 99 84 = c 72 4 := by rw [e9, up_q (by decide), f8]
  rw [f9]
  intro g10 e10
  have f10 : g10 99 84 = c 72 4 + 1 := by rw [e10, up_s]
  have k := k4 (by omega) (by omega) (by omega)
  rw [← e, ← e5, ← e6, ← e7, ← e8, ← e9, ← e10] at k
  rw [f10, show c 72 4 + 1 - 1 = c 72 4 by omega]
  exact k
theorem IX.expect {g g2 : mz_S} {b co dy lo hi : Int} (w : IX g) (hm : g 72 4 < 80) (hb : 0 ≤ b ∧ b < 12) (hc : 0 ≤ co ∧ co ≤ 3) (hd : 0 ≤ dy ∧ dy ≤ 999) (hl : -1000000 ≤ lo ∧ lo ≤ 1000000) (hh : -1000000 ≤ hi ∧ hi ≤ 1000000) (e72 : g2 72 4 = g 72 4 + 1) (e99 : g2 99 84 = g 72 4 + 1) (e73 : g2 73 = lset (g 73) (g 72 4).toNat b) (e74 : g2 74 = lset (g 74) (g 72 4).toNat co) (e75 : g2 75 = lset (g 75) (g 72 4).toNat dy) (e76 : g2 76 = lset (g 76) (g 72 4).toNat lo) (e77 : g2 77 = lset (g 77) (g 72 4).toNat hi) (e158 : g2 158 = lset (g 158) (g 72 4).toNat b) (e159 : g2 159 = lset (g 159) (g 72 4).toNat co) (e160 : g2 160 = lset (g 160) (g 72 4).toNat dy) (e161 : g2 161 = lset (g 161) (g 72 4).toNat lo) (e162 : g2 162 = lset (g 162) (g 72 4).toNat hi) : IX g2 := by
  unfold IX WfX ReX at w ⊢
  rw [e72, e99, e73, e74, e75, e76, e77, e158, e159, e160, e161, e162]
  obtain ⟨⟨a, b⟩, c, d⟩ := w
  refine ⟨⟨by omega, fun k hk => ?_⟩, rfl, fun k hk => ?_⟩
  · have := b k hk
    unfold lset
    split <;> omega
  · have := d k hk
    unfold lset
    split
    · exact ⟨rfl, rfl, rfl, rfl, rfl⟩
    · exact this
theorem C_expect {T : Nat × (Nat → Int32)} {d : Nat} {X X' : mz_X} {g : mz_S} {b co dy lo hi : Int} (wl : IL g) (wb : IB g) (wx : IX g) (hb : R32 b) (hc : R32 co) (hd : R32 dy) (hl : R32 lo) (hh : R32 hi) : zC T (d + 4) 379 [mx_R 0, mx_I b, mx_I co, mx_I dy, mx_I lo, mx_I hi, mx_R 179] g (fun kk g1 => zC T (d + 4) 303 [mx_R 99, mx_I b, mx_I co, mx_I dy, mx_I lo, mx_I hi] g1 (fun r g2 => AnsI kk r g2 ∧ IX g2 ∧ Qy [72, 73, 74, 75, 76, 77, 158, 159, 160, 161, 162, 179] [0, 84] g g2) X') X := by
  have hw := wb.1.1
  have hx := wx.1.1
  have bad : ∀ n : Int, 1 ≤ n ∧ n ≤ 3 → AnsI n 0 (mx_up (mx_up g 99 0 0) 99 0 n) ∧ IX (mx_up (mx_up g 99 0 0) 99 0 n) ∧ Qy [72, 73, 74, 75, 76, 77, 158, 159, 160, 161, 162, 179] [0, 84] g (mx_up (mx_up g 99 0 0) 99 0 n) := fun n hn =>
    ⟨⟨by omega, up_s, fun z => by omega⟩, wx.fr (ch_bad g n) (by decide) (by decide), (ch_bad g n).sub (by decide) (by decide), fun z => z.fr (ch_bad g n) (by decide)⟩
  refine wL_expect (sX11_expect wl.1 wb.1 wx.1 hb hc hd hl hh (fun h1 => Or.inl ⟨rfl, ?_⟩) (fun h1 h2 => Or.inr ⟨rfl, ?_⟩) (fun h1 h2 h3 => ?_) (fun h1 h2 h3 => ?_))
  · exact sX12_expect wl.1 wb.1 wx.1 wl.2.2.1 wb.2.1 wx.2 hb hc hd hl hh (fun _ => bad 1 (by omega)) (fun z => absurd z h1) (fun z => absurd z h1) (fun z => absurd z h1)
  · exact sX12_expect wl.1 wb.1 wx.1 wl.2.2.1 wb.2.1 wx.2 hb hc hd hl hh (fun z => absurd h1 z) (fun _ _ => bad 2 (by omega)) (fun _ z => absurd z h2) (fun _ z => absurd z h2)
  · have c1 : Ch [179] [0] g (mx_up g 179 0 (w32 (-1))) := (Ch.rf g).up (by decide) (by decide)
    refine sX12_expect wl.1 wb.1 wx.1 (wl.2.2.1.fr c1 (by decide) (by decide)) (wb.2.1.fr c1 (by decide) (by decide)) (wx.2.fr c1 (by decide) (by decide)) hb hc hd hl hh (fun z => absurd h1 z) (fun _ z => absurd h2 z) (fun _ _ _ => ?_) (fun _ _ z => by omega)
    have c2 : Ch [179] [0] g (mx_up (mx_up g 179 0 (w32 (-1))) 99 0 0) := c1.up9 (by decide)
    exact ⟨⟨by omega, up_s, fun _ => by rw [up_q (by decide), up_s]⟩, wx.fr c2 (by decide) (by decide), c2.sub (by decide) (by decide), fun z => z.fr c2 (by decide)⟩
  · obtain ⟨g1, eg1⟩ : ∃ g1, g1 = mx_up (expS g b co dy lo hi) 179 0 (w32 (g 72 4)) := ⟨_, rfl⟩
    rw [← eg1]
    have c1 : Ch [72, 73, 74, 75, 76, 77, 179] [] g g1 := by
      rw [eg1]
      unfold expS
      repeat' first | exact Ch.rf g | refine Ch.up ?_ (by decide) (by decide)
    refine sX12_expect (c := g) wl.1 wb.1 wx.1 (wl.2.2.1.fr c1 (by decide) (by decide)) (wb.2.1.fr c1 (by decide) (by decide)) (wx.2.fr c1 (by decide) (by decide)) hb hc hd hl hh (fun z => absurd h1 z) (fun _ z => absurd h2 z) (fun _ _ z => by omega) (fun _ _ _ => ?_)
    obtain ⟨g2, eg2⟩ : ∃ g2, g2 = mx_up (mx_up (mx_up (mx_up (mx_up (mx_up (mx_up g1 99 0 0) 158 (g 72 4).toNat b) 159 (g 72 4).toNat co) 160 (g 72 4).toNat dy) 161 (g 72 4).toNat lo) 162 (g 72 4).toNat hi) 99 84 (g 72 4 + 1) := ⟨_, rfl⟩
    rw [← eg2]
    have c2 : Ch [72, 73, 74, 75, 76, 77, 158, 159, 160, 161, 162, 179] [0, 84] g g2 := by
      rw [eg2]
      repeat' first | exact c1.sub (by decide) (by decide) | refine Ch.up9 ?_ (by decide) | refine Ch.up ?_ (by decide) (by decide)
    refine ⟨⟨by omega, by rw [eg2]; simp [up_at, lset], fun _ => by rw [eg2, eg1]; simp [up_at, lset]⟩, wx.expect (b := b) (co := co) (dy := dy) (lo := lo) (hi := hi) h3 (by omega) h2.1 h2.2.1 (by omega) (by omega) ?_ (by rw [eg2]; exact up_s) ?_ ?_ ?_ ?_ ?_ ?_ ?_ ?_ ?_ ?_, c2, fun z => z.fr c2 (by decide)⟩
    all_goals (rw [eg2, eg1]; simp [expS, up_at, lset])
