/-! the call rate; checks over the copy -/
theorem sX12_withinW {T : Nat × (Nat → Int32)} {d : Nat} {Q : mz_K} {X : mz_X} {g : mz_S} {x lo hi : Int} (hx : R32 x) (hl : R64 lo) (hh : R64 hi) (k : Q (pI (lo ≤ x ∧ x ≤ hi)) g) : zC T (d + 1) 210 [mx_J (w32 x), mx_J lo, mx_J hi] g Q X := by
  rw [w32_of hx.1 hx.2]
  exact sX12_within (by omega) hl hh k
theorem sX12_isTownC {T : Nat × (Nat → Int32)} {d : Nat} {Q : mz_K} {X : mz_X} {g : mz_S} {c : mz_S} {x : Int} (h : ReL c g) (w : WfL0 c) (hx : R32 x) (k : Q (pI (0 ≤ x ∧ x ≤ c 1 1 - 1)) g) : zC T (d + 2) 214 [mx_R 99, mx_I x] g Q X := by
  have h1 := w.2.1
  have h2 := h.2.1
  refine sX12_isTown hx (by omega) ?_
  rw [h2]; exact k
theorem sX12_isBrokerC {T : Nat × (Nat → Int32)} {d : Nat} {Q : mz_K} {X : mz_X} {g : mz_S} {c : mz_S} {x : Int} (h : ReB c g) (w : WfB c) (hx : R32 x) (k : Q (pI (0 ≤ x ∧ x ≤ c 9 1 - 1)) g) : zC T (d + 2) 226 [mx_R 99, mx_I x] g Q X := by
  have h1 := w.1
  have h2 := h.1
  refine sX12_isBroker hx (by omega) ?_
  rw [h2]; exact k
theorem ReB.fr {S F : List Nat} {c r r' : mz_S} (w : ReB c r) (h : Ch S F r r') (hS : ∀ q ∈ [106, 107, 108, 109, 110], q ∉ S) (hF : ∀ f ∈ [10], f ∉ F) : ReB c r' := by
  have e : ∀ q ∈ [106, 107, 108, 109, 110], r' q = r q := fun q hq => h.1 q (hS q hq) (by intro z; subst z; revert hq; decide)
  unfold ReB at w ⊢
  rw [e 106 (by decide), e 107 (by decide), e 108 (by decide), e 109 (by decide), e 110 (by decide), h.2 10 (hF 10 (by decide))]
  exact w
theorem ReE.fr {S F : List Nat} {c r r' : mz_S} (w : ReE c r) (h : Ch S F r r') (hS : ∀ q ∈ [111, 112, 113, 114, 115, 116, 117], q ∉ S) (hF : ∀ f ∈ [16], f ∉ F) : ReE c r' := by
  have e : ∀ q ∈ [111, 112, 113, 114, 115, 116, 117], r' q = r q := fun q hq => h.1 q (hS q hq) (by intro z; subst z; revert hq; decide)
  unfold ReE at w ⊢
  rw [e 111 (by decide), e 112 (by decide), e 113 (by decide), e 114 (by decide), e 115 (by decide), e 116 (by decide), e 117 (by decide), h.2 16 (hF 16 (by decide))]
  exact w
def ratS (g : mz_S) (t co v : Int) : mz_S := fillS (mx_up (mx_up (mx_up (mx_up (mx_up g 4 (g 1 4).toNat (g 1 0)) 5 (g 1 4).toNat t) 6 (g 1 4).toNat co) 7 (g 1 4).toNat v) 1 4 (g 1 4 + 1)) 8 32 0
theorem sX5_addRate {T : Nat × (Nat → Int32)} {d : Nat} {Q : mz_K} {X : mz_X} {g : mz_S} {t co v : Int} (hm : 0 ≤ g 1 4 ∧ g 1 4 ≤ 150) (k1 : g 1 4 = 150 → Q (-1) g) (k2 : g 1 4 < 150 → Q (g 1 4) (ratS g t co v)) : zC T (d + 2) 78 [mx_R 1, mx_I t, mx_I co, mx_I v] g Q X := by
  refine zX5_addRate ?_
  first | with_reducible refine c_lt ?_ ?_ (fun h => ?_) (fun h => ?_) | with_reducible refine c_le ?_ ?_ (fun h => ?_) (fun h => ?_) | with_reducible refine c_eq ?_ ?_ (fun h => ?_) (fun h => ?_) | with_reducible refine c_ne ?_ ?_ (fun h => ?_) (fun h => ?_)
  · omega
  · omega
  · have e : mx_at (g 1 4) = (g 1 4).toNat := zat (by omega) (by omega)
    have i : mx_in (g 1 4) 150 := zin (by omega) (by omega) (by omega)
    refine ⟨i, ?_⟩
    intro g1 e1
    have f1 : g1 1 4 = g 1 4 := by rw [e1, up_q (by decide)]
    rw [f1]
    refine ⟨i, ?_⟩
    intro g2 e2
    have f2 : g2 1 4 = g 1 4 := by rw [e2, up_q (by decide), f1]
    rw [f2]
    refine ⟨i, ?_⟩
    intro g3 e3
    have f3 : g3 1 4 = g 1 4 := by rw [e3, up_q (by decide), f2]
    rw [f3]
    refine ⟨i, ?_⟩
    intro g4 e4
    have f4 : g4 1 4 = g 1 4 := by rw [e4, up_q (by decide), f3]
    rw [f4]
    intro g5 e5
    refine sJ7_fill_53178 ?_
    have k := k2 h
    have f5 : fillS g5 8 32 0 1 4 = g 1 4 + 1 := by rw [fillS_at, if_neg (by decide), e5, up_s]
    have f6 : fillS g5 8 32 0 = ratS g t co v := by rw [e5, e4, e3, e2, e1, e]; rfl
    rw [f5, f6, show g 1 4 + 1 - 1 = g 1 4 by omega]
    exact k
  · exact k1 (by omega)
theorem sX11_rate {T : Nat × (Nat → Int32)} {d : Nat} {Q : mz_K} {X : mz_X} {g : mz_S} {t co v : Int} (w : WfL0 g) (ht : R32 t) (hc : R32 co) (hv : R32 v) (k1 : ¬ (0 ≤ t ∧ t ≤ g 1 1 - 1) → X 0 g) (k2 : 0 ≤ t ∧ t ≤ g 1 1 - 1 → ¬ ((1 ≤ co ∧ co ≤ 3) ∧ (1 ≤ v ∧ v ≤ 1000)) → X 1 g) (k3 : 0 ≤ t ∧ t ≤ g 1 1 - 1 → (1 ≤ co ∧ co ≤ 3) ∧ (1 ≤ v ∧ v ≤ 1000) → g 1 4 = 150 → Q (-1) g) (k4 : 0 ≤ t ∧ t ≤ g 1 1 - 1 → (1 ≤ co ∧ co ≤ 3) ∧ (1 ≤ v ∧ v ≤ 1000) → g 1 4 < 150 → Q (g 1 4) (ratS g t co v)) : zC T (d + 3) 164 [mx_R 0, mx_I t, mx_I co, mx_I v] g Q X := by
  have hw := w.2.1
  have hw2 := w.2.2.1
  refine zX11_rate ?_
  repeat' first
    | with_reducible refine zX11_rate_32 ?_
    | with_reducible refine zX11_rate_33 ?_
    | with_reducible refine sX5_addRate (by omega) (fun _ => ?_) (fun _ => ?_)
    | with_reducible refine sX11_needFound (fun _ => ?_) (fun _ => ?_)
    | with_reducible refine sX11_needArgument (fun _ => ?_) (fun _ => ?_)
    | with_reducible refine sX11_needState (fun _ => ?_) (fun _ => ?_)
    | with_reducible refine sX11_needPlace (fun _ => ?_) (fun _ => ?_)
    | with_reducible refine nF_t ?_
    | with_reducible refine nF_f ?_
    | with_reducible refine nA_t ?_
    | with_reducible refine nA_f ?_
    | with_reducible refine nS_t ?_
    | with_reducible refine nS_f ?_
    | with_reducible refine nP_t ?_
    | with_reducible refine nP_f ?_
    | with_reducible refine sX11_isTown (by omega) (by omega) ?_
    | with_reducible refine sX11_isBroker (by omega) (by omega) ?_
    | with_reducible refine sX11_isWord (by omega) (by omega) ?_
    | with_reducible refine sX11_isCoin (by omega) ?_
    | with_reducible refine sX11_isDay (by omega) ?_
    | with_reducible refine sX11_isTray (by omega) ?_
    | with_reducible refine sX12_isTray (by omega) ?_
    | with_reducible refine sX11_within (by omega) (by omega) (by omega) ?_
    | with_reducible refine sX12_isTownC (by assumption) (by assumption) (by omega) ?_
    | with_reducible refine sX12_isBrokerC (by assumption) (by assumption) (by omega) ?_
    | with_reducible refine sX12_isCoin (by omega) ?_
    | with_reducible refine sX12_isDay (by omega) ?_
    | with_reducible refine sX12_withinW (by omega) (by omega) (by omega) ?_
    | with_reducible refine sX12_fails ?_
    | with_reducible refine b_eq (fun _ => ?_) (fun _ => ?_)
    | with_reducible refine b_ne (fun _ => ?_) (fun _ => ?_)
    | with_reducible refine c_lt (by omega) (by omega) (fun _ => ?_) (fun _ => ?_)
    | with_reducible refine c_le (by omega) (by omega) (fun _ => ?_) (fun _ => ?_)
    | with_reducible refine c_eq (by omega) (by omega) (fun _ => ?_) (fun _ => ?_)
    | with_reducible refine c_ne (by omega) (by omega) (fun _ => ?_) (fun _ => ?_)
    | with_reducible refine l_gt (by omega) (by omega) (fun _ => ?_) (fun _ => ?_)
    | with_reducible refine l_lt (by omega) (by omega) (fun _ => ?_) (fun _ => ?_)
    | with_reducible refine l_ge (by omega) (by omega) (fun _ => ?_) (fun _ => ?_)
    | with_reducible refine l_le (by omega) (by omega) (fun _ => ?_) (fun _ => ?_)
    | with_reducible refine l_eq (by omega) (by omega) (fun _ => ?_) (fun _ => ?_)
    | with_reducible refine l_ne (by omega) (by omega) (fun _ => ?_) (fun _ => ?_)
    | refine ⟨by decide, by decide, ?_⟩
    | fail
  any_goals first | exact k1 (by omega) | exact k2 (by omega) (by omega) | exact k3 (by omega) (by omega) (by omega) | exact k4 (by omega) (by omega) (by omega)
theorem sX12_rate {T : Nat × (Nat → Int32)} {d : Nat} {Q : mz_K} {X : mz_X} {g : mz_S} {c : mz_S} {t co v : Int} (w : WfL0 c) (h : ReL c g) (ht : R32 t) (hc : R32 co) (hv : R32 v) (k1 : ¬ (0 ≤ t ∧ t ≤ c 1 1 - 1) → Q 0 (mx_up (mx_up g 99 0 0) 99 0 1)) (k2 : 0 ≤ t ∧ t ≤ c 1 1 - 1 → ¬ ((1 ≤ co ∧ co ≤ 3) ∧ (1 ≤ v ∧ v ≤ 1000)) → Q 0 (mx_up (mx_up g 99 0 0) 99 0 2)) (k3 : 0 ≤ t ∧ t ≤ c 1 1 - 1 → (1 ≤ co ∧ co ≤ 3) ∧ (1 ≤ v ∧ v ≤ 1000) → c 1 4 = 150 → Q (-1) (mx_up g 99 0 0)) (k4 : 0 ≤ t ∧ t ≤ c 1 1 - 1 → (1 ≤ co ∧ co ≤ 3) ∧ (1 ≤ v ∧ v ≤ 1000) → c 1 4 < 150 → Q (c 1 4) (mx_up (mx_up (mx_up (mx_up (mx_up (mx_up g 99 0 0) 102 (c 1 4).toNat t) 103 (c 1 4).toNat co) 104 (c 1 4).toNat v) 105 (c 1 4).toNat (c 1 0)) 99 3 (c 1 4 + 1))) : zC T (d + 3) 221 [mx_R 99, mx_I t, mx_I co, mx_I v] g Q X := by
  have hw := w.2.1
  have hw2 := w.2.2.1
  refine zX12_rate ?_
  intro g1 e1
  have h' : ReL c g1 := by rw [e1]; exact h.fr (ch_0 g 0) (by decide) (by decide)
  have f1 : g1 99 3 = c 1 4 := h'.2.2.1
  have f0 : g1 99 1 = c 1 0 := h'.1
  rw [← e1] at k1 k2 k3 k4
  have main : 0 ≤ t ∧ t ≤ c 1 1 - 1 → (1 ≤ co ∧ co ≤ 3) ∧ (1 ≤ v ∧ v ≤ 1000) → (¬ w32 (g1 99 3) = w32 150 → mx_in (g1 99 3) 150 ∧ (∀ g5 : mz_S, g5 = mx_up g1 102 (mx_at (g1 99 3)) t → mx_in (g5 99 3) 150 ∧ (∀ g6 : mz_S, g6 = mx_up g5 103 (mx_at (g5 99 3)) co → mx_in (g6 99 3) 150 ∧ (∀ g7 : mz_S, g7 = mx_up g6 104 (mx_at (g6 99 3)) v → mx_in (g7 99 3) 150 ∧ (∀ g8 : mz_S, g8 = mx_up g7 105 (mx_at (g7 99 3)) (g7 99 1) → (∀ g9 : mz_S, g9 = mx_up g8 99 3 ((g8 99 3) + 1) → Q ((g9 99 3) - 1) g9)))))) ∧ (¬ (¬ w32 (g1 99 3) = w32 150) → Q (-1) g1) := by
    intro z1 z2
    rw [f1]
    first | with_reducible refine c_lt ?_ ?_ (fun z3 => ?_) (fun z3 => ?_) | with_reducible refine c_le ?_ ?_ (fun z3 => ?_) (fun z3 => ?_) | with_reducible refine c_eq ?_ ?_ (fun z3 => ?_) (fun z3 => ?_) | with_reducible refine c_ne ?_ ?_ (fun z3 => ?_) (fun z3 => ?_)
    · omega
    · omega
    · have e : mx_at (c 1 4) = (c 1 4).toNat := zat (by omega) (by omega)
      have i : mx_in (c 1 4) 150 := zin (by omega) (by omega) (by omega)
      refine ⟨i, ?_⟩
      intro g5 e5
      have f5 : g5 99 3 = c 1 4 := by rw [e5, up_q (by decide), f1]
      rw [f5]
      refine ⟨i, ?_⟩
      intro g6 e6
      have f6 : g6 99 3 = c 1 4 := by rw [e6, up_q (by decide), f5]
      rw [f6]
      refine ⟨i, ?_⟩
      intro g7 e7
      have f7 : g7 99 3 = c 1 4 := by rw [e7, up_q (by decide), f6]
      have f70 : g7 99 1 = c 1 0 := by rw [e7, up_q (by decide), e6, up_q (by decide), e5, up_q (by decide), f0]
      rw [f7, f70]
      refine ⟨i, ?_⟩
      intro g8 e8
      have f8 : g8 99 3 = c 1 4 := by rw [e8, up_q (by decide), f7]
      rw [f8]
      intro g9 e9
      have f9 : g9 99 3 = c 1 4 + 1 := by rw [e9, up_s]
      have k := k4 z1 z2 (by omega)
      rw [← e, ← e5, ← e6, ← e7, ← e8, ← e9] at k
      rw [f9, show c 1 4 + 1 - 1 = c 1 4 by omega]
      exact k
    · exact k3 z1 z2 (by omega)
  repeat' first
    | with_reducible refine zX12_rate_43 ?_
    | with_reducible refine main (by omega) (by omega)
    | with_reducible refine sX11_needFound (fun _ => ?_) (fun _ => ?_)
    | with_reducible refine sX11_needArgument (fun _ => ?_) (fun _ => ?_)
    | with_reducible refine sX11_needState (fun _ => ?_) (fun _ => ?_)
    | with_reducible refine sX11_needPlace (fun _ => ?_) (fun _ => ?_)
    | with_reducible refine nF_t ?_
    | with_reducible refine nF_f ?_
    | with_reducible refine nA_t ?_
    | with_reducible refine nA_f ?_
    | with_reducible refine nS_t ?_
    | with_reducible refine nS_f ?_
    | with_reducible refine nP_t ?_
    | with_reducible refine nP_f ?_
    | with_reducible refine sX11_isTown (by omega) (by omega) ?_
    | with_reducible refine sX11_isBroker (by omega) (by omega) ?_
    | with_reducible refine sX11_isWord (by omega) (by omega) ?_
    | with_reducible refine sX11_isCoin (by omega) ?_
    | with_reducible refine sX11_isDay (by omega) ?_
    | with_reducible refine sX11_isTray (by omega) ?_
    | with_reducible refine sX12_isTray (by omega) ?_
    | with_reducible refine sX11_within (by omega) (by omega) (by omega) ?_
    | with_reducible refine sX12_isTownC (by assumption) (by assumption) (by omega) ?_
    | with_reducible refine sX12_isBrokerC (by assumption) (by assumption) (by omega) ?_
    | with_reducible refine sX12_isCoin (by omega) ?_
    | with_reducible refine sX12_isDay (by omega) ?_
    | with_reducible refine sX12_withinW (by omega) (by omega) (by omega) ?_
    | with_reducible refine sX12_fails ?_
    | with_reducible refine b_eq (fun _ => ?_) (fun _ => ?_)
    | with_reducible refine b_ne (fun _ => ?_) (fun _ => ?_)
    | with_reducible refine c_lt (by omega) (by omega) (fun _ => ?_) (fun _ => ?_)
    | with_reducible refine c_le (by omega) (by omega) (fun _ => ?_) (fun _ => ?_)
    | with_reducible refine c_eq (by omega) (by omega) (fun _ => ?_) (fun _ => ?_)
    | with_reducible refine c_ne (by omega) (by omega) (fun _ => ?_) (fun _ => ?_)
    | with_reducible refine l_gt (by omega) (by omega) (fun _ => ?_) (fun _ => ?_)
    | with_reducible refine l_lt (by omega) (by omega) (fun _ => ?_) (fun _ => ?_)
    | with_reducible refine l_ge (by omega) (by omega) (fun _ => ?_) (fun _ => ?_)
    | with_reducible refine l_le (by omega) (by omega) (fun _ => ?_) (fun _ => ?_)
    | with_reducible refine l_eq (by omega) (by omega) (fun _ => ?_) (fun _ => ?_)
    | with_reducible refine l_ne (by omega) (by omega) (fun _ => ?_) (fun _ => ?_)
    | refine ⟨by decide, by decide, ?_⟩
    | fail
  any_goals first | exact k1 (by omega) | exact k2 (by omega) (by omega) | exact main (by omega) (by omega)
