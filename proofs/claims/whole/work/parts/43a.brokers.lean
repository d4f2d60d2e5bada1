/-! the calls broker, put, drawer -/
def IB (g : mz_S) : Prop := WfB g ∧ ReB g g ∧ (∀ i : Nat, i < 12 → g 9 1 ≤ i → g 13 i = -1)
theorem IB.fr {S F : List Nat} {g g' : mz_S} (w : IB g) (h : Ch S F g g') (hS : ∀ q ∈ [1, 9, 10, 11, 12, 13, 14, 106, 107, 108, 109, 110], q ∉ S) (hF : ∀ f ∈ [10], f ∉ F) : IB g' := by
  have e : ∀ q ∈ [1, 9, 10, 11, 12, 13, 14, 106, 107, 108, 109, 110], g' q = g q := fun q hq => h.1 q (hS q hq) (by intro z; subst z; revert hq; decide)
  unfold IB WfB ReB at w ⊢
  rw [e 1 (by decide), e 9 (by decide), e 10 (by decide), e 11 (by decide), e 12 (by decide), e 13 (by decide), e 14 (by decide), e 106 (by decide), e 107 (by decide), e 108 (by decide), e 109 (by decide), e 110 (by decide), h.2 10 (hF 10 (by decide))]
  exact w
/-- the same, where only the day went on -/
theorem IB.go {S F : List Nat} {g g' : mz_S} (w : IB g) (h : Ch S F g g') (hS : ∀ q ∈ [9, 10, 11, 12, 13, 14, 106, 107, 108, 109, 110], q ∉ S) (hF : ∀ f ∈ [10], f ∉ F) (hn : g 1 0 ≤ g' 1 0) : IB g' := by
  have e : ∀ q ∈ [9, 10, 11, 12, 13, 14, 106, 107, 108, 109, 110], g' q = g q := fun q hq => h.1 q (hS q hq) (by intro z; subst z; revert hq; decide)
  unfold IB WfB ReB at w ⊢
  rw [e 9 (by decide), e 10 (by decide), e 11 (by decide), e 12 (by decide), e 13 (by decide), e 14 (by decide), e 106 (by decide), e 107 (by decide), e 108 (by decide), e 109 (by decide), e 110 (by decide), h.2 10 (hF 10 (by decide))]
  obtain ⟨⟨a, b, c⟩, r, s⟩ := w
  exact ⟨⟨a, fun i hi => by have := b i hi; omega, c⟩, r, s⟩
theorem sX11_drawer {T : Nat × (Nat → Int32)} {d : Nat} {Q : mz_K} {X : mz_X} {g : mz_S} {b co : Int} (w : WfB g) (hb : R32 b) (hc : R32 co) (k1 : ¬ (0 ≤ b ∧ b ≤ g 9 1 - 1) → X 0 g) (k2 : 0 ≤ b ∧ b ≤ g 9 1 - 1 → ¬ (0 ≤ co ∧ co ≤ 3) → X 1 g) (k3 : 0 ≤ b ∧ b ≤ g 9 1 - 1 → 0 ≤ co ∧ co ≤ 3 → Q (g 14 (b * 4 + co).toNat) g) : zC T (d + 3) 168 [mx_R 0, mx_I b, mx_I co] g Q X := by
  have hw := w.1
  refine zX11_drawer ?_
  repeat' first
    | with_reducible refine sX0_has (by omega) (by omega) ?_
    | with_reducible refine sX11_needFound (fun _ => ?_) (fun _ => ?_)
    | with_reducible refine sX11_needArgument (fun _ => ?_) (fun _ => ?_)
    | with_reducible refine sX11_needState (fun _ => ?_) (fun _ => ?_)
    | with_reducible refine sX11_needPlace (fun _ => ?_) (fun _ => ?_)
    | with_reducible refine nF_t ?_
    | with_reducible refine nF_f ?_
    | with_reducible refine nA_t ?_
    | with_reducible refine nA_f ?_
    | with_reducible refine nS_t ?_
    | with_reducible refine nS_f ?_
    | with_reducible refine nP_t ?_
    | with_reducible refine nP_f ?_
    | with_reducible refine sX11_isTown (by omega) (by omega) ?_
    | with_reducible refine sX11_isBroker (by omega) (by omega) ?_
    | with_reducible refine sX11_isWord (by omega) (by omega) ?_
    | with_reducible refine sX11_isCoin (by omega) ?_
    | with_reducible refine sX11_isDay (by omega) ?_
    | with_reducible refine sX11_isTray (by omega) ?_
    | with_reducible refine sX12_isTray (by omega) ?_
    | with_reducible refine sX11_within (by omega) (by omega) (by omega) ?_
    | with_reducible refine sX12_isTownC (by assumption) (by assumption) (by omega) ?_
    | with_reducible refine sX12_isBrokerC (by assumption) (by assumption) (by omega) ?_
    | with_reducible refine sX12_isCoin (by omega) ?_
    | with_reducible refine sX12_isDay (by omega) ?_
    | with_reducible refine sX12_withinW (by omega) (by omega) (by omega) ?_
    | with_reducible refine sX12_fails ?_
    | with_reducible refine b_eq (fun _ => ?_) (fun _ => ?_)
    | with_reducible refine b_ne (fun _ => ?_) (fun _ => ?_)
    | with_reducible refine c_lt (by omega) (by omega) (fun _ => ?_) (fun _ => ?_)
    | with_reducible refine c_le (by omega) (by omega) (fun _ => ?_) (fun _ => ?_)
    | with_reducible refine c_eq (by omega) (by omega) (fun _ => ?_) (fun _ => ?_)
    | with_reducible refine c_ne (by omega) (by omega) (fun _ => ?_) (fun _ => ?_)
    | with_reducible refine l_gt (by omega) (by omega) (fun _ => ?_) (fun _ => ?_)
    | with_reducible refine l_lt (by omega) (by omega) (fun _ => ?_) (fun _ => ?_)
    | with_reducible refine l_ge (by omega) (by omega) (fun _ => ?_) (fun _ => ?_)
    | with_reducible refine l_le (by omega) (by omega) (fun _ => ?_) (fun _ => ?_)
    | with_reducible refine l_eq (by omega) (by omega) (fun _ => ?_) (fun _ => ?_)
    | with_reducible refine l_ne (by omega) (by omega) (fun _ => ?_) (fun _ => ?_)
    | refine ⟨by decide, by decide, ?_⟩
    | fail
  any_goals first | exact k1 (by omega) | exact k2 (by omega) (by omega) | exact k3 (by omega) (by omega)
theorem sX12_drawer {T : Nat × (Nat → Int32)} {d : Nat} {Q : mz_K} {X : mz_X} {g : mz_S} {c : mz_S} {b co : Int} (w : WfB c) (h : ReB c g) (hb : R32 b) (hc : R32 co) (k1 : ¬ (0 ≤ b ∧ b ≤ c 9 1 - 1) → Q 0 (mx_up (mx_up g 99 0 0) 99 0 1)) (k2 : 0 ≤ b ∧ b ≤ c 9 1 - 1 → ¬ (0 ≤ co ∧ co ≤ 3) → Q 0 (mx_up (mx_up g 99 0 0) 99 0 2)) (k3 : 0 ≤ b ∧ b ≤ c 9 1 - 1 → 0 ≤ co ∧ co ≤ 3 → ∀ v, w32 v = w32 (c 14 (b * 4 + co).toNat) → Q v (mx_up g 99 0 0)) : zC T (d + 3) 230 [mx_R 99, mx_I b, mx_I co] g Q X := by
  have hw := w.1
  refine zX12_drawer ?_
  rintro _ rfl
  have h' : ReB c (mx_up g 99 0 0) := h.fr (ch_0 g 0) (by decide) (by decide)
  repeat' first
    | with_reducible refine zX12_drawer_44 ?_
    | with_reducible refine sX11_needFound (fun _ => ?_) (fun _ => ?_)
    | with_reducible refine sX11_needArgument (fun _ => ?_) (fun _ => ?_)
    | with_reducible refine sX11_needState (fun _ => ?_) (fun _ => ?_)
    | with_reducible refine sX11_needPlace (fun _ => ?_) (fun _ => ?_)
    | with_reducible refine nF_t ?_
    | with_reducible refine nF_f ?_
    | with_reducible refine nA_t ?_
    | with_reducible refine nA_f ?_
    | with_reducible refine nS_t ?_
    | with_reducible refine nS_f ?_
    | with_reducible refine nP_t ?_
    | with_reducible refine nP_f ?_
    | with_reducible refine sX11_isTown (by omega) (by omega) ?_
    | with_reducible refine sX11_isBroker (by omega) (by omega) ?_
    | with_reducible refine sX11_isWord (by omega) (by omega) ?_
    | with_reducible refine sX11_isCoin (by omega) ?_
    | with_reducible refine sX11_isDay (by omega) ?_
    | with_reducible refine sX11_isTray (by omega) ?_
    | with_reducible refine sX12_isTray (by omega) ?_
    | with_reducible refine sX11_within (by omega) (by omega) (by omega) ?_
    | with_reducible refine sX12_isTownC (by assumption) (by assumption) (by omega) ?_
    | with_reducible refine sX12_isBrokerC (by assumption) (by assumption) (by omega) ?_
    | with_reducible refine sX12_isCoin (by omega) ?_
    | with_reducible refine sX12_isDay (by omega) ?_
    | with_reducible refine sX12_withinW (by omega) (by omega) (by omega) ?_
    | with_reducible refine sX12_fails ?_
    | with_reducible refine b_eq (fun _ => ?_) (fun _ => ?_)
    | with_reducible refine b_ne (fun _ => ?_) (fun _ => ?_)
    | with_reducible refine c_lt (by omega) (by omega) (fun _ => ?_) (fun _ => ?_)
    | with_reducible refine c_le (by omega) (by omega) (fun _ => ?_) (fun _ => ?_)
    | with_reducible refine c_eq (by omega) (by omega) (fun _ => ?_) (fun _ => ?_)
    | with_reducible refine c_ne (by omega) (by omega) (fun _ => ?_) (fun _ => ?_)
    | with_reducible refine l_gt (by omega) (by omega) (fun _ => ?_) (fun _ => ?_)
    | with_reducible refine l_lt (by omega) (by omega) (fun _ => ?_) (fun _ => ?_)
    | with_reducible refine l_ge (by omega) (by omega) (fun _ => ?_) (fun _ => ?_)
    | with_reducible refine l_le (by omega) (by omega) (fun _ => ?_) (fun _ => ?_)
    | with_reducible refine l_eq (by omega) (by omega) (fun _ => ?_) (fun _ => ?_)
    | with_reducible refine l_ne (by omega) (by omega) (fun _ => ?_) (fun _ => ?_)
    | refine ⟨by decide, by decide, ?_⟩
    | fail
  any_goals first | exact k1 (by omega) | exact k2 (by omega) (by omega)
  rw [show 4 * b + co = b * 4 + co by omega]
  refine s_in ?_ (fun ea => ?_)
  · omega
  try simp only [ea]
  clear ea
  refine zX12_drawer_44 ?_
  exact k3 (by omega) (by omega) _ (h'.2.2 _ (by omega))
theorem C_drawer {T : Nat × (Nat → Int32)} {d : Nat} {X X' : mz_X} {g : mz_S} {b co : Int} (w : IB g) (hb : R32 b) (hc : R32 co) : zC T (d + 4) 358 [mx_R 0, mx_I b, mx_I co, mx_R 179] g (fun kk g1 => zC T (d + 4) 230 [mx_R 99, mx_I b, mx_I co] g1 (fun r g2 => AnsI kk r g2 ∧ Qy [179] [0] g g2) X') X := by
  refine wL_drawer (sX11_drawer w.1 hb hc (fun h1 => Or.inl ⟨rfl, ?_⟩) (fun h1 h2 => Or.inr ⟨rfl, ?_⟩) (fun h1 h2 => ?_))
  · exact sX12_drawer w.1 w.2.1 hb hc (fun _ => qy_bad (Ch.rf g) (fun z => z) (by decide) 1 (by omega)) (fun z => absurd z h1) (fun z => absurd z h1)
  · exact sX12_drawer w.1 w.2.1 hb hc (fun z => absurd h1 z) (fun _ _ => qy_bad (Ch.rf g) (fun z => z) (by decide) 2 (by omega)) (fun _ z => absurd z h2)
  · have c1 : Ch [179] [0] g (mx_up g 179 0 (w32 (g 14 (b * 4 + co).toNat))) := (Ch.rf g).up (by decide) (by decide)
    refine sX12_drawer w.1 (w.2.1.fr c1 (by decide) (by decide)) hb hc (fun z => absurd h1 z) (fun _ z => absurd h2 z) (fun _ _ v hv => ?_)
    exact ⟨⟨by omega, up_s, fun _ => by rw [up_q (by decide), up_s, hv]⟩, c1.up9 (by decide), fun z => z.fr (c1.up9 (by decide)) (by decide)⟩
/-- put -/
theorem sX11_put {T : Nat × (Nat → Int32)} {d : Nat} {Q : mz_K} {X : mz_X} {g : mz_S} {b co n : Int} (w : WfB g) (hb : R32 b) (hc : R32 co) (hn : R32 n) (k1 : ¬ (0 ≤ b ∧ b ≤ g 9 1 - 1) → X 0 g) (k2 : 0 ≤ b ∧ b ≤ g 9 1 - 1 → ¬ (0 ≤ co ∧ co ≤ 3) → X 1 g) (k3 : 0 ≤ b ∧ b ≤ g 9 1 - 1 → 0 ≤ co ∧ co ≤ 3 → ¬ (g 13 b.toNat = -1 ∧ (0 ≤ g 14 (b * 4 + co).toNat + n ∧ g 14 (b * 4 + co).toNat + n ≤ 10000000)) → X 2 g) (k4 : 0 ≤ b ∧ b ≤ g 9 1 - 1 → 0 ≤ co ∧ co ≤ 3 → (g 13 b.toNat = -1 ∧ (0 ≤ g 14 (b * 4 + co).toNat + n ∧ g 14 (b * 4 + co).toNat + n ≤ 10000000)) → Q (g 14 (b * 4 + co).toNat + n) (mx_up g 14 (b * 4 + co).toNat (g 14 (b * 4 + co).toNat + n))) : zC T (d + 4) 167 [mx_R 0, mx_I b, mx_I co, mx_I n] g Q X := by
  have hw := w.1
  have d1 : 0 ≤ b ∧ b ≤ g 9 1 - 1 → -1 ≤ g 13 b.toNat ∧ g 13 b.toNat ≤ 999 := fun z => (w.2.1 b.toNat (by omega)).2.2.2
  have d2 : 0 ≤ b ∧ b ≤ g 9 1 - 1 → 0 ≤ co ∧ co ≤ 3 → 0 ≤ g 14 (b * 4 + co).toNat ∧ g 14 (b * 4 + co).toNat ≤ 10000000 := fun z z2 => w.2.2 (b * 4 + co).toNat (by omega)
  have wh : 0 ≤ b ∧ b ≤ g 9 1 - 1 → 0 ≤ co ∧ co ≤ 3 → (w32 (g 14 (b * 4 + co).toNat) + w32 n) = g 14 (b * 4 + co).toNat + n := fun z z2 => by have := d2 z z2; rw [w32_of (by omega) (by omega), w32_of hn.1 hn.2]
  refine zX11_put (sX11_isBroker (by omega) (by omega) ⟨by decide, by decide, sX11_needFound (fun h1 => ?_) k1⟩)
  refine sX11_isCoin hc ⟨by decide, by decide, sX11_needArgument (fun h2 => ?_) (k2 h1)⟩
  have e1 := d1 h1
  have e2 := d2 h1 h2
  refine sX0_has (by omega) (by omega) (sX0_hasFallen (by omega) (by omega) ?_)
  rw [wh h1 h2]
  repeat' first
    | with_reducible refine zX11_put_61 ?_
    | with_reducible refine zX11_put_62 ?_
    | with_reducible refine sX11_needFound (fun _ => ?_) (fun _ => ?_)
    | with_reducible refine sX11_needArgument (fun _ => ?_) (fun _ => ?_)
    | with_reducible refine sX11_needState (fun _ => ?_) (fun _ => ?_)
    | with_reducible refine sX11_needPlace (fun _ => ?_) (fun _ => ?_)
    | with_reducible refine nF_t ?_
    | with_reducible refine nF_f ?_
    | with_reducible refine nA_t ?_
    | with_reducible refine nA_f ?_
    | with_reducible refine nS_t ?_
    | with_reducible refine nS_f ?_
    | with_reducible refine nP_t ?_
    | with_reducible refine nP_f ?_
    | with_reducible refine sX11_isTown (by omega) (by omega) ?_
    | with_reducible refine sX11_isBroker (by omega) (by omega) ?_
    | with_reducible refine sX11_isWord (by omega) (by omega) ?_
    | with_reducible refine sX11_isCoin (by omega) ?_
    | with_reducible refine sX11_isDay (by omega) ?_
    | with_reducible refine sX11_isTray (by omega) ?_
    | with_reducible refine sX12_isTray (by omega) ?_
    | with_reducible refine sX11_within (by omega) (by omega) (by omega) ?_
    | with_reducible refine sX12_isTownC (by assumption) (by assumption) (by omega) ?_
    | with_reducible refine sX12_isBrokerC (by assumption) (by assumption) (by omega) ?_
    | with_reducible refine sX12_isCoin (by omega) ?_
    | with_reducible refine sX12_isDay (by omega) ?_
    | with_reducible refine sX12_withinW (by omega) (by omega) (by omega) ?_
    | with_reducible refine sX12_fails ?_
    | with_reducible refine b_eq (fun _ => ?_) (fun _ => ?_)
    | with_reducible refine b_ne (fun _ => ?_) (fun _ => ?_)
    | with_reducible refine c_lt (by omega) (by omega) (fun _ => ?_) (fun _ => ?_)
    | with_reducible refine c_le (by omega) (by omega) (fun _ => ?_) (fun _ => ?_)
    | with_reducible refine c_eq (by omega) (by omega) (fun _ => ?_) (fun _ => ?_)
    | with_reducible refine c_ne (by omega) (by omega) (fun _ => ?_) (fun _ => ?_)
    | with_reducible refine l_gt (by omega) (by omega) (fun _ => ?_) (fun _ => ?_)
    | with_reducible refine l_lt (by omega) (by omega) (fun _ => ?_) (fun _ => ?_)
    | with_reducible refine l_ge (by omega) (by omega) (fun _ => ?_) (fun _ => ?_)
    | with_reducible refine l_le (by omega) (by omega) (fun _ => ?_) (fun _ => ?_)
    | with_reducible refine l_eq (by omega) (by omega) (fun _ => ?_) (fun _ => ?_)
    | with_reducible refine l_ne (by omega) (by omega) (fun _ => ?_) (fun _ => ?_)
    | refine ⟨by decide, by decide, ?_⟩
    | fail
  any_goals first | exact k3 (by omega) (by omega) (by omega)
  refine sX0_gets w (by omega) (by omega) (by rw [w32_of hn.1 hn.2]; omega) (sX0_has (by omega) (by omega) ?_)
  rw [up_s, w32_of hn.1 hn.2, show min 10000000 (g 14 (b * 4 + co).toNat + n) = g 14 (b * 4 + co).toNat + n by omega]
  exact k4 h1 h2 (by omega)
theorem sX12_put {T : Nat × (Nat → Int32)} {d : Nat} {Q : mz_K} {X : mz_X} {g : mz_S} {c : mz_S} {b co n : Int} (w : WfB c) (h : ReB c g) (hb : R32 b) (hc : R32 co) (hn : R32 n) (k1 : ¬ (0 ≤ b ∧ b ≤ c 9 1 - 1) → Q 0 (mx_up (mx_up g 99 0 0) 99 0 1)) (k2 : 0 ≤ b ∧ b ≤ c 9 1 - 1 → ¬ (0 ≤ co ∧ co ≤ 3) → Q 0 (mx_up (mx_up g 99 0 0) 99 0 2)) (k3 : 0 ≤ b ∧ b ≤ c 9 1 - 1 → 0 ≤ co ∧ co ≤ 3 → ¬ (c 13 b.toNat = -1 ∧ (0 ≤ c 14 (b * 4 + co).toNat + n ∧ c 14 (b * 4 + co).toNat + n ≤ 10000000)) → Q 0 (mx_up (mx_up g 99 0 0) 99 0 3)) (k4 : 0 ≤ b ∧ b ≤ c 9 1 - 1 → 0 ≤ co ∧ co ≤ 3 → (c 13 b.toNat = -1 ∧ (0 ≤ c 14 (b * 4 + co).toNat + n ∧ c 14 (b * 4 + co).toNat + n ≤ 10000000)) → Q (c 14 (b * 4 + co).toNat + n) (mx_up (mx_up g 99 0 0) 110 (b * 4 + co).toNat (c 14 (b * 4 + co).toNat + n))) : zC T (d + 3) 229 [mx_R 99, mx_I b, mx_I co, mx_I n] g Q X := by
  have hw := w.1
  have d1 : 0 ≤ b ∧ b ≤ c 9 1 - 1 → -1 ≤ c 13 b.toNat ∧ c 13 b.toNat ≤ 999 := fun z => (w.2.1 b.toNat (by omega)).2.2.2
  have d2 : 0 ≤ b ∧ b ≤ c 9 1 - 1 → 0 ≤ co ∧ co ≤ 3 → 0 ≤ c 14 (b * 4 + co).toNat ∧ c 14 (b * 4 + co).toNat ≤ 10000000 := fun z z2 => w.2.2 (b * 4 + co).toNat (by omega)
  refine zX12_put ?_
  rintro _ rfl
  have h' : ReB c (mx_up g 99 0 0) := h.fr (ch_0 g 0) (by decide) (by decide)
  repeat' first
    | with_reducible refine zX12_put_68 ?_
    | with_reducible refine sX11_needFound (fun _ => ?_) (fun _ => ?_)
    | with_reducible refine sX11_needArgument (fun _ => ?_) (fun _ => ?_)
    | with_reducible refine sX11_needState (fun _ => ?_) (fun _ => ?_)
    | with_reducible refine sX11_needPlace (fun _ => ?_) (fun _ => ?_)
    | with_reducible refine nF_t ?_
    | with_reducible refine nF_f ?_
    | with_reducible refine nA_t ?_
    | with_reducible refine nA_f ?_
    | with_reducible refine nS_t ?_
    | with_reducible refine nS_f ?_
    | with_reducible refine nP_t ?_
    | with_reducible refine nP_f ?_
    | with_reducible refine sX11_isTown (by omega) (by omega) ?_
    | with_reducible refine sX11_isBroker (by omega) (by omega) ?_
    | with_reducible refine sX11_isWord (by omega) (by omega) ?_
    | with_reducible refine sX11_isCoin (by omega) ?_
    | with_reducible refine sX11_isDay (by omega) ?_
    | with_reducible refine sX11_isTray (by omega) ?_
    | with_reducible refine sX12_isTray (by omega) ?_
    | with_reducible refine sX11_within (by omega) (by omega) (by omega) ?_
    | with_reducible refine sX12_isTownC (by assumption) (by assumption) (by omega) ?_
    | with_reducible refine sX12_isBrokerC (by assumption) (by assumption) (by omega) ?_
    | with_reducible refine sX12_isCoin (by omega) ?_
    | with_reducible refine sX12_isDay (by omega) ?_
    | with_reducible refine sX12_withinW (by omega) (by omega) (by omega) ?_
    | with_reducible refine sX12_fails ?_
    | with_reducible refine b_eq (fun _ => ?_) (fun _ => ?_)
    | with_reducible refine b_ne (fun _ => ?_) (fun _ => ?_)
    | with_reducible refine c_lt (by omega) (by omega) (fun _ => ?_) (fun _ => ?_)
    | with_reducible refine c_le (by omega) (by omega) (fun _ => ?_) (fun _ => ?_)
    | with_reducible refine c_eq (by omega) (by omega) (fun _ => ?_) (fun _ => ?_)
    | with_reducible refine c_ne (by omega) (by omega) (fun _ => ?_) (fun _ => ?_)
    | with_reducible refine l_gt (by omega) (by omega) (fun _ => ?_) (fun _ => ?_)
    | with_reducible refine l_lt (by omega) (by omega) (fun _ => ?_) (fun _ => ?_)
    | with_reducible refine l_ge (by omega) (by omega) (fun _ => ?_) (fun _ => ?_)
    | with_reducible refine l_le (by omega) (by omega) (fun _ => ?_) (fun _ => ?_)
    | with_reducible refine l_eq (by omega) (by omega) (fun _ => ?_) (fun _ => ?_)
    | with_reducible refine l_ne (by omega) (by omega) (fun _ => ?_) (fun _ => ?_)
    | refine ⟨by decide, by decide, ?_⟩
    | fail
  any_goals first | exact k1 (by omega) | exact k2 (by omega) (by omega)
  have h1 : 0 ≤ b ∧ b ≤ c 9 1 - 1 := by assumption
  have h2 : 0 ≤ co ∧ co ≤ 3 := by assumption
  have e1 := d1 h1
  have e2 := d2 h1 h2
  rw [show 4 * b + co = b * 4 + co by omega]
  refine s_in ?_ (fun ea => ?_)
  · omega
  try simp only [ea]
  clear ea
  rw [h'.2.2 _ (by omega), w32_of hn.1 hn.2, w32_of (n := c 14 (b * 4 + co).toNat) (by omega) (by omega)]
  refine sX12_hasFallen w h' (by omega) ?_
  first | with_reducible refine b_eq (fun h3 => ?_) (fun h3 => ?_) | with_reducible refine b_ne (fun h3 => ?_) (fun h3 => ?_)
  · exact zX12_put_68 (sX12_fails (k3 h1 h2 (by omega)))
  · refine sX12_within (by omega) (by omega) (by omega) ?_
    first | with_reducible refine b_eq (fun h4 => ?_) (fun h4 => ?_) | with_reducible refine b_ne (fun h4 => ?_) (fun h4 => ?_)
    · refine s_in ?_ (fun ea => ?_)
      · omega
      try simp only [ea]
      clear ea
      rintro _ rfl
      exact k4 h1 h2 (by omega)
    · exact zX12_put_68 (sX12_fails (k3 h1 h2 (by omega)))
theorem IB.put {g g2 : mz_S} {i : Nat} {v : Int} (w : IB g) (h : Ch [14, 110, 179] [0] g g2) (hi : i < 48) (hv : 0 ≤ v ∧ v ≤ 10000000) (e14 : g2 14 = lset (g 14) i v) (e110 : g2 110 = lset (g 110) i v) : IB g2 := by
  have e : ∀ q ∈ [1, 9, 10, 11, 12, 13, 106, 107, 108, 109], g2 q = g q := fun q hq => h.1 q (by revert hq; revert q; decide) (by intro z; subst z; revert hq; decide)
  unfold IB WfB ReB at w ⊢
  rw [e 1 (by decide), e 9 (by decide), e 10 (by decide), e 11 (by decide), e 12 (by decide), e 13 (by decide), e 106 (by decide), e 107 (by decide), e 108 (by decide), e 109 (by decide), h.2 10 (by decide), e14, e110]
  obtain ⟨⟨a, b, c⟩, ⟨r1, r2, r3⟩, s⟩ := w
  refine ⟨⟨a, b, fun j hj => ?_⟩, ⟨r1, r2, fun j hj => ?_⟩, s⟩
  · have := c j hj
    unfold lset
    split <;> omega
  · have := r3 j hj
    unfold lset
    split
    · rfl
    · exact this
theorem C_put {T : Nat × (Nat → Int32)} {d : Nat} {X X' : mz_X} {g : mz_S} {b co n : Int} (w : IB g) (hb : R32 b) (hc : R32 co) (hn : R32 n) : zC T (d + 5) 357 [mx_R 0, mx_I b, mx_I co, mx_I n, mx_R 179] g (fun kk g1 => zC T (d + 5) 229 [mx_R 99, mx_I b, mx_I co, mx_I n] g1 (fun r g2 => AnsI kk r g2 ∧ IB g2 ∧ Qy [14, 110, 179] [0] g g2) X') X := by
  have bad : ∀ n : Int, 1 ≤ n ∧ n ≤ 3 → AnsI n 0 (mx_up (mx_up g 99 0 0) 99 0 n) ∧ IB (mx_up (mx_up g 99 0 0) 99 0 n) ∧ Qy [14, 110, 179] [0] g (mx_up (mx_up g 99 0 0) 99 0 n) := fun n hn =>
    ⟨⟨by omega, up_s, fun z => by omega⟩, w.fr (ch_bad g n) (by decide) (by decide), (ch_bad g n).sub (by decide) (by decide), fun z => z.fr (ch_bad g n) (by decide)⟩
  refine wL_put (sX11_put w.1 hb hc hn (fun h1 => Or.inl ⟨rfl, ?_⟩) (fun h1 h2 => Or.inr (Or.inl ⟨rfl, ?_⟩)) (fun h1 h2 h3 => Or.inr (Or.inr ⟨rfl, ?_⟩)) (fun h1 h2 h3 => ?_))
  · exact sX12_put w.1 w.2.1 hb hc hn (fun _ => bad 1 (by omega)) (fun z => absurd z h1) (fun z => absurd z h1) (fun z => absurd z h1)
  · exact sX12_put w.1 w.2.1 hb hc hn (fun z => absurd h1 z) (fun _ _ => bad 2 (by omega)) (fun _ z => absurd z h2) (fun _ z => absurd z h2)
  · exact sX12_put w.1 w.2.1 hb hc hn (fun z => absurd h1 z) (fun _ z => absurd h2 z) (fun _ _ _ => bad 3 (by omega)) (fun _ _ z => absurd z h3)
  · obtain ⟨g1, eg1⟩ : ∃ g1, g1 = mx_up (mx_up g 14 (b * 4 + co).toNat (g 14 (b * 4 + co).toNat + n)) 179 0 (w32 (g 14 (b * 4 + co).toNat + n)) := ⟨_, rfl⟩
    rw [← eg1]
    have c1 : Ch [14, 179] [0] g g1 := by rw [eg1]; exact ((Ch.rf g).up (by decide) (by decide)).up (by decide) (by decide)
    refine sX12_put (c := g) w.1 (w.2.1.fr c1 (by decide) (by decide)) hb hc hn (fun z => absurd h1 z) (fun _ z => absurd h2 z) (fun _ _ z => absurd h3 z) (fun _ _ _ => ?_)
    obtain ⟨g2, eg2⟩ : ∃ g2, g2 = mx_up (mx_up g1 99 0 0) 110 (b * 4 + co).toNat (g 14 (b * 4 + co).toNat + n) := ⟨_, rfl⟩
    rw [← eg2]
    have c2 : Ch [14, 110, 179] [0] g g2 := by rw [eg2]; exact ((c1.sub (by decide) (by decide)).up9 (by decide)).up (by decide) (by decide)
    have hw := w.1.1
    refine ⟨⟨by omega, by rw [eg2]; simp [up_at, lset], fun _ => by rw [eg2, eg1]; simp [up_at, lset]⟩, w.put c2 (i := (b * 4 + co).toNat) (v := g 14 (b * 4 + co).toNat + n) (by omega) h3.2 ?_ ?_, c2, fun z => z.fr c2 (by decide)⟩
    all_goals (rw [eg2, eg1]; simp [up_at])
/-- broker -/
def brkS (g : mz_S) (t kn : Int) : mz_S := mx_up (mx_up (mx_up (mx_up g 10 (g 9 1).toNat t) 11 (g 9 1).toNat kn) 12 (g 9 1).toNat (g 1 0)) 9 1 (g 9 1 + 1)
theorem sX11_broker {T : Nat × (Nat → Int32)} {d : Nat} {Q : mz_K} {X : mz_X} {g : mz_S} {t kn : Int} (w : WfL0 g) (wb : WfB g) (ht : R32 t) (hk : R32 kn) (k1 : ¬ (0 ≤ t ∧ t ≤ g 1 1 - 1) → X 0 g) (k2 : 0 ≤ t ∧ t ≤ g 1 1 - 1 → ¬ (0 ≤ kn ∧ kn ≤ 5) → X 1 g) (k3 : 0 ≤ t ∧ t ≤ g 1 1 - 1 → 0 ≤ kn ∧ kn ≤ 5 → g 9 1 = 12 → Q (-1) g) (k4 : 0 ≤ t ∧ t ≤ g 1 1 - 1 → 0 ≤ kn ∧ kn ≤ 5 → g 9 1 < 12 → Q (g 9 1) (brkS g t kn)) : zC T (d + 3) 166 [mx_R 0, mx_I t, mx_I kn] g Q X := by
  have hw := w.2.1
  have hb := wb.1
  refine zX11_broker ?_
  repeat' first
    | with_reducible refine sX0_addBroker (by omega) ⟨fun _ => ?_, fun _ => ?_⟩
    | with_reducible refine sX11_needFound (fun _ => ?_) (fun _ => ?_)
    | with_reducible refine sX11_needArgument (fun _ => ?_) (fun _ => ?_)
    | with_reducible refine sX11_needState (fun _ => ?_) (fun _ => ?_)
    | with_reducible refine sX11_needPlace (fun _ => ?_) (fun _ => ?_)
    | with_reducible refine nF_t ?_
    | with_reducible refine nF_f ?_
    | with_reducible refine nA_t ?_
    | with_reducible refine nA_f ?_
    | with_reducible refine nS_t ?_
    | with_reducible refine nS_f ?_
    | with_reducible refine nP_t ?_
    | with_reducible refine nP_f ?_
    | with_reducible refine sX11_isTown (by omega) (by omega) ?_
    | with_reducible refine sX11_isBroker (by omega) (by omega) ?_
    | with_reducible refine sX11_isWord (by omega) (by omega) ?_
    | with_reducible refine sX11_isCoin (by omega) ?_
    | with_reducible refine sX11_isDay (by omega) ?_
    | with_reducible refine sX11_isTray (by omega) ?_
    | with_reducible refine sX12_isTray (by omega) ?_
    | with_reducible refine sX11_within (by omega) (by omega) (by omega) ?_
    | with_reducible refine sX12_isTownC (by assumption) (by assumption) (by omega) ?_
    | with_reducible refine sX12_isBrokerC (by assumption) (by assumption) (by omega) ?_
    | with_reducible refine sX12_isCoin (by omega) ?_
    | with_reducible refine sX12_isDay (by omega) ?_
    | with_reducible refine sX12_withinW (by omega) (by omega) (by omega) ?_
    | with_reducible refine sX12_fails ?_
    | with_reducible refine b_eq (fun _ => ?_) (fun _ => ?_)
    | with_reducible refine b_ne (fun _ => ?_) (fun _ => ?_)
    | with_reducible refine c_lt (by omega) (by omega) (fun _ => ?_) (fun _ => ?_)
    | with_reducible refine c_le (by omega) (by omega) (fun _ => ?_) (fun _ => ?_)
    | with_reducible refine c_eq (by omega) (by omega) (fun _ => ?_) (fun _ => ?_)
    | with_reducible refine c_ne (by omega) (by omega) (fun _ => ?_) (fun _ => ?_)
    | with_reducible refine l_gt (by omega) (by omega) (fun _ => ?_) (fun _ => ?_)
    | with_reducible refine l_lt (by omega) (by omega) (fun _ => ?_) (fun _ => ?_)
    | with_reducible refine l_ge (by omega) (by omega) (fun _ => ?_) (fun _ => ?_)
    | with_reducible refine l_le (by omega) (by omega) (fun _ => ?_) (fun _ => ?_)
    | with_reducible refine l_eq (by omega) (by omega) (fun _ => ?_) (fun _ => ?_)
    | with_reducible refine l_ne (by omega) (by omega) (fun _ => ?_) (fun _ => ?_)
    | refine ⟨by decide, by decide, ?_⟩
    | fail
  any_goals first | exact k1 (by omega) | exact k2 (by omega) (by omega) | exact k3 (by omega) (by omega) (by omega) | exact k4 (by omega) (by omega) (by omega)
theorem sX12_broker {T : Nat × (Nat → Int32)} {d : Nat} {Q : mz_K} {X : mz_X} {g : mz_S} {c : mz_S} {t kn : Int} (w : WfL0 c) (wb : WfB c) (h : ReL c g) (hb : ReB c g) (ht : R32 t) (hk : R32 kn) (k1 : ¬ (0 ≤ t ∧ t ≤ c 1 1 - 1) → Q 0 (mx_up (mx_up g 99 0 0) 99 0 1)) (k2 : 0 ≤ t ∧ t ≤ c 1 1 - 1 → ¬ (0 ≤ kn ∧ kn ≤ 5) → Q 0 (mx_up (mx_up g 99 0 0) 99 0 2)) (k3 : 0 ≤ t ∧ t ≤ c 1 1 - 1 → 0 ≤ kn ∧ kn ≤ 5 → c 9 1 = 12 → Q (-1) (mx_up g 99 0 0)) (k4 : 0 ≤ t ∧ t ≤ c 1 1 - 1 → 0 ≤ kn ∧ kn ≤ 5 → c 9 1 < 12 → Q (c 9 1) (mx_up (mx_up (mx_up (mx_up (mx_up (mx_up g 99 0 0) 106 (c 9 1).toNat t) 107 (c 9 1).toNat kn) 108 (c 9 1).toNat (c 1 0)) 109 (c 9 1).toNat (-1)) 99 10 (c 9 1 + 1))) : zC T (d + 3) 225 [mx_R 99, mx_I t, mx_I kn] g Q X := by
  have hw := w.2.1
  have hwb := wb.1
  refine zX12_broker ?_
  intro g1 e1
  have h' : ReL c g1 := by rw [e1]; exact h.fr (ch_0 g 0) (by decide) (by decide)
  have hb' : ReB c g1 := by rw [e1]; exact hb.fr (ch_0 g 0) (by decide) (by decide)
  rw [← e1] at k1 k2 k3 k4
  repeat' first
    | with_reducible refine sX11_needFound (fun _ => ?_) (fun _ => ?_)
    | with_reducible refine sX11_needArgument (fun _ => ?_) (fun _ => ?_)
    | with_reducible refine sX11_needState (fun _ => ?_) (fun _ => ?_)
    | with_reducible refine sX11_needPlace (fun _ => ?_) (fun _ => ?_)
    | with_reducible refine nF_t ?_
    | with_reducible refine nF_f ?_
    | with_reducible refine nA_t ?_
    | with_reducible refine nA_f ?_
    | with_reducible refine nS_t ?_
    | with_reducible refine nS_f ?_
    | with_reducible refine nP_t ?_
    | with_reducible refine nP_f ?_
    | with_reducible refine sX11_isTown (by omega) (by omega) ?_
    | with_reducible refine sX11_isBroker (by omega) (by omega) ?_
    | with_reducible refine sX11_isWord (by omega) (by omega) ?_
    | with_reducible refine sX11_isCoin (by omega) ?_
    | with_reducible refine sX11_isDay (by omega) ?_
    | with_reducible refine sX11_isTray (by omega) ?_
    | with_reducible refine sX12_isTray (by omega) ?_
    | with_reducible refine sX11_within (by omega) (by omega) (by omega) ?_
    | with_reducible refine sX12_isTownC (by assumption) (by assumption) (by omega) ?_
    | with_reducible refine sX12_isBrokerC (by assumption) (by assumption) (by omega) ?_
    | with_reducible refine sX12_isCoin (by omega) ?_
    | with_reducible refine sX12_isDay (by omega) ?_
    | with_reducible refine sX12_withinW (by omega) (by omega) (by omega) ?_
    | with_reducible refine sX12_fails ?_
    | with_reducible refine b_eq (fun _ => ?_) (fun _ => ?_)
    | with_reducible refine b_ne (fun _ => ?_) (fun _ => ?_)
    | with_reducible refine c_lt (by omega) (by omega) (fun _ => ?_) (fun _ => ?_)
    | with_reducible refine c_le (by omega) (by omega) (fun _ => ?_) (fun _ => ?_)
    | with_reducible refine c_eq (by omega) (by omega) (fun _ => ?_) (fun _ => ?_)
    | with_reducible refine c_ne (by omega) (by omega) (fun _ => ?_) (fun _ => ?_)
    | with_reducible refine l_gt (by omega) (by omega) (fun _ => ?_) (fun _ => ?_)
    | with_reducible refine l_lt (by omega) (by omega) (fun _ => ?_) (fun _ => ?_)
    | with_reducible refine l_ge (by omega) (by omega) (fun _ => ?_) (fun _ => ?_)
    | with_reducible refine l_le (by omega) (by omega) (fun _ => ?_) (fun _ => ?_)
    | with_reducible refine l_eq (by omega) (by omega) (fun _ => ?_) (fun _ => ?_)
    | with_reducible refine l_ne (by omega) (by omega) (fun _ => ?_) (fun _ => ?_)
    | refine ⟨by decide, by decide, ?_⟩
    | fail
  any_goals first | exact k1 (by omega) | exact k2 (by omega) (by omega)
  · have f1 : g1 99 10 = c 9 1 := hb'.1
    have f0 : g1 99 1 = c 1 0 := h'.1
    have e : mx_at (c 9 1) = (c 9 1).toNat := zat (by omega) (by omega)
    rw [f1]
    first | with_reducible refine c_lt ?_ ?_ (fun z3 => ?_) (fun z3 => ?_) | with_reducible refine c_le ?_ ?_ (fun z3 => ?_) (fun z3 => ?_) | with_reducible refine c_eq ?_ ?_ (fun z3 => ?_) (fun z3 => ?_) | with_reducible refine c_ne ?_ ?_ (fun z3 => ?_) (fun z3 => ?_)
    · omega
    · omega
    · have i : mx_in (c 9 1) 12 := zin (by omega) (by omega) (by omega)
      refine ⟨i, ?_⟩
      intro g5 e5
      have f5 : g5 99 10 = c 9 1 := by rw [e5, up_q (by decide), f1]
      rw [f5]
      refine ⟨i, ?_⟩
      intro g6 e6
      have f6 : g6 99 10 = c 9 1 := by rw [e6, up_q (by decide), f5]
      have f60 : g6 99 1 = c 1 0 := by rw [e6, up_q (by decide), e5, up_q (by decide), f0]
      rw [f6, f60]
      refine ⟨i, ?_⟩
      intro g7 e7
      have f7 : g7 99 10 = c 9 1 := by rw [e7, up_q (by decide), f6]
      rw [f7]
      refine ⟨i, ?_⟩
      intro g8 e8
      have f8 : g8 99 10 = c 9 1 := by rw [e8, up_q (by decide), f7]
      rw [f8]
      intro g9 e9
      have f9 : g9 99 10 = c 9 1 + 1 := by rw [e9, up_s]
      have k := k4 (by omega) (by omega) (by omega)
      rw [← e, ← e5, ← e6, ← e7, ← e8, ← e9] at k
      rw [f9, show c 9 1 + 1 - 1 = c 9 1 by omega]
      exact k
    · exact k3 (by omega) (by omega) (by omega)
theorem IB.broker {g g2 : mz_S} {t kn : Int} (w : IB g) (hn : 0 ≤ g 1 0) (hm : g 9 1 < 12) (ht : 0 ≤ t ∧ t < 8) (hk : 0 ≤ kn ∧ kn ≤ 5) (h : Ch [9, 10, 11, 12, 106, 107, 108, 109, 179] [0, 10] g g2) (e9 : g2 9 1 = g 9 1 + 1) (e10 : g2 10 = lset (g 10) (g 9 1).toNat t) (e11 : g2 11 = lset (g 11) (g 9 1).toNat kn) (e12 : g2 12 = lset (g 12) (g 9 1).toNat (g 1 0)) (e99 : g2 99 10 = g 9 1 + 1) (e106 : g2 106 = lset (g 106) (g 9 1).toNat t) (e107 : g2 107 = lset (g 107) (g 9 1).toNat kn) (e108 : g2 108 = lset (g 108) (g 9 1).toNat (g 1 0)) (e109 : g2 109 = lset (g 109) (g 9 1).toNat (-1)) : IB g2 := by
  have e : ∀ q ∈ [1, 13, 14, 110], g2 q = g q := fun q hq => h.1 q (by revert hq; revert q; decide) (by intro z; subst z; revert hq; decide)
  unfold IB WfB ReB at w ⊢
  rw [e 1 (by decide), e 13 (by decide), e 14 (by decide), e 110 (by decide), e9, e10, e11, e12, e99, e106, e107, e108, e109]
  obtain ⟨⟨a, b, c⟩, ⟨r1, r2, r3⟩, s⟩ := w
  refine ⟨⟨by omega, fun i hi => ?_, c⟩, ⟨rfl, fun i hi => ?_, r3⟩, fun i hi hi2 => s i hi (by omega)⟩
  · have := b i hi
    unfold lset
    split <;> omega
  · have := r2 i hi
    have := s i hi
    unfold lset
    split <;> omega
theorem C_broker {T : Nat × (Nat → Int32)} {d : Nat} {X X' : mz_X} {g : mz_S} {t kn : Int} (wl : IL g) (w : IB g) (ht : R32 t) (hk : R32 kn) : zC T (d + 4) 356 [mx_R 0, mx_I t, mx_I kn, mx_R 179] g (fun kk g1 => zC T (d + 4) 225 [mx_R 99, mx_I t, mx_I kn] g1 (fun r g2 => AnsI kk r g2 ∧ IB g2 ∧ Qy [9, 10, 11, 12, 106, 107, 108, 109, 179] [0, 10] g g2 ∧ g 9 1 ≤ g2 9 1 ∧ (∀ i : Nat, i < g 9 1 → g2 10 i = g 10 i ∧ g2 11 i = g 11 i ∧ g2 12 i = g 12 i)) X') X := by
  have hw := wl.1.2.1
  have hwb := w.1.1
  have keep : ∀ {S F : List Nat} {g2 : mz_S}, Ch S F g g2 → (∀ q ∈ [9, 10, 11, 12], q ∉ S) → g 9 1 ≤ g2 9 1 ∧ (∀ i : Nat, i < g 9 1 → g2 10 i = g 10 i ∧ g2 11 i = g 11 i ∧ g2 12 i = g 12 i) := by
    intro S F g2 hc hS
    rw [hc.1 9 (hS 9 (by decide)) (by decide), hc.1 10 (hS 10 (by decide)) (by decide), hc.1 11 (hS 11 (by decide)) (by decide), hc.1 12 (hS 12 (by decide)) (by decide)]
    exact ⟨Int.le_refl _, fun i _ => ⟨rfl, rfl, rfl⟩⟩
  have bad : ∀ n : Int, 1 ≤ n ∧ n ≤ 3 → AnsI n 0 (mx_up (mx_up g 99 0 0) 99 0 n) ∧ IB (mx_up (mx_up g 99 0 0) 99 0 n) ∧ Qy [9, 10, 11, 12, 106, 107, 108, 109, 179] [0, 10] g (mx_up (mx_up g 99 0 0) 99 0 n) ∧ g 9 1 ≤ mx_up (mx_up g 99 0 0) 99 0 n 9 1 ∧ (∀ i : Nat, i < g 9 1 → mx_up (mx_up g 99 0 0) 99 0 n 10 i = g 10 i ∧ mx_up (mx_up g 99 0 0) 99 0 n 11 i = g 11 i ∧ mx_up (mx_up g 99 0 0) 99 0 n 12 i = g 12 i) := fun n hn =>
    ⟨⟨by omega, up_s, fun z => by omega⟩, w.fr (ch_bad g n) (by decide) (by decide), ⟨(ch_bad g n).sub (by decide) (by decide), fun z => z.fr (ch_bad g n) (by decide)⟩, keep (ch_bad g n) (by decide)⟩
  refine wL_broker (sX11_broker wl.1 w.1 ht hk (fun h1 => Or.inl ⟨rfl, ?_⟩) (fun h1 h2 => Or.inr ⟨rfl, ?_⟩) (fun h1 h2 h3 => ?_) (fun h1 h2 h3 => ?_))
  · exact sX12_broker wl.1 w.1 wl.2.2.1 w.2.1 ht hk (fun _ => bad 1 (by omega)) (fun z => absurd z h1) (fun z => absurd z h1) (fun z => absurd z h1)
  · exact sX12_broker wl.1 w.1 wl.2.2.1 w.2.1 ht hk (fun z => absurd h1 z) (fun _ _ => bad 2 (by omega)) (fun _ z => absurd z h2) (fun _ z => absurd z h2)
  · have c1 : Ch [179] [0] g (mx_up g 179 0 (w32 (-1))) := (Ch.rf g).up (by decide) (by decide)
    refine sX12_broker wl.1 w.1 (wl.2.2.1.fr c1 (by decide) (by decide)) (w.2.1.fr c1 (by decide) (by decide)) ht hk (fun z => absurd h1 z) (fun _ z => absurd h2 z) (fun _ _ _ => ?_) (fun _ _ z => by omega)
    have c2 : Ch [179] [0] g (mx_up (mx_up g 179 0 (w32 (-1))) 99 0 0) := c1.up9 (by decide)
    exact ⟨⟨by omega, up_s, fun _ => by rw [up_q (by decide), up_s]⟩, w.fr c2 (by decide) (by decide), ⟨c2.sub (by decide) (by decide), fun z => z.fr c2 (by decide)⟩, keep c2 (by decide)⟩
  · obtain ⟨g1, eg1⟩ : ∃ g1, g1 = mx_up (brkS g t kn) 179 0 (w32 (g 9 1)) := ⟨_, rfl⟩
    rw [← eg1]
    have c1 : Ch [9, 10, 11, 12, 179] [0] g g1 := by rw [eg1]; exact (((((Ch.rf g).up (by decide) (by decide)).up (by decide) (by decide)).up (by decide) (by decide)).up (by decide) (by decide)).up (by decide) (by decide)
    refine sX12_broker (c := g) wl.1 w.1 (wl.2.2.1.fr c1 (by decide) (by decide)) (w.2.1.fr c1 (by decide) (by decide)) ht hk (fun z => absurd h1 z) (fun _ z => absurd h2 z) (fun _ _ z => by omega) (fun _ _ _ => ?_)
    obtain ⟨g2, eg2⟩ : ∃ g2, g2 = mx_up (mx_up (mx_up (mx_up (mx_up (mx_up g1 99 0 0) 106 (g 9 1).toNat t) 107 (g 9 1).toNat kn) 108 (g 9 1).toNat (g 1 0)) 109 (g 9 1).toNat (-1)) 99 10 (g 9 1 + 1) := ⟨_, rfl⟩
    rw [← eg2]
    have c2 : Ch [9, 10, 11, 12, 106, 107, 108, 109, 179] [0, 10] g g2 := by rw [eg2]; exact ((((((c1.sub (by decide) (by decide)).up9 (by decide)).up (by decide) (by decide)).up (by decide) (by decide)).up (by decide) (by decide)).up (by decide) (by decide)).up9 (by decide)
    have s10 : g2 10 = lset (g 10) (g 9 1).toNat t := by rw [eg2, eg1]; simp [brkS, up_at]
    have s11 : g2 11 = lset (g 11) (g 9 1).toNat kn := by rw [eg2, eg1]; simp [brkS, up_at]
    have s12 : g2 12 = lset (g 12) (g 9 1).toNat (g 1 0) := by rw [eg2, eg1]; simp [brkS, up_at]
    have s9 : g2 9 1 = g 9 1 + 1 := by rw [eg2, eg1]; simp [brkS, up_at, lset]
    refine ⟨⟨by omega, by rw [eg2]; simp [up_at, lset], fun _ => by rw [eg2, eg1]; simp [up_at, lset]⟩, w.broker (t := t) (kn := kn) wl.1.1.1 h3 (by omega) h2 c2 s9 s10 s11 s12 (by rw [eg2]; exact up_s) ?_ ?_ ?_ ?_, ⟨c2, fun z => z.fr c2 (by decide)⟩, by omega, fun i hi => ?_⟩
    · rw [eg2, eg1]; simp [brkS, up_at]
    · rw [eg2, eg1]; simp [brkS, up_at]
    · rw [eg2, eg1]; simp [brkS, up_at]
    · rw [eg2, eg1]; simp [brkS, up_at]
    · rw [s10, s11, s12, lset_n (by omega), lset_n (by omega), lset_n (by omega)]
      exact ⟨rfl, rfl, rfl⟩
