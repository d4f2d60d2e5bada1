/-! the calls entry, market, hidden -/
theorem sX11_entry {T : Nat × (Nat → Int32)} {d : Nat} {Q : mz_K} {X : mz_X} {g : mz_S} {e wh : Int} (w : WfG g) (he : R32 e) (hw : R32 wh) (k1 : ¬ (0 ≤ e ∧ e ≤ g 15 2 - 1) → X 0 g) (k2 : 0 ≤ e ∧ e ≤ g 15 2 - 1 → ¬ (0 ≤ wh ∧ wh ≤ 6) → X 1 g) (k3 : 0 ≤ e ∧ e ≤ g 15 2 - 1 → 0 ≤ wh ∧ wh ≤ 6 → Q (g (16 + wh.toNat) e.toNat) g) : zC T (d + 3) 191 [mx_R 0, mx_I e, mx_I wh] g Q X := by
  have w1 := w.1
  refine zX11_entry ?_
  repeat' first
    | with_reducible refine sX6_detail (by omega) (by omega) ?_
    | with_reducible refine sX11_needFound (fun _ => ?_) (fun _ => ?_)
    | with_reducible refine sX11_needArgument (fun _ => ?_) (fun _ => ?_)
    | with_reducible refine sX11_needState (fun _ => ?_) (fun _ => ?_)
    | with_reducible refine sX11_needPlace (fun _ => ?_) (fun _ => ?_)
    | with_reducible refine nF_t ?_
    | with_reducible refine nF_f ?_
    | with_reducible refine nA_t ?_
    | with_reducible refine nA_f ?_
    | with_reducible refine nS_t ?_
    | with_reducible refine nS_f ?_
    | with_reducible refine nP_t ?_
    | with_reducible refine nP_f ?_
    | with_reducible refine sX11_isTown (by omega) (by omega) ?_
    | with_reducible refine sX11_isBroker (by omega) (by omega) ?_
    | with_reducible refine sX11_isWord (by omega) (by omega) ?_
    | with_reducible refine sX11_isCoin (by omega) ?_
    | with_reducible refine sX11_isDay (by omega) ?_
    | with_reducible refine sX11_isTray (by omega) ?_
    | with_reducible refine sX12_isTray (by omega) ?_
    | with_reducible refine sX11_within (by omega) (by omega) (by omega) ?_
    | with_reducible refine sX12_isTownC (by assumption) (by assumption) (by omega) ?_
    | with_reducible refine sX12_isBrokerC (by assumption) (by assumption) (by omega) ?_
    | with_reducible refine sX12_isCoin (by omega) ?_
    | with_reducible refine sX12_isDay (by omega) ?_
    | with_reducible refine sX12_withinW (by omega) (by omega) (by omega) ?_
    | with_reducible refine sX12_fails ?_
    | with_reducible refine b_eq (fun _ => ?_) (fun _ => ?_)
    | with_reducible refine b_ne (fun _ => ?_) (fun _ => ?_)
    | with_reducible refine c_lt (by omega) (by omega) (fun _ => ?_) (fun _ => ?_)
    | with_reducible refine c_le (by omega) (by omega) (fun _ => ?_) (fun _ => ?_)
    | with_reducible refine c_eq (by omega) (by omega) (fun _ => ?_) (fun _ => ?_)
    | with_reducible refine c_ne (by omega) (by omega) (fun _ => ?_) (fun _ => ?_)
    | with_reducible refine l_gt (by omega) (by omega) (fun _ => ?_) (fun _ => ?_)
    | with_reducible refine l_lt (by omega) (by omega) (fun _ => ?_) (fun _ => ?_)
    | with_reducible refine l_ge (by omega) (by omega) (fun _ => ?_) (fun _ => ?_)
    | with_reducible refine l_le (by omega) (by omega) (fun _ => ?_) (fun _ => ?_)
    | with_reducible refine l_eq (by omega) (by omega) (fun _ => ?_) (fun _ => ?_)
    | with_reducible refine l_ne (by omega) (by omega) (fun _ => ?_) (fun _ => ?_)
    | refine ⟨by decide, by decide, ?_⟩
    | fail
  any_goals first | exact k1 (by omega) | exact k2 (by omega) (by omega) | exact k3 (by omega) (by omega)
theorem sX12_entry {T : Nat × (Nat → Int32)} {d : Nat} {Q : mz_K} {X : mz_X} {g : mz_S} {c : mz_S} {e wh : Int} (w : WfG c) (h : ReE c g) (he : R32 e) (hw : R32 wh) (k1 : ¬ (0 ≤ e ∧ e ≤ c 15 2 - 1) → Q 0 (mx_up (mx_up g 99 0 0) 99 0 1)) (k2 : 0 ≤ e ∧ e ≤ c 15 2 - 1 → ¬ (0 ≤ wh ∧ wh ≤ 6) → Q 0 (mx_up (mx_up g 99 0 0) 99 0 2)) (k3 : 0 ≤ e ∧ e ≤ c 15 2 - 1 → 0 ≤ wh ∧ wh ≤ 6 → Q (c (16 + wh.toNat) e.toNat) (mx_up g 99 0 0)) : zC T (d + 3) 239 [mx_R 99, mx_I e, mx_I wh] g Q X := by
  have w1 := w.1
  refine zX12_entry ?_
  rintro _ rfl
  have h' : ReE c (mx_up g 99 0 0) := h.fr (ch_0 g 0) (by decide) (by decide)
  rw [h'.1, w32_of (n := c 15 2 - 1) (by omega) (by omega)]
  refine sX12_withinW he (by omega) (by omega) ?_
  first | with_reducible refine b_eq (fun h1 => ?_) (fun h1 => ?_) | with_reducible refine b_ne (fun h1 => ?_) (fun h1 => ?_)
  · rw [w32_of hw.1 hw.2]
    refine ⟨fun h2 => sX12_fails (k2 h1 h2), fun h2 => ?_⟩
    have k := k3 h1 h2
    have r := h'.2 e.toNat (by omega)
    have i : mx_in e 400 := zin (by omega) (by omega) (by omega)
    have ea : mx_at e = e.toNat := zat (by omega) (by omega)
    have h7 : wh = 0 ∨ wh = 1 ∨ wh = 2 ∨ wh = 3 ∨ wh = 4 ∨ wh = 5 ∨ wh = 6 := by omega
    rcases h7 with z | z | z | z | z | z | z <;> subst z
    · exact zX12_entry_72 ⟨i, by rw [ea, r.1]; exact k⟩
    · exact zX12_entry_79 ⟨i, by rw [ea, r.2.1]; exact k⟩
    · exact zX12_entry_86 ⟨i, by rw [ea, r.2.2.1]; exact k⟩
    · exact zX12_entry_93 ⟨i, by rw [ea, r.2.2.2.1]; exact k⟩
    · exact zX12_entry_100 ⟨i, by rw [ea, r.2.2.2.2.1]; exact k⟩
    · exact zX12_entry_107 ⟨i, by rw [ea, r.2.2.2.2.2.1]; exact k⟩
    · exact zX12_entry_114 ⟨i, by rw [ea, r.2.2.2.2.2.2]; exact k⟩
  · exact sX12_fails (k1 h1)
theorem C_entry {T : Nat × (Nat → Int32)} {d : Nat} {X X' : mz_X} {g : mz_S} {e wh : Int} (w : IE g) (he : R32 e) (hw : R32 wh) : zC T (d + 4) 378 [mx_R 0, mx_I e, mx_I wh, mx_R 179] g (fun kk g1 => zC T (d + 4) 239 [mx_R 99, mx_I e, mx_I wh] g1 (fun r g2 => AnsI kk r g2 ∧ Qy [179] [0] g g2) X') X := by
  refine wL_entry (sX11_entry w.1 he hw (fun h1 => Or.inl ⟨rfl, ?_⟩) (fun h1 h2 => Or.inr ⟨rfl, ?_⟩) (fun h1 h2 => ?_))
  · exact sX12_entry w.1 w.2.2.1 he hw (fun _ => qy_bad (Ch.rf g) (fun z => z) (by decide) 1 (by omega)) (fun z => absurd z h1) (fun z => absurd z h1)
  · exact sX12_entry w.1 w.2.2.1 he hw (fun z => absurd h1 z) (fun _ _ => qy_bad (Ch.rf g) (fun z => z) (by decide) 2 (by omega)) (fun _ z => absurd z h2)
  · have c1 : Ch [179] [0] g (mx_up g 179 0 (w32 (g (16 + wh.toNat) e.toNat))) := (Ch.rf g).up (by decide) (by decide)
    refine sX12_entry w.1 (w.2.2.1.fr c1 (by decide) (by decide)) he hw (fun z => absurd h1 z) (fun _ z => absurd h2 z) (fun _ _ => ?_)
    exact ⟨⟨by omega, up_s, fun _ => by rw [up_q (by decide), up_s]⟩, c1.up9 (by decide), fun z => z.fr (c1.up9 (by decide)) (by decide)⟩
/-- market -/
theorem sX11_market {T : Nat × (Nat → Int32)} {d : Nat} {Q : mz_K} {X : mz_X} {g : mz_S} {t kd p : Int} (w : WfL0 g) (ht : R32 t) (hk : R32 kd) (hp : R32 p) (k1 : ¬ (0 ≤ t ∧ t ≤ g 1 1 - 1) → X 0 g) (k2 : 0 ≤ t ∧ t ≤ g 1 1 - 1 → ¬ ((0 ≤ kd ∧ kd ≤ 3) ∧ (0 ≤ p ∧ p ≤ 10000)) → X 1 g) (k3 : 0 ≤ t ∧ t ≤ g 1 1 - 1 → (0 ≤ kd ∧ kd ≤ 3) ∧ (0 ≤ p ∧ p ≤ 10000) → Q (g 24 (t * 4 + kd).toNat) (mx_up g 24 (t * 4 + kd).toNat p)) : zC T (d + 3) 183 [mx_R 0, mx_I t, mx_I kd, mx_I p] g Q X := by
  have hw := w.2.1
  refine zX11_market ?_
  repeat' first
    | with_reducible refine zX11_market_32 ?_
    | with_reducible refine zX11_market_33 ?_
    | with_reducible refine sX6_setMarket (by omega) (by omega) ?_
    | with_reducible refine sX11_needFound (fun _ => ?_) (fun _ => ?_)
    | with_reducible refine sX11_needArgument (fun _ => ?_) (fun _ => ?_)
    | with_reducible refine sX11_needState (fun _ => ?_) (fun _ => ?_)
    | with_reducible refine sX11_needPlace (fun _ => ?_) (fun _ => ?_)
    | with_reducible refine nF_t ?_
    | with_reducible refine nF_f ?_
    | with_reducible refine nA_t ?_
    | with_reducible refine nA_f ?_
    | with_reducible refine nS_t ?_
    | with_reducible refine nS_f ?_
    | with_reducible refine nP_t ?_
    | with_reducible refine nP_f ?_
    | with_reducible refine sX11_isTown (by omega) (by omega) ?_
    | with_reducible refine sX11_isBroker (by omega) (by omega) ?_
    | with_reducible refine sX11_isWord (by omega) (by omega) ?_
    | with_reducible refine sX11_isCoin (by omega) ?_
    | with_reducible refine sX11_isDay (by omega) ?_
    | with_reducible refine sX11_isTray (by omega) ?_
    | with_reducible refine sX12_isTray (by omega) ?_
    | with_reducible refine sX11_within (by omega) (by omega) (by omega) ?_
    | with_reducible refine sX12_isTownC (by assumption) (by assumption) (by omega) ?_
    | with_reducible refine sX12_isBrokerC (by assumption) (by assumption) (by omega) ?_
    | with_reducible refine sX12_isCoin (by omega) ?_
    | with_reducible refine sX12_isDay (by omega) ?_
    | with_reducible refine sX12_withinW (by omega) (by omega) (by omega) ?_
    | with_reducible refine sX12_fails ?_
    | with_reducible refine b_eq (fun _ => ?_) (fun _ => ?_)
    | with_reducible refine b_ne (fun _ => ?_) (fun _ => ?_)
    | with_reducible refine c_lt (by omega) (by omega) (fun _ => ?_) (fun _ => ?_)
    | with_reducible refine c_le (by omega) (by omega) (fun _ => ?_) (fun _ => ?_)
    | with_reducible refine c_eq (by omega) (by omega) (fun _ => ?_) (fun _ => ?_)
    | with_reducible refine c_ne (by omega) (by omega) (fun _ => ?_) (fun _ => ?_)
    | with_reducible refine l_gt (by omega) (by omega) (fun _ => ?_) (fun _ => ?_)
    | with_reducible refine l_lt (by omega) (by omega) (fun _ => ?_) (fun _ => ?_)
    | with_reducible refine l_ge (by omega) (by omega) (fun _ => ?_) (fun _ => ?_)
    | with_reducible refine l_le (by omega) (by omega) (fun _ => ?_) (fun _ => ?_)
    | with_reducible refine l_eq (by omega) (by omega) (fun _ => ?_) (fun _ => ?_)
    | with_reducible refine l_ne (by omega) (by omega) (fun _ => ?_) (fun _ => ?_)
    | refine ⟨by decide, by decide, ?_⟩
    | fail
  any_goals first | exact k1 (by omega) | exact k2 (by omega) (by omega) | exact k3 (by omega) (by omega)
theorem sX12_market {T : Nat × (Nat → Int32)} {d : Nat} {Q : mz_K} {X : mz_X} {g : mz_S} {c : mz_S} {t kd p : Int} (w : WfL0 c) (h : ReL c g) (hm : ReM c g) (ht : R32 t) (hk : R32 kd) (hp : R32 p) (k1 : ¬ (0 ≤ t ∧ t ≤ c 1 1 - 1) → Q 0 (mx_up (mx_up g 99 0 0) 99 0 1)) (k2 : 0 ≤ t ∧ t ≤ c 1 1 - 1 → ¬ ((0 ≤ kd ∧ kd ≤ 3) ∧ (0 ≤ p ∧ p ≤ 10000)) → Q 0 (mx_up (mx_up g 99 0 0) 99 0 2)) (k3 : 0 ≤ t ∧ t ≤ c 1 1 - 1 → (0 ≤ kd ∧ kd ≤ 3) ∧ (0 ≤ p ∧ p ≤ 10000) → Q (c 24 (t * 4 + kd).toNat) (mx_up (mx_up g 99 0 0) 147 (t * 4 + kd).toNat p)) : zC T (d + 3) 286 [mx_R 99, mx_I t, mx_I kd, mx_I p] g Q X := by
  have hw := w.2.1
  refine zX12_market ?_
  rintro _ rfl
  have h' : ReL c (mx_up g 99 0 0) := h.fr (ch_0 g 0) (by decide) (by decide)
  repeat' first
    | with_reducible refine zX12_market_43 ?_
    | with_reducible refine sX11_needFound (fun _ => ?_) (fun _ => ?_)
    | with_reducible refine sX11_needArgument (fun _ => ?_) (fun _ => ?_)
    | with_reducible refine sX11_needState (fun _ => ?_) (fun _ => ?_)
    | with_reducible refine sX11_needPlace (fun _ => ?_) (fun _ => ?_)
    | with_reducible refine nF_t ?_
    | with_reducible refine nF_f ?_
    | with_reducible refine nA_t ?_
    | with_reducible refine nA_f ?_
    | with_reducible refine nS_t ?_
    | with_reducible refine nS_f ?_
    | with_reducible refine nP_t ?_
    | with_reducible refine nP_f ?_
    | with_reducible refine sX11_isTown (by omega) (by omega) ?_
    | with_reducible refine sX11_isBroker (by omega) (by omega) ?_
    | with_reducible refine sX11_isWord (by omega) (by omega) ?_
    | with_reducible refine sX11_isCoin (by omega) ?_
    | with_reducible refine sX11_isDay (by omega) ?_
    | with_reducible refine sX11_isTray (by omega) ?_
    | with_reducible refine sX12_isTray (by omega) ?_
    | with_reducible refine sX11_within (by omega) (by omega) (by omega) ?_
    | with_reducible refine sX12_isTownC (by assumption) (by assumption) (by omega) ?_
    | with_reducible refine sX12_isBrokerC (by assumption) (by assumption) (by omega) ?_
    | with_reducible refine sX12_isCoin (by omega) ?_
    | with_reducible refine sX12_isDay (by omega) ?_
    | with_reducible refine sX12_withinW (by omega) (by omega) (by omega) ?_
    | with_reducible refine sX12_fails ?_
    | with_reducible refine b_eq (fun _ => ?_) (fun _ => ?_)
    | with_reducible refine b_ne (fun _ => ?_) (fun _ => ?_)
    | with_reducible refine c_lt (by omega) (by omega) (fun _ => ?_) (fun _ => ?_)
    | with_reducible refine c_le (by omega) (by omega) (fun _ => ?_) (fun _ => ?_)
    | with_reducible refine c_eq (by omega) (by omega) (fun _ => ?_) (fun _ => ?_)
    | with_reducible refine c_ne (by omega) (by omega) (fun _ => ?_) (fun _ => ?_)
    | with_reducible refine l_gt (by omega) (by omega) (fun _ => ?_) (fun _ => ?_)
    | with_reducible refine l_lt (by omega) (by omega) (fun _ => ?_) (fun _ => ?_)
    | with_reducible refine l_ge (by omega) (by omega) (fun _ => ?_) (fun _ => ?_)
    | with_reducible refine l_le (by omega) (by omega) (fun _ => ?_) (fun _ => ?_)
    | with_reducible refine l_eq (by omega) (by omega) (fun _ => ?_) (fun _ => ?_)
    | with_reducible refine l_ne (by omega) (by omega) (fun _ => ?_) (fun _ => ?_)
    | refine ⟨by decide, by decide, ?_⟩
    | fail
  any_goals first | exact k1 (by omega) | exact k2 (by omega) (by omega)
  · rw [show 4 * t + kd = t * 4 + kd by omega]
    refine s_in ?_ (fun ea => ?_)
    · omega
    try simp only [ea]
    clear ea
    refine s_in ?_ (fun ea => ?_)
    · omega
    try simp only [ea]
    clear ea
    rintro _ rfl
    rw [up_q (by decide), hm _ (by omega)]
    exact k3 (by omega) (by omega)
theorem IE.market {g g2 : mz_S} {i : Nat} {v : Int} (w : IE g) (h : Ch [24, 147, 179] [0] g g2) (hv : 0 ≤ v ∧ v ≤ 10000) (e24 : g2 24 = lset (g 24) i v) (e147 : g2 147 = lset (g 147) i v) : IE g2 := by
  have e : ∀ q ∈ [13, 15, 16, 17, 18, 19, 20, 21, 22, 23, 25, 111, 112, 113, 114, 115, 116, 117, 118], g2 q = g q := fun q hq => h.1 q (by revert hq; revert q; decide) (by intro z; subst z; revert hq; decide)
  unfold IE WfG WfN ReE WfNb ReM ReH nbB netC partC hidR at w ⊢
  rw [e 13 (by decide), e 15 (by decide), e 16 (by decide), e 17 (by decide), e 18 (by decide), e 19 (by decide), e 20 (by decide), e 21 (by decide), e 22 (by decide), e 23 (by decide), e 25 (by decide), e 111 (by decide), e 112 (by decide), e 113 (by decide), e 114 (by decide), e 115 (by decide), e 116 (by decide), e 117 (by decide), e 118 (by decide), h.2 16 (by decide), e24, e147]
  obtain ⟨⟨a1, a2, a3, a4⟩, b, c, d, m, r⟩ := w
  refine ⟨⟨a1, a2, a3, fun j hj => ?_⟩, b, c, d, fun j hj => ?_, r⟩
  · have := a4 j hj
    unfold lset
    split <;> omega
  · have := m j hj
    unfold lset
    split
    · rfl
    · exact this
theorem C_market {T : Nat × (Nat → Int32)} {d : Nat} {X X' : mz_X} {g : mz_S} {t kd p : Int} (wl : IL g) (w : IE g) (ht : R32 t) (hk : R32 kd) (hp : R32 p) : zC T (d + 4) 371 [mx_R 0, mx_I t, mx_I kd, mx_I p, mx_R 179] g (fun kk g1 => zC T (d + 4) 286 [mx_R 99, mx_I t, mx_I kd, mx_I p] g1 (fun r g2 => AnsI kk r g2 ∧ IE g2 ∧ Qy [24, 147, 179] [0] g g2) X') X := by
  have bad : ∀ n : Int, 1 ≤ n ∧ n ≤ 3 → AnsI n 0 (mx_up (mx_up g 99 0 0) 99 0 n) ∧ IE (mx_up (mx_up g 99 0 0) 99 0 n) ∧ Qy [24, 147, 179] [0] g (mx_up (mx_up g 99 0 0) 99 0 n) := fun n hn =>
    ⟨⟨by omega, up_s, fun z => by omega⟩, w.fr (ch_bad g n) (by decide) (by decide), (ch_bad g n).sub (by decide) (by decide), fun z => z.fr (ch_bad g n) (by decide)⟩
  refine wL_market (sX11_market wl.1 ht hk hp (fun h1 => Or.inl ⟨rfl, ?_⟩) (fun h1 h2 => Or.inr ⟨rfl, ?_⟩) (fun h1 h2 => ?_))
  · exact sX12_market wl.1 wl.2.2.1 w.2.2.2.2.1 ht hk hp (fun _ => bad 1 (by omega)) (fun z => absurd z h1) (fun z => absurd z h1)
  · exact sX12_market wl.1 wl.2.2.1 w.2.2.2.2.1 ht hk hp (fun z => absurd h1 z) (fun _ _ => bad 2 (by omega)) (fun _ z => absurd z h2)
  · obtain ⟨g1, eg1⟩ : ∃ g1, g1 = mx_up (mx_up g 24 (t * 4 + kd).toNat p) 179 0 (w32 (g 24 (t * 4 + kd).toNat)) := ⟨_, rfl⟩
    rw [← eg1]
    have c1 : Ch [24, 179] [0] g g1 := by rw [eg1]; exact ((Ch.rf g).up (by decide) (by decide)).up (by decide) (by decide)
    refine sX12_market (c := g) wl.1 (wl.2.2.1.fr c1 (by decide) (by decide)) (fun i hi => by rw [c1.1 147 (by decide) (by decide)]; exact w.2.2.2.2.1 i hi) ht hk hp (fun z => absurd h1 z) (fun _ z => absurd h2 z) (fun _ _ => ?_)
    obtain ⟨g2, eg2⟩ : ∃ g2, g2 = mx_up (mx_up g1 99 0 0) 147 (t * 4 + kd).toNat p := ⟨_, rfl⟩
    rw [← eg2]
    have c2 : Ch [24, 147, 179] [0] g g2 := by rw [eg2]; exact ((c1.sub (by decide) (by decide)).up9 (by decide)).up (by decide) (by decide)
    refine ⟨⟨by omega, by rw [eg2]; simp [up_at, lset], fun _ => by rw [eg2, eg1]; simp [up_at, lset]⟩, w.market c2 (i := (t * 4 + kd).toNat) (v := p) h2.2 ?_ ?_, c2, fun z => z.fr c2 (by decide)⟩
    all_goals (rw [eg2, eg1]; simp [up_at])
/-- hidden -/
theorem C_hidden {T : Nat × (Nat → Int32)} {d : Nat} {X X' : mz_X} {g : mz_S} {a b : Int} (wb : IB g) (w : IE g) (ha : R32 a) (hb : R32 b) : zC T (d + 4) 373 [mx_R 0, mx_I a, mx_I b, mx_R 179] g (fun kk g1 => zC T (d + 4) 288 [mx_R 99, mx_I a, mx_I b] g1 (fun r g2 => AnsL kk r g2 ∧ Qy [179] [0] g g2) X') X := by
  have hw := wb.1.1
  have w1 := w.1.1
  have bad : AnsL 1 0 (mx_up (mx_up g 99 0 0) 99 0 1) ∧ Qy [179] [0] g (mx_up (mx_up g 99 0 0) 99 0 1) := by
    have := qy_bad (S := [179]) (F := [0]) (Ch.rf g) (fun z => z) (by decide) 1 (by omega)
    exact ⟨⟨this.1.1, this.1.2.1, fun z => absurd z (by decide)⟩, this.2⟩
  -- the class refuses: the reference too
  have no : ¬ ((0 ≤ a ∧ a ≤ g 9 1 - 1) ∧ (0 ≤ b ∧ b ≤ g 9 1 - 1)) → zC T (d + 4) 288 [mx_R 99, mx_I a, mx_I b] g (fun r g2 => AnsL 1 r g2 ∧ Qy [179] [0] g g2) X' := by
    intro hno
    refine zX12_hidden ?_
    rintro _ rfl
    have h' : ReB g (mx_up g 99 0 0) := wb.2.1.fr (ch_0 g 0) (by decide) (by decide)
    have wb' := wb.1
    repeat' first
      | with_reducible refine zX12_hidden_21 ?_
      | with_reducible refine zX12_hidden_85 ?_
      | with_reducible refine sX11_needFound (fun _ => ?_) (fun _ => ?_)
      | with_reducible refine sX11_needArgument (fun _ => ?_) (fun _ => ?_)
      | with_reducible refine sX11_needState (fun _ => ?_) (fun _ => ?_)
      | with_reducible refine sX11_needPlace (fun _ => ?_) (fun _ => ?_)
      | with_reducible refine nF_t ?_
      | with_reducible refine nF_f ?_
      | with_reducible refine nA_t ?_
      | with_reducible refine nA_f ?_
      | with_reducible refine nS_t ?_
      | with_reducible refine nS_f ?_
      | with_reducible refine nP_t ?_
      | with_reducible refine nP_f ?_
      | with_reducible refine sX11_isTown (by omega) (by omega) ?_
      | with_reducible refine sX11_isBroker (by omega) (by omega) ?_
      | with_reducible refine sX11_isWord (by omega) (by omega) ?_
      | with_reducible refine sX11_isCoin (by omega) ?_
      | with_reducible refine sX11_isDay (by omega) ?_
      | with_reducible refine sX11_isTray (by omega) ?_
      | with_reducible refine sX12_isTray (by omega) ?_
      | with_reducible refine sX11_within (by omega) (by omega) (by omega) ?_
      | with_reducible refine sX12_isTownC (by assumption) (by assumption) (by omega) ?_
      | with_reducible refine sX12_isBrokerC (by assumption) (by assumption) (by omega) ?_
      | with_reducible refine sX12_isCoin (by omega) ?_
      | with_reducible refine sX12_isDay (by omega) ?_
      | with_reducible refine sX12_withinW (by omega) (by omega) (by omega) ?_
      | with_reducible refine sX12_fails ?_
      | with_reducible refine b_eq (fun _ => ?_) (fun _ => ?_)
      | with_reducible refine b_ne (fun _ => ?_) (fun _ => ?_)
      | with_reducible refine c_lt (by omega) (by omega) (fun _ => ?_) (fun _ => ?_)
      | with_reducible refine c_le (by omega) (by omega) (fun _ => ?_) (fun _ => ?_)
      | with_reducible refine c_eq (by omega) (by omega) (fun _ => ?_) (fun _ => ?_)
      | with_reducible refine c_ne (by omega) (by omega) (fun _ => ?_) (fun _ => ?_)
      | with_reducible refine l_gt (by omega) (by omega) (fun _ => ?_) (fun _ => ?_)
      | with_reducible refine l_lt (by omega) (by omega) (fun _ => ?_) (fun _ => ?_)
      | with_reducible refine l_ge (by omega) (by omega) (fun _ => ?_) (fun _ => ?_)
      | with_reducible refine l_le (by omega) (by omega) (fun _ => ?_) (fun _ => ?_)
      | with_reducible refine l_eq (by omega) (by omega) (fun _ => ?_) (fun _ => ?_)
      | with_reducible refine l_ne (by omega) (by omega) (fun _ => ?_) (fun _ => ?_)
      | refine ⟨by decide, by decide, ?_⟩
      | fail
    all_goals first | (rw [w32_0]; exact bad) | (exfalso; omega)
  have yes : (0 ≤ a ∧ a ≤ g 9 1 - 1) ∧ (0 ≤ b ∧ b ≤ g 9 1 - 1) → zC T (d + 4) 288 [mx_R 99, mx_I a, mx_I b] (mx_up g 179 0 (g 25 (a * 12 + b).toNat)) (fun r g2 => AnsL 0 r g2 ∧ Qy [179] [0] g g2) X' := by
    intro hyes
    have c1 : Ch [179] [0] g (mx_up g 179 0 (g 25 (a * 12 + b).toNat)) := (Ch.rf g).up (by decide) (by decide)
    refine zX12_hidden ?_
    intro g1 eg1
    have c2 : Ch [179] [0] g g1 := by rw [eg1]; exact c1.up9 (by decide)
    have h' : ReB g g1 := wb.2.1.fr c2 (by decide) (by decide)
    have he : ReE g g1 := w.2.2.1.fr c2 (by decide) (by decide)
    have wb' := wb.1
    obtain ⟨a', ea'⟩ := Int.eq_ofNat_of_zero_le hyes.1.1
    obtain ⟨b', eb'⟩ := Int.eq_ofNat_of_zero_le hyes.2.1
    have hid := w.2.2.2.2.2.1 a' b' (by omega) (by omega)
    have main : ∀ i : Nat, i ≤ (g 15 2).toNat → aX12_hidden T (d + 3) (fun r g2 => AnsL 0 r g2 ∧ Qy [179] [0] g g2) X' 33 [some (mx_R 99), some (mx_I a), some (mx_I b), some (mx_J (sumN (hidR g a' b') i)), none, some (mx_I (i : Int))] [] g1 (0, 0) := by
      refine upto ?_ (fun i hi ih => ?_)
      · refine zX12_hidden_33 ?_
        rw [he.1]
        first | with_reducible refine c_lt ?_ ?_ (fun hi2 => ?_) (fun hi2 => ?_) | with_reducible refine c_le ?_ ?_ (fun hi2 => ?_) (fun hi2 => ?_) | with_reducible refine c_eq ?_ ?_ (fun hi2 => ?_) (fun hi2 => ?_) | with_reducible refine c_ne ?_ ?_ (fun hi2 => ?_) (fun hi2 => ?_)
        · omega
        · omega
        · refine ⟨⟨by omega, by rw [eg1, up_s], fun _ => ?_⟩, c2, fun z => z.fr c2 (by decide)⟩
          rw [eg1, up_q (by decide), up_s, show (a * 12 + b).toNat = a' * 12 + b' by omega, hid]
        · omega
      · have ri := he.2 i (by omega)
        have wi := w.1.2.1 i (by omega)
        have ws := w.2.2.2.2.2.2 i (by omega)
        have e118 : g1 118 = g 118 := c2.1 118 (by decide) (by decide)
        have rg := w.2.2.1.2 i (by omega)
        have fin : ∀ v : Int, hidR g a' b' i = v → aX12_hidden T (d + 3) (fun r g2 => AnsL 0 r g2 ∧ Qy [179] [0] g g2) X' 85 [some (mx_R 99), some (mx_I a), some (mx_I b), some (mx_J (sumN (hidR g a' b') i + v)), none, some (mx_I (i : Int))] [] g1 (0, 0) := by
          intro v hv
          refine zX12_hidden_85 ?_
          rw [← hv]
          exact ih
        have zero : ¬ (g 117 i = 2 ∧ g 113 i = a' ∧ g 114 i = b') → aX12_hidden T (d + 3) (fun r g2 => AnsL 0 r g2 ∧ Qy [179] [0] g g2) X' 85 [some (mx_R 99), some (mx_I a), some (mx_I b), some (mx_J (sumN (hidR g a' b') i)), none, some (mx_I (i : Int))] [] g1 (0, 0) := by
          intro z
          have := fin 0 (if_neg z)
          rw [Int.add_zero] at this
          exact this
        refine zX12_hidden_33 ?_
        rw [he.1]
        first | with_reducible refine c_lt ?_ ?_ (fun hi2 => ?_) (fun hi2 => ?_) | with_reducible refine c_le ?_ ?_ (fun hi2 => ?_) (fun hi2 => ?_) | with_reducible refine c_eq ?_ ?_ (fun hi2 => ?_) (fun hi2 => ?_) | with_reducible refine c_ne ?_ ?_ (fun hi2 => ?_) (fun hi2 => ?_)
        · omega
        · omega
        · omega
        · refine s_inN ?_ (fun ea => ?_)
          · omega
          try simp only [ea]
          clear ea
          rw [ri.2.2.2.2.2.2]
          first | with_reducible refine c_lt ?_ ?_ (fun z1 => ?_) (fun z1 => ?_) | with_reducible refine c_le ?_ ?_ (fun z1 => ?_) (fun z1 => ?_) | with_reducible refine c_eq ?_ ?_ (fun z1 => ?_) (fun z1 => ?_) | with_reducible refine c_ne ?_ ?_ (fun z1 => ?_) (fun z1 => ?_)
          · omega
          · omega
          · exact zero (by omega)
          · refine s_inN ?_ (fun ea => ?_)
            · omega
            try simp only [ea]
            clear ea
            rw [ri.2.2.1]
            first | with_reducible refine c_lt ?_ ?_ (fun z2 => ?_) (fun z2 => ?_) | with_reducible refine c_le ?_ ?_ (fun z2 => ?_) (fun z2 => ?_) | with_reducible refine c_eq ?_ ?_ (fun z2 => ?_) (fun z2 => ?_) | with_reducible refine c_ne ?_ ?_ (fun z2 => ?_) (fun z2 => ?_)
            · omega
            · omega
            · exact zero (by omega)
            · refine s_inN ?_ (fun ea => ?_)
              · omega
              try simp only [ea]
              clear ea
              rw [ri.2.2.2.1]
              first | with_reducible refine c_lt ?_ ?_ (fun z3 => ?_) (fun z3 => ?_) | with_reducible refine c_le ?_ ?_ (fun z3 => ?_) (fun z3 => ?_) | with_reducible refine c_eq ?_ ?_ (fun z3 => ?_) (fun z3 => ?_) | with_reducible refine c_ne ?_ ?_ (fun z3 => ?_) (fun z3 => ?_)
              · omega
              · omega
              · exact zero (by omega)
              · refine s_inN ?_ (fun ea => ?_)
                · omega
                try simp only [ea]
                clear ea
                rw [e118]
                exact fin _ (if_pos (by omega))
    repeat' first
      | with_reducible refine zX12_hidden_21 ?_
      | with_reducible refine zX12_hidden_85 ?_
      | with_reducible refine sX11_needFound (fun _ => ?_) (fun _ => ?_)
      | with_reducible refine sX11_needArgument (fun _ => ?_) (fun _ => ?_)
      | with_reducible refine sX11_needState (fun _ => ?_) (fun _ => ?_)
      | with_reducible refine sX11_needPlace (fun _ => ?_) (fun _ => ?_)
      | with_reducible refine nF_t ?_
      | with_reducible refine nF_f ?_
      | with_reducible refine nA_t ?_
      | with_reducible refine nA_f ?_
      | with_reducible refine nS_t ?_
      | with_reducible refine nS_f ?_
      | with_reducible refine nP_t ?_
      | with_reducible refine nP_f ?_
      | with_reducible refine sX11_isTown (by omega) (by omega) ?_
      | with_reducible refine sX11_isBroker (by omega) (by omega) ?_
      | with_reducible refine sX11_isWord (by omega) (by omega) ?_
      | with_reducible refine sX11_isCoin (by omega) ?_
      | with_reducible refine sX11_isDay (by omega) ?_
      | with_reducible refine sX11_isTray (by omega) ?_
      | with_reducible refine sX12_isTray (by omega) ?_
      | with_reducible refine sX11_within (by omega) (by omega) (by omega) ?_
      | with_reducible refine sX12_isTownC (by assumption) (by assumption) (by omega) ?_
      | with_reducible refine sX12_isBrokerC (by assumption) (by assumption) (by omega) ?_
      | with_reducible refine sX12_isCoin (by omega) ?_
      | with_reducible refine sX12_isDay (by omega) ?_
      | with_reducible refine sX12_withinW (by omega) (by omega) (by omega) ?_
      | with_reducible refine sX12_fails ?_
      | with_reducible refine b_eq (fun _ => ?_) (fun _ => ?_)
      | with_reducible refine b_ne (fun _ => ?_) (fun _ => ?_)
      | with_reducible refine c_lt (by omega) (by omega) (fun _ => ?_) (fun _ => ?_)
      | with_reducible refine c_le (by omega) (by omega) (fun _ => ?_) (fun _ => ?_)
      | with_reducible refine c_eq (by omega) (by omega) (fun _ => ?_) (fun _ => ?_)
      | with_reducible refine c_ne (by omega) (by omega) (fun _ => ?_) (fun _ => ?_)
      | with_reducible refine l_gt (by omega) (by omega) (fun _ => ?_) (fun _ => ?_)
      | with_reducible refine l_lt (by omega) (by omega) (fun _ => ?_) (fun _ => ?_)
      | with_reducible refine l_ge (by omega) (by omega) (fun _ => ?_) (fun _ => ?_)
      | with_reducible refine l_le (by omega) (by omega) (fun _ => ?_) (fun _ => ?_)
      | with_reducible refine l_eq (by omega) (by omega) (fun _ => ?_) (fun _ => ?_)
      | with_reducible refine l_ne (by omega) (by omega) (fun _ => ?_) (fun _ => ?_)
      | refine ⟨by decide, by decide, ?_⟩
      | fail
    all_goals first | (exfalso; omega) | exact main 0 (by omega)
  refine wL_hidden (zX11_hidden ?_)
  repeat' first
    | with_reducible refine zX11_hidden_20 ?_
    | with_reducible refine zX11_hidden_21 ?_
    | with_reducible refine sX11_needFound (fun _ => ?_) (fun _ => ?_)
    | with_reducible refine sX11_needArgument (fun _ => ?_) (fun _ => ?_)
    | with_reducible refine sX11_needState (fun _ => ?_) (fun _ => ?_)
    | with_reducible refine sX11_needPlace (fun _ => ?_) (fun _ => ?_)
    | with_reducible refine nF_t ?_
    | with_reducible refine nF_f ?_
    | with_reducible refine nA_t ?_
    | with_reducible refine nA_f ?_
    | with_reducible refine nS_t ?_
    | with_reducible refine nS_f ?_
    | with_reducible refine nP_t ?_
    | with_reducible refine nP_f ?_
    | with_reducible refine sX11_isTown (by omega) (by omega) ?_
    | with_reducible refine sX11_isBroker (by omega) (by omega) ?_
    | with_reducible refine sX11_isWord (by omega) (by omega) ?_
    | with_reducible refine sX11_isCoin (by omega) ?_
    | with_reducible refine sX11_isDay (by omega) ?_
    | with_reducible refine sX11_isTray (by omega) ?_
    | with_reducible refine sX12_isTray (by omega) ?_
    | with_reducible refine sX11_within (by omega) (by omega) (by omega) ?_
    | with_reducible refine sX12_isTownC (by assumption) (by assumption) (by omega) ?_
    | with_reducible refine sX12_isBrokerC (by assumption) (by assumption) (by omega) ?_
    | with_reducible refine sX12_isCoin (by omega) ?_
    | with_reducible refine sX12_isDay (by omega) ?_
    | with_reducible refine sX12_withinW (by omega) (by omega) (by omega) ?_
    | with_reducible refine sX12_fails ?_
    | with_reducible refine b_eq (fun _ => ?_) (fun _ => ?_)
    | with_reducible refine b_ne (fun _ => ?_) (fun _ => ?_)
    | with_reducible refine c_lt (by omega) (by omega) (fun _ => ?_) (fun _ => ?_)
    | with_reducible refine c_le (by omega) (by omega) (fun _ => ?_) (fun _ => ?_)
    | with_reducible refine c_eq (by omega) (by omega) (fun _ => ?_) (fun _ => ?_)
    | with_reducible refine c_ne (by omega) (by omega) (fun _ => ?_) (fun _ => ?_)
    | with_reducible refine l_gt (by omega) (by omega) (fun _ => ?_) (fun _ => ?_)
    | with_reducible refine l_lt (by omega) (by omega) (fun _ => ?_) (fun _ => ?_)
    | with_reducible refine l_ge (by omega) (by omega) (fun _ => ?_) (fun _ => ?_)
    | with_reducible refine l_le (by omega) (by omega) (fun _ => ?_) (fun _ => ?_)
    | with_reducible refine l_eq (by omega) (by omega) (fun _ => ?_) (fun _ => ?_)
    | with_reducible refine l_ne (by omega) (by omega) (fun _ => ?_) (fun _ => ?_)
    | refine ⟨by decide, by decide, ?_⟩
    | fail
  all_goals first | exact ⟨rfl, no (by omega)⟩ | skip
  · refine s_in (by omega) (fun ea => ?_)
    rw [ea]
    exact yes (by omega)
