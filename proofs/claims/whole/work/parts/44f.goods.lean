/-! the call goods on both sides -/
theorem C_goods {T : Nat × (Nat → Int32)} {d : Nat} {X X' : mz_X} {g : mz_S} {a b co kd n p : Int} (wl : IL g) (wc : WfC g) (wb : IB g) (w : IE g) (ha : R32 a) (hb : R32 b) (hc : R32 co) (hk : R32 kd) (hn : R32 n) (hp : R32 p) : zC T (d + 5) 372 [mx_R 0, mx_I a, mx_I b, mx_I co, mx_I kd, mx_I n, mx_I p, mx_R 179] g (fun kk g1 => zC T (d + 5) 287 [mx_R 99, mx_I a, mx_I b, mx_I co, mx_I kd, mx_I n, mx_I p] g1 (fun r g2 => AnsI kk r g2 ∧ IE g2 ∧ Qy (8 :: 25 :: 179 :: entC) [0, 16] g g2) X') X := by
  have hw := wb.1.1
  have hw2 := w.1.1
  have wb' := wb.1
  have wg := w.1
  have bad : ∀ n : Int, 1 ≤ n ∧ n ≤ 3 → AnsI n 0 (mx_up (mx_up g 99 0 0) 99 0 n) ∧ IE (mx_up (mx_up g 99 0 0) 99 0 n) ∧ Qy (8 :: 25 :: 179 :: entC) [0, 16] g (mx_up (mx_up g 99 0 0) 99 0 n) := fun n hn =>
    ⟨⟨by omega, up_s, fun z => by omega⟩, w.fr (ch_bad g n) (by decide) (by decide), (ch_bad g n).sub (by decide) (by decide), fun z => z.fr (ch_bad g n) (by decide)⟩
  -- the reference, up to the first change
  have ref : ∀ (G : mz_S) (R : mz_K), ReB g G → ReE g G → (¬ ((0 ≤ a ∧ a ≤ g 9 1 - 1) ∧ (0 ≤ b ∧ b ≤ g 9 1 - 1)) → R 0 (mx_up (mx_up G 99 0 0) 99 0 1)) → ((0 ≤ a ∧ a ≤ g 9 1 - 1) ∧ (0 ≤ b ∧ b ≤ g 9 1 - 1) → ¬ (¬ a = b ∧ (0 ≤ co ∧ co ≤ 3) ∧ (0 ≤ kd ∧ kd ≤ 3) ∧ (1 ≤ n ∧ n ≤ 100) ∧ (0 ≤ p ∧ p ≤ 1000)) → R 0 (mx_up (mx_up G 99 0 0) 99 0 2)) → ((0 ≤ a ∧ a ≤ g 9 1 - 1) ∧ (0 ≤ b ∧ b ≤ g 9 1 - 1) → (¬ a = b ∧ (0 ≤ co ∧ co ≤ 3) ∧ (0 ≤ kd ∧ kd ≤ 3) ∧ (1 ≤ n ∧ n ≤ 100) ∧ (0 ≤ p ∧ p ≤ 1000)) → ¬ (g 13 a.toNat = -1 ∧ g 13 b.toNat = -1 ∧ g 15 2 < 400) → R 0 (mx_up (mx_up G 99 0 0) 99 0 3)) → ((0 ≤ a ∧ a ≤ g 9 1 - 1) ∧ (0 ≤ b ∧ b ≤ g 9 1 - 1) → (¬ a = b ∧ (0 ≤ co ∧ co ≤ 3) ∧ (0 ≤ kd ∧ kd ≤ 3) ∧ (1 ≤ n ∧ n ≤ 100) ∧ (0 ≤ p ∧ p ≤ 1000)) → (g 13 a.toNat = -1 ∧ g 13 b.toNat = -1 ∧ g 15 2 < 400) → ∀ S, S = entS (mx_up G 99 0 0) (g 10 b.toNat) a b co (-(n * p)) 2 → zC T (d + 4) 224 [mx_R 99, mx_J (n * p), mx_I co, mx_I (S 106 b.toNat), mx_I (S 99 1)] S (fun r11 g11 => mx_in b 12 ∧ mx_in ((4 * (g11 106 b.toNat)) + kd) 32 ∧ mx_in (g 15 2) 400 ∧ (∀ g12 : mz_S, g12 = mx_up g11 118 (g 15 2).toNat (r11 - (w32 (n * (g11 147 (mx_at ((4 * (g11 106 b.toNat)) + kd)))))) → zC T (d + 4) 233 [mx_R 99, mx_I a, mx_I b, mx_I co] g12 (fun r13 g13 => R r13 g13) X')) X') → zC T (d + 5) 287 [mx_R 99, mx_I a, mx_I b, mx_I co, mx_I kd, mx_I n, mx_I p] G R X' := by
    intro G R rb re k1 k2 k3 k4
    refine zX12_goods ?_
    intro g1 e1
    rw [← e1] at k1 k2 k3 k4
    have rb : ReB g g1 := by rw [e1]; exact rb.fr (ch_0 G 0) (by decide) (by decide)
    have re : ReE g g1 := by rw [e1]; exact re.fr (ch_0 G 0) (by decide) (by decide)
    repeat' first
      | with_reducible refine zX12_goods_21 ?_
      | with_reducible refine zX12_goods_78 ?_
      | with_reducible refine zX12_goods_110 ?_
      | with_reducible refine sX12_hasFallen wb' rb (by omega) ?_
      | with_reducible refine sX11_needFound (fun _ => ?_) (fun _ => ?_)
      | with_reducible refine sX11_needArgument (fun _ => ?_) (fun _ => ?_)
      | with_reducible refine sX11_needState (fun _ => ?_) (fun _ => ?_)
      | with_reducible refine sX11_needPlace (fun _ => ?_) (fun _ => ?_)
      | with_reducible refine nF_t ?_
      | with_reducible refine nF_f ?_
      | with_reducible refine nA_t ?_
      | with_reducible refine nA_f ?_
      | with_reducible refine nS_t ?_
      | with_reducible refine nS_f ?_
      | with_reducible refine nP_t ?_
      | with_reducible refine nP_f ?_
      | with_reducible refine sX11_isTown (by omega) (by omega) ?_
      | with_reducible refine sX11_isBroker (by omega) (by omega) ?_
      | with_reducible refine sX11_isWord (by omega) (by omega) ?_
      | with_reducible refine sX11_isCoin (by omega) ?_
      | with_reducible refine sX11_isDay (by omega) ?_
      | with_reducible refine sX11_isTray (by omega) ?_
      | with_reducible refine sX12_isTray (by omega) ?_
      | with_reducible refine sX11_within (by omega) (by omega) (by omega) ?_
      | with_reducible refine sX12_isTownC (by assumption) (by assumption) (by omega) ?_
      | with_reducible refine sX12_isBrokerC (by assumption) (by assumption) (by omega) ?_
      | with_reducible refine sX12_isCoin (by omega) ?_
      | with_reducible refine sX12_isDay (by omega) ?_
      | with_reducible refine sX12_withinW (by omega) (by omega) (by omega) ?_
      | with_reducible refine sX12_fails ?_
      | with_reducible refine b_eq (fun _ => ?_) (fun _ => ?_)
      | with_reducible refine b_ne (fun _ => ?_) (fun _ => ?_)
      | with_reducible refine c_lt (by omega) (by omega) (fun _ => ?_) (fun _ => ?_)
      | with_reducible refine c_le (by omega) (by omega) (fun _ => ?_) (fun _ => ?_)
      | with_reducible refine c_eq (by omega) (by omega) (fun _ => ?_) (fun _ => ?_)
      | with_reducible refine c_ne (by omega) (by omega) (fun _ => ?_) (fun _ => ?_)
      | with_reducible refine l_gt (by omega) (by omega) (fun _ => ?_) (fun _ => ?_)
      | with_reducible refine l_lt (by omega) (by omega) (fun _ => ?_) (fun _ => ?_)
      | with_reducible refine l_ge (by omega) (by omega) (fun _ => ?_) (fun _ => ?_)
      | with_reducible refine l_le (by omega) (by omega) (fun _ => ?_) (fun _ => ?_)
      | with_reducible refine l_eq (by omega) (by omega) (fun _ => ?_) (fun _ => ?_)
      | with_reducible refine l_ne (by omega) (by omega) (fun _ => ?_) (fun _ => ?_)
      | refine ⟨by decide, by decide, ?_⟩
      | fail
    any_goals first | exact k1 (by omega) | exact k2 (by omega) (by omega) | exact k3 (by omega) (by omega) (by omega)
    rw [re.1]
    first | with_reducible refine c_lt ?_ ?_ (fun z1 => ?_) (fun z1 => ?_) | with_reducible refine c_le ?_ ?_ (fun z1 => ?_) (fun z1 => ?_) | with_reducible refine c_eq ?_ ?_ (fun z1 => ?_) (fun z1 => ?_) | with_reducible refine c_ne ?_ ?_ (fun z1 => ?_) (fun z1 => ?_)
    · omega
    · omega
    · refine s_in ?_ (fun ea => ?_)
      · omega
      try simp only [ea]
      clear ea
      have hnp := np_rng (n := n) (p := p) (by omega) (by omega)
      rw [(rb.2.1 b.toNat (by omega)).1, Int.neg_mul, w32_of (n := -(n * p)) (by omega) (by omega), w32_of (n := n * p) (by omega) (by omega)]
      refine sX12_enter (by rw [re.1]; omega) ?_
      refine s_in ?_ (fun ea => ?_)
      · omega
      try simp only [ea]
      clear ea
      have k := k4 (by omega) (by omega) (by omega) _ rfl
      have e16 : entS g1 (g 10 b.toNat) a b co (-(n * p)) 2 99 16 - 1 = g 15 2 := by unfold entS; rw [up_s, re.1]; omega
      rw [e16, show mx_at (g 15 2) = (g 15 2).toNat from zat (by omega) (by omega)]
      exact k
    · exact zX12_goods_110 (sX12_fails (k3 (by omega) (by omega) (by omega)))
  refine wL_goods (zX11_goods ?_)
  have n1 : ¬ ((0 ≤ a ∧ a ≤ g 9 1 - 1) ∧ (0 ≤ b ∧ b ≤ g 9 1 - 1)) → zC T (d + 5) 287 [mx_R 99, mx_I a, mx_I b, mx_I co, mx_I kd, mx_I n, mx_I p] g (fun r g2 => AnsI 1 r g2 ∧ IE g2 ∧ Qy (8 :: 25 :: 179 :: entC) [0, 16] g g2) X' := fun z => ref g _ wb.2.1 w.2.2.1 (fun _ => bad 1 (by omega)) (fun z2 => absurd z2 z) (fun z2 => absurd z2 z) (fun z2 => absurd z2 z)
  have n2 : (0 ≤ a ∧ a ≤ g 9 1 - 1) ∧ (0 ≤ b ∧ b ≤ g 9 1 - 1) → ¬ (¬ a = b ∧ (0 ≤ co ∧ co ≤ 3) ∧ (0 ≤ kd ∧ kd ≤ 3) ∧ (1 ≤ n ∧ n ≤ 100) ∧ (0 ≤ p ∧ p ≤ 1000)) → zC T (d + 5) 287 [mx_R 99, mx_I a, mx_I b, mx_I co, mx_I kd, mx_I n, mx_I p] g (fun r g2 => AnsI 2 r g2 ∧ IE g2 ∧ Qy (8 :: 25 :: 179 :: entC) [0, 16] g g2) X' := fun z z2 => ref g _ wb.2.1 w.2.2.1 (fun z3 => absurd z z3) (fun _ _ => bad 2 (by omega)) (fun _ z3 => absurd z3 z2) (fun _ z3 => absurd z3 z2)
  have n3 : (0 ≤ a ∧ a ≤ g 9 1 - 1) ∧ (0 ≤ b ∧ b ≤ g 9 1 - 1) → (¬ a = b ∧ (0 ≤ co ∧ co ≤ 3) ∧ (0 ≤ kd ∧ kd ≤ 3) ∧ (1 ≤ n ∧ n ≤ 100) ∧ (0 ≤ p ∧ p ≤ 1000)) → ¬ (g 13 a.toNat = -1 ∧ g 13 b.toNat = -1 ∧ g 15 2 < 400) → zC T (d + 5) 287 [mx_R 99, mx_I a, mx_I b, mx_I co, mx_I kd, mx_I n, mx_I p] g (fun r g2 => AnsI 3 r g2 ∧ IE g2 ∧ Qy (8 :: 25 :: 179 :: entC) [0, 16] g g2) X' := fun z z2 z3 => ref g _ wb.2.1 w.2.2.1 (fun z4 => absurd z z4) (fun _ z4 => absurd z2 z4) (fun _ _ _ => bad 3 (by omega)) (fun _ _ z4 => absurd z4 z3)
  have L1 : ¬ ((0 ≤ a ∧ a ≤ g 9 1 - 1) ∧ (0 ≤ b ∧ b ≤ g 9 1 - 1)) → _ := fun z => Or.inl (b := False) (n1 z)
  have f1 : ∀ x : Int, 0 ≤ x ∧ x ≤ g 9 1 - 1 → -1 ≤ g 13 x.toNat ∧ g 13 x.toNat ≤ 999 := fun x z => (wb'.2.1 x.toNat (by omega)).2.2.2
  repeat' first
    | with_reducible refine zX11_goods_20 ?_
    | with_reducible refine zX11_goods_21 ?_
    | with_reducible refine zX11_goods_73 ?_
    | with_reducible refine zX11_goods_74 ?_
    | with_reducible refine zX11_goods_114 ?_
    | with_reducible refine zX11_goods_115 ?_
    | with_reducible refine sX11_needFound (fun _ => ?_) (fun _ => ?_)
    | with_reducible refine sX11_needArgument (fun _ => ?_) (fun _ => ?_)
    | with_reducible refine sX11_needState (fun _ => ?_) (fun _ => ?_)
    | with_reducible refine sX11_needPlace (fun _ => ?_) (fun _ => ?_)
    | with_reducible refine nF_t ?_
    | with_reducible refine nF_f ?_
    | with_reducible refine nA_t ?_
    | with_reducible refine nA_f ?_
    | with_reducible refine nS_t ?_
    | with_reducible refine nS_f ?_
    | with_reducible refine nP_t ?_
    | with_reducible refine nP_f ?_
    | with_reducible refine sX11_isTown (by omega) (by omega) ?_
    | with_reducible refine sX11_isBroker (by omega) (by omega) ?_
    | with_reducible refine sX11_isWord (by omega) (by omega) ?_
    | with_reducible refine sX11_isCoin (by omega) ?_
    | with_reducible refine sX11_isDay (by omega) ?_
    | with_reducible refine sX11_isTray (by omega) ?_
    | with_reducible refine sX12_isTray (by omega) ?_
    | with_reducible refine sX11_within (by omega) (by omega) (by omega) ?_
    | with_reducible refine sX12_isTownC (by assumption) (by assumption) (by omega) ?_
    | with_reducible refine sX12_isBrokerC (by assumption) (by assumption) (by omega) ?_
    | with_reducible refine sX12_isCoin (by omega) ?_
    | with_reducible refine sX12_isDay (by omega) ?_
    | with_reducible refine sX12_withinW (by omega) (by omega) (by omega) ?_
    | with_reducible refine sX12_fails ?_
    | with_reducible refine b_eq (fun _ => ?_) (fun _ => ?_)
    | with_reducible refine b_ne (fun _ => ?_) (fun _ => ?_)
    | with_reducible refine c_lt (by omega) (by omega) (fun _ => ?_) (fun _ => ?_)
    | with_reducible refine c_le (by omega) (by omega) (fun _ => ?_) (fun _ => ?_)
    | with_reducible refine c_eq (by omega) (by omega) (fun _ => ?_) (fun _ => ?_)
    | with_reducible refine c_ne (by omega) (by omega) (fun _ => ?_) (fun _ => ?_)
    | with_reducible refine l_gt (by omega) (by omega) (fun _ => ?_) (fun _ => ?_)
    | with_reducible refine l_lt (by omega) (by omega) (fun _ => ?_) (fun _ => ?_)
    | with_reducible refine l_ge (by omega) (by omega) (fun _ => ?_) (fun _ => ?_)
    | with_reducible refine l_le (by omega) (by omega) (fun _ => ?_) (fun _ => ?_)
    | with_reducible refine l_eq (by omega) (by omega) (fun _ => ?_) (fun _ => ?_)
    | with_reducible refine l_ne (by omega) (by omega) (fun _ => ?_) (fun _ => ?_)
    | refine ⟨by decide, by decide, ?_⟩
    | fail
  all_goals first | exact Or.inl ⟨rfl, n1 (by omega)⟩ | exact Or.inr (Or.inl ⟨rfl, n2 (by omega) (by omega)⟩) | skip
  have h1 : (0 ≤ a ∧ a ≤ g 9 1 - 1) ∧ (0 ≤ b ∧ b ≤ g 9 1 - 1) := by omega
  have h2 : ¬ a = b ∧ (0 ≤ co ∧ co ≤ 3) ∧ (0 ≤ kd ∧ kd ≤ 3) ∧ (1 ≤ n ∧ n ≤ 100) ∧ (0 ≤ p ∧ p ≤ 1000) := by omega
  have r1 := f1 a h1.1
  have r2 := f1 b h1.2
  repeat' first
    | with_reducible refine zX11_goods_20 ?_
    | with_reducible refine zX11_goods_21 ?_
    | with_reducible refine zX11_goods_73 ?_
    | with_reducible refine zX11_goods_74 ?_
    | with_reducible refine zX11_goods_114 ?_
    | with_reducible refine zX11_goods_115 ?_
    | with_reducible refine sX0_hasFallen (by omega) (by omega) ?_
    | with_reducible refine sX6_hasRoom (by omega) (by omega) ?_
    | with_reducible refine sX11_needFound (fun _ => ?_) (fun _ => ?_)
    | with_reducible refine sX11_needArgument (fun _ => ?_) (fun _ => ?_)
    | with_reducible refine sX11_needState (fun _ => ?_) (fun _ => ?_)
    | with_reducible refine sX11_needPlace (fun _ => ?_) (fun _ => ?_)
    | with_reducible refine nF_t ?_
    | with_reducible refine nF_f ?_
    | with_reducible refine nA_t ?_
    | with_reducible refine nA_f ?_
    | with_reducible refine nS_t ?_
    | with_reducible refine nS_f ?_
    | with_reducible refine nP_t ?_
    | with_reducible refine nP_f ?_
    | with_reducible refine sX11_isTown (by omega) (by omega) ?_
    | with_reducible refine sX11_isBroker (by omega) (by omega) ?_
    | with_reducible refine sX11_isWord (by omega) (by omega) ?_
    | with_reducible refine sX11_isCoin (by omega) ?_
    | with_reducible refine sX11_isDay (by omega) ?_
    | with_reducible refine sX11_isTray (by omega) ?_
    | with_reducible refine sX12_isTray (by omega) ?_
    | with_reducible refine sX11_within (by omega) (by omega) (by omega) ?_
    | with_reducible refine sX12_isTownC (by assumption) (by assumption) (by omega) ?_
    | with_reducible refine sX12_isBrokerC (by assumption) (by assumption) (by omega) ?_
    | with_reducible refine sX12_isCoin (by omega) ?_
    | with_reducible refine sX12_isDay (by omega) ?_
    | with_reducible refine sX12_withinW (by omega) (by omega) (by omega) ?_
    | with_reducible refine sX12_fails ?_
    | with_reducible refine b_eq (fun _ => ?_) (fun _ => ?_)
    | with_reducible refine b_ne (fun _ => ?_) (fun _ => ?_)
    | with_reducible refine c_lt (by omega) (by omega) (fun _ => ?_) (fun _ => ?_)
    | with_reducible refine c_le (by omega) (by omega) (fun _ => ?_) (fun _ => ?_)
    | with_reducible refine c_eq (by omega) (by omega) (fun _ => ?_) (fun _ => ?_)
    | with_reducible refine c_ne (by omega) (by omega) (fun _ => ?_) (fun _ => ?_)
    | with_reducible refine l_gt (by omega) (by omega) (fun _ => ?_) (fun _ => ?_)
    | with_reducible refine l_lt (by omega) (by omega) (fun _ => ?_) (fun _ => ?_)
    | with_reducible refine l_ge (by omega) (by omega) (fun _ => ?_) (fun _ => ?_)
    | with_reducible refine l_le (by omega) (by omega) (fun _ => ?_) (fun _ => ?_)
    | with_reducible refine l_eq (by omega) (by omega) (fun _ => ?_) (fun _ => ?_)
    | with_reducible refine l_ne (by omega) (by omega) (fun _ => ?_) (fun _ => ?_)
    | refine ⟨by decide, by decide, ?_⟩
    | fail
  all_goals first | exact Or.inr (Or.inr ⟨rfl, n3 h1 h2 (by omega)⟩) | skip
  have h3 : g 13 a.toNat = -1 ∧ g 13 b.toNat = -1 ∧ g 15 2 < 400 := by omega
  refine sX6_sendGoods ⟨wl.1, wc⟩ wb' wg (by omega) (by omega) (by omega) (by omega) (by omega) (by omega) (by omega) (fun g2 s w2 => sX6_netI (by omega) (by omega) (by omega) ?_)
  obtain ⟨a', rfl⟩ := Int.eq_ofNat_of_zero_le h1.1.1
  obtain ⟨b', rfl⟩ := Int.eq_ofNat_of_zero_le h1.2.1
  obtain ⟨co', rfl⟩ := Int.eq_ofNat_of_zero_le h2.2.1.1
  obtain ⟨m, em⟩ := Int.eq_ofNat_of_zero_le hw2.1
  have hnp := np_rng (n := n) (p := p) (by omega) (by omega)
  have hmk := wg.2.2.2 (g 10 b' * 4 + kd).toNat (by have := (wb'.2.1 b' (by omega)).1; omega)
  have ht := (wb'.2.1 b' (by omega)).1
  simp only [Int.toNat_natCast] at s h3 ⊢
  obtain ⟨S, eS⟩ : ∃ S, S = mx_up g2 25 (((a' : Int) * 12 + (b' : Int)).toNat) (g 25 (((a' : Int) * 12 + (b' : Int)).toNat) + hidV g b' co' kd n p) := ⟨_, rfl⟩
  rw [← eS]
  obtain ⟨g1, eg1⟩ : ∃ g1, g1 = mx_up S 179 0 (w32 (netC S a' b' co')) := ⟨_, rfl⟩
  rw [← eg1]
  have rc := recS_ch g (g 10 b') a' b' co' (-(n * p)) 2
  have c0 : Ch [8, 15, 16, 17, 18, 19, 20, 21, 22, 23] [] g g2 := (rc.sub (by decide) (by decide)).tr ((s.ch (F := [])).sub (by decide) (by decide))
  have cS : Ch [8, 15, 16, 17, 18, 19, 20, 21, 22, 23, 25] [] g S := by rw [eS]; exact (c0.sub (by decide) (by decide)).up (by decide) (by decide)
  have c1r : Ch [8, 15, 16, 17, 18, 19, 20, 21, 22, 23, 25, 179] [] g g1 := by rw [eg1]; exact (cS.sub (by decide) (by decide)).up (by decide) (by decide)
  have c1 : Ch (8 :: 25 :: 179 :: entC) [0, 16] g g1 := c1r.sub (by decide) (by decide)
  refine ref g1 _ (wb.2.1.fr c1r (by decide) (by decide)) (w.2.2.1.fr c1r (by decide) (by decide)) (fun z => absurd h1 z) (fun _ z => absurd h2 z) (fun _ _ z => absurd h3 z) (fun _ _ _ S2 eS2 => ?_)
  simp only [Int.toNat_natCast] at eS2 ⊢
  have r16 : g 99 16 = m := by rw [w.2.2.1.1, em]
  have rn : g 99 1 = g 1 0 := wl.2.2.1.1
  have c2 : Ch (8 :: 25 :: 179 :: entC) [0, 16] g S2 := by
    rw [eS2]
    unfold entS
    repeat' first | exact c1 | refine Ch.up9 ?_ (by decide) | refine Ch.up ?_ (by decide) (by decide)
  have rl2 : ReL g S2 := wl.2.2.1.fr c2 (by decide) (by decide)
  have rb2 : ReB g S2 := wb.2.1.fr c2 (by decide) (by decide)
  rw [(rb2.2.1 b' (by omega)).1, rl2.1]
  refine sX12_worth wl.1 rl2 (by omega) (by omega) ht ?_
  rw [(rb2.2.1 b' (by omega)).1, show 4 * g 10 b' + kd = g 10 b' * 4 + kd by omega, em]
  refine s_in ?_ (fun ea => ?_)
  · omega
  try simp only [ea]
  clear ea
  refine s_in ?_ (fun ea => ?_)
  · omega
  try simp only [ea]
  clear ea
  refine s_inN ?_ (fun ea => ?_)
  · omega
  try simp only [ea]
  clear ea
  intro S3 eS3
  rw [c2.1 147 (by decide) (by decide), w.2.2.2.2.1 _ (by omega)] at eS3
  have hnm := np_rng (n := n) (p := g 24 (g 10 b' * 4 + kd).toNat) (by omega) hmk
  rw [w32_of (n := n * g 24 (g 10 b' * 4 + kd).toNat) (by omega) (by omega)] at eS3
  have eh : worthC g (n * p) co' (g 10 b') - n * g 24 (g 10 b' * 4 + kd).toNat = hidV g b' co' kd n p := by unfold hidV; simp only [Int.toNat_natCast]
  rw [eh] at eS3
  have c3 : Ch (8 :: 25 :: 179 :: entC) [0, 16] g S3 := by rw [eS3]; exact c2.up (by decide) (by decide)
  have x5 : ((a' : Int) * 12 + b').toNat = a' * 12 + b' := by omega
  have hab : ¬ (a' : Int) = b' := h2.1
  have hE : IE S3 := by
    refine goodsE (a := a') (b := b') (co := co') (m := m) (n := n * p) (hv := hidV g b' co' kd n p) (x := w32 (netC S a' b' co')) wl wb w em (by omega) (by omega) (by omega) (by omega) (by omega) (by omega) s ?_
    rw [eS3, eS2, eg1, eS, x5]; rfl
  refine sX12_netI hE.1 hE.2.1 hE.2.2.1 (by omega) (by omega) (by omega) ?_
  simp only [Int.toNat_natCast]
  refine ⟨⟨by omega, ?_, fun _ => ?_⟩, hE, c3, fun _ => ?_⟩
  · rw [eS3, eS2]; simp [entS, up_at, lset]
  · have e23 : S3 23 = S 23 := by rw [eS3, eS2, eg1]; simp [entS, up_at]
    have e179 : S3 179 0 = w32 (netC S a' b' co') := by rw [eS3, eS2, eg1]; simp [entS, up_at, lset]
    rw [e179]
    unfold netC
    rw [e23]
  · have cz : Ch (25 :: 179 :: entC) [0, 16] g2 S3 := by
      rw [eS3, eS2, eg1, eS]
      unfold entS
      repeat' first | exact Ch.rf g2 | refine Ch.up9 ?_ (by decide) | refine Ch.up ?_ (by decide) (by decide)
    exact w2.2.fr cz (by decide)
