/-! the call settle -/
def setS (g : mz_S) (a b co n : Int) : mz_S := recS (mx_up (mx_up g 14 (a * 4 + co).toNat (g 14 (a * 4 + co).toNat - n)) 14 (b * 4 + co).toNat (min 10000000 (g 14 (b * 4 + co).toNat + n))) (g 10 b.toNat) a b co (-n) 1
theorem sX11_settle {T : Nat × (Nat → Int32)} {d : Nat} {Q : mz_K} {X : mz_X} {g : mz_S} {a b co n : Int} (wb : WfB g) (w : WfG g) (ha : R32 a) (hb : R32 b) (hc : R32 co) (hn : R32 n) (k1 : ¬ ((0 ≤ a ∧ a ≤ g 9 1 - 1) ∧ (0 ≤ b ∧ b ≤ g 9 1 - 1)) → X 0 g) (k2 : (0 ≤ a ∧ a ≤ g 9 1 - 1) ∧ (0 ≤ b ∧ b ≤ g 9 1 - 1) → ¬ (¬ a = b ∧ (0 ≤ co ∧ co ≤ 3) ∧ 1 ≤ n) → X 1 g) (k3 : (0 ≤ a ∧ a ≤ g 9 1 - 1) ∧ (0 ≤ b ∧ b ≤ g 9 1 - 1) → (¬ a = b ∧ (0 ≤ co ∧ co ≤ 3) ∧ 1 ≤ n) → ¬ (g 13 a.toNat = -1 ∧ g 13 b.toNat = -1 ∧ g 15 2 + 1 ≤ 400 ∧ n ≤ netC g a.toNat b.toNat co.toNat ∧ n ≤ g 14 (a * 4 + co).toNat) → X 2 g) (k4 : (0 ≤ a ∧ a ≤ g 9 1 - 1) ∧ (0 ≤ b ∧ b ≤ g 9 1 - 1) → (¬ a = b ∧ (0 ≤ co ∧ co ≤ 3) ∧ 1 ≤ n) → (g 13 a.toNat = -1 ∧ g 13 b.toNat = -1 ∧ g 15 2 + 1 ≤ 400 ∧ n ≤ netC g a.toNat b.toNat co.toNat ∧ n ≤ g 14 (a * 4 + co).toNat) → ∀ S, S = setS g a b co n → Q (netC S a.toNat b.toNat co.toNat) S) : zC T (d + 4) 182 [mx_R 0, mx_I a, mx_I b, mx_I co, mx_I n] g Q X := by
  have hw := wb.1
  have hw2 := w.1
  have hwn : w32 n = n := w32_of hn.1 hn.2
  refine zX11_settle ?_
  repeat' first
    | with_reducible refine zX11_settle_20 ?_
    | with_reducible refine zX11_settle_21 ?_
    | with_reducible refine zX11_settle_46 ?_
    | with_reducible refine zX11_settle_47 ?_
    | with_reducible refine zX11_settle_118 ?_
    | with_reducible refine zX11_settle_119 ?_
    | with_reducible refine sX11_needFound (fun _ => ?_) (fun _ => ?_)
    | with_reducible refine sX11_needArgument (fun _ => ?_) (fun _ => ?_)
    | with_reducible refine sX11_needState (fun _ => ?_) (fun _ => ?_)
    | with_reducible refine sX11_needPlace (fun _ => ?_) (fun _ => ?_)
    | with_reducible refine nF_t ?_
    | with_reducible refine nF_f ?_
    | with_reducible refine nA_t ?_
    | with_reducible refine nA_f ?_
    | with_reducible refine nS_t ?_
    | with_reducible refine nS_f ?_
    | with_reducible refine nP_t ?_
    | with_reducible refine nP_f ?_
    | with_reducible refine sX11_isTown (by omega) (by omega) ?_
    | with_reducible refine sX11_isBroker (by omega) (by omega) ?_
    | with_reducible refine sX11_isWord (by omega) (by omega) ?_
    | with_reducible refine sX11_isCoin (by omega) ?_
    | with_reducible refine sX11_isDay (by omega) ?_
    | with_reducible refine sX11_isTray (by omega) ?_
    | with_reducible refine sX12_isTray (by omega) ?_
    | with_reducible refine sX11_within (by omega) (by omega) (by omega) ?_
    | with_reducible refine sX12_isTownC (by assumption) (by assumption) (by omega) ?_
    | with_reducible refine sX12_isBrokerC (by assumption) (by assumption) (by omega) ?_
    | with_reducible refine sX12_isCoin (by omega) ?_
    | with_reducible refine sX12_isDay (by omega) ?_
    | with_reducible refine sX12_withinW (by omega) (by omega) (by omega) ?_
    | with_reducible refine sX12_fails ?_
    | with_reducible refine b_eq (fun _ => ?_) (fun _ => ?_)
    | with_reducible refine b_ne (fun _ => ?_) (fun _ => ?_)
    | with_reducible refine c_lt (by omega) (by omega) (fun _ => ?_) (fun _ => ?_)
    | with_reducible refine c_le (by omega) (by omega) (fun _ => ?_) (fun _ => ?_)
    | with_reducible refine c_eq (by omega) (by omega) (fun _ => ?_) (fun _ => ?_)
    | with_reducible refine c_ne (by omega) (by omega) (fun _ => ?_) (fun _ => ?_)
    | with_reducible refine l_gt (by omega) (by omega) (fun _ => ?_) (fun _ => ?_)
    | with_reducible refine l_lt (by omega) (by omega) (fun _ => ?_) (fun _ => ?_)
    | with_reducible refine l_ge (by omega) (by omega) (fun _ => ?_) (fun _ => ?_)
    | with_reducible refine l_le (by omega) (by omega) (fun _ => ?_) (fun _ => ?_)
    | with_reducible refine l_eq (by omega) (by omega) (fun _ => ?_) (fun _ => ?_)
    | with_reducible refine l_ne (by omega) (by omega) (fun _ => ?_) (fun _ => ?_)
    | refine ⟨by decide, by decide, ?_⟩
    | fail
  any_goals first | exact k1 (by omega) | exact k2 (by omega) (by omega)
  have h1 : (0 ≤ a ∧ a ≤ g 9 1 - 1) ∧ (0 ≤ b ∧ b ≤ g 9 1 - 1) := by omega
  have h2 : ¬ a = b ∧ (0 ≤ co ∧ co ≤ 3) ∧ 1 ≤ n := by omega
  have f1 := (wb.2.1 a.toNat (by omega)).2.2.2
  have f2 := (wb.2.1 b.toNat (by omega)).2.2.2
  have f3 := w.2.2.1 ((a.toNat * 12 + b.toNat) * 4 + co.toNat) (by omega)
  have f4 := wb.2.2 (a * 4 + co).toNat (by omega)
  have f5 := wb.2.2 (b * 4 + co).toNat (by omega)
  have f6 : -2000000000 ≤ netC g a.toNat b.toNat co.toNat ∧ netC g a.toNat b.toNat co.toNat ≤ 2000000000 := f3
  repeat' first
    | with_reducible refine zX11_settle_20 ?_
    | with_reducible refine zX11_settle_21 ?_
    | with_reducible refine zX11_settle_46 ?_
    | with_reducible refine zX11_settle_47 ?_
    | with_reducible refine zX11_settle_118 ?_
    | with_reducible refine zX11_settle_119 ?_
    | with_reducible refine sX0_hasFallen (by omega) (by omega) ?_
    | with_reducible refine sX6_hasRoom (by omega) (by omega) ?_
    | with_reducible refine sX6_netI (by omega) (by omega) (by omega) ?_
    | with_reducible refine sX0_has (by omega) (by omega) ?_
    | with_reducible refine sX11_needFound (fun _ => ?_) (fun _ => ?_)
    | with_reducible refine sX11_needArgument (fun _ => ?_) (fun _ => ?_)
    | with_reducible refine sX11_needState (fun _ => ?_) (fun _ => ?_)
    | with_reducible refine sX11_needPlace (fun _ => ?_) (fun _ => ?_)
    | with_reducible refine nF_t ?_
    | with_reducible refine nF_f ?_
    | with_reducible refine nA_t ?_
    | with_reducible refine nA_f ?_
    | with_reducible refine nS_t ?_
    | with_reducible refine nS_f ?_
    | with_reducible refine nP_t ?_
    | with_reducible refine nP_f ?_
    | with_reducible refine sX11_isTown (by omega) (by omega) ?_
    | with_reducible refine sX11_isBroker (by omega) (by omega) ?_
    | with_reducible refine sX11_isWord (by omega) (by omega) ?_
    | with_reducible refine sX11_isCoin (by omega) ?_
    | with_reducible refine sX11_isDay (by omega) ?_
    | with_reducible refine sX11_isTray (by omega) ?_
    | with_reducible refine sX12_isTray (by omega) ?_
    | with_reducible refine sX11_within (by omega) (by omega) (by omega) ?_
    | with_reducible refine sX12_isTownC (by assumption) (by assumption) (by omega) ?_
    | with_reducible refine sX12_isBrokerC (by assumption) (by assumption) (by omega) ?_
    | with_reducible refine sX12_isCoin (by omega) ?_
    | with_reducible refine sX12_isDay (by omega) ?_
    | with_reducible refine sX12_withinW (by omega) (by omega) (by omega) ?_
    | with_reducible refine sX12_fails ?_
    | with_reducible refine b_eq (fun _ => ?_) (fun _ => ?_)
    | with_reducible refine b_ne (fun _ => ?_) (fun _ => ?_)
    | with_reducible refine c_lt (by omega) (by omega) (fun _ => ?_) (fun _ => ?_)
    | with_reducible refine c_le (by omega) (by omega) (fun _ => ?_) (fun _ => ?_)
    | with_reducible refine c_eq (by omega) (by omega) (fun _ => ?_) (fun _ => ?_)
    | with_reducible refine c_ne (by omega) (by omega) (fun _ => ?_) (fun _ => ?_)
    | with_reducible refine l_gt (by omega) (by omega) (fun _ => ?_) (fun _ => ?_)
    | with_reducible refine l_lt (by omega) (by omega) (fun _ => ?_) (fun _ => ?_)
    | with_reducible refine l_ge (by omega) (by omega) (fun _ => ?_) (fun _ => ?_)
    | with_reducible refine l_le (by omega) (by omega) (fun _ => ?_) (fun _ => ?_)
    | with_reducible refine l_eq (by omega) (by omega) (fun _ => ?_) (fun _ => ?_)
    | with_reducible refine l_ne (by omega) (by omega) (fun _ => ?_) (fun _ => ?_)
    | refine ⟨by decide, by decide, ?_⟩
    | fail
  any_goals first | exact k3 (by omega) (by omega) (by omega)
  have hwm : w32 (-n) = -n := w32_of (by omega) (by omega)
  rw [hwm, hwn]
  refine sX0_gets wb (by omega) (by omega) (by omega) ?_
  rw [show min 10000000 (g 14 (a * 4 + co).toNat + -n) = g 14 (a * 4 + co).toNat - n by omega]
  have wb1 : WfB (mx_up g 14 (a * 4 + co).toNat (g 14 (a * 4 + co).toNat - n)) := wb.up14 (by omega)
  refine sX0_gets wb1 (by omega) (by omega) (by omega) ?_
  rw [up_i (g := g) (q := 14) (a := 14) (b := (b * 4 + co).toNat) (by omega)]
  refine s_in (by omega) (fun ea => ?_)
  rw [ea, up_q (by decide), up_q (by decide)]
  refine sX6_record (by rw [up_q (by decide), up_q (by decide)]; omega) (by omega) (by omega) (by omega) (by omega) (sX6_netI (by omega) (by omega) (by omega) ?_)
  exact k4 h1 h2 (by omega) _ rfl
theorem sX12_settle {T : Nat × (Nat → Int32)} {d : Nat} {Q : mz_K} {X : mz_X} {g : mz_S} {c : mz_S} {a b co n : Int} (wb : WfB c) (w : WfG c) (wn : WfN c) (hb' : ReB c g) (h : ReE c g) (ha : R32 a) (hb : R32 b) (hc : R32 co) (hn : R32 n) (k1 : ¬ ((0 ≤ a ∧ a ≤ c 9 1 - 1) ∧ (0 ≤ b ∧ b ≤ c 9 1 - 1)) → Q 0 (mx_up (mx_up g 99 0 0) 99 0 1)) (k2 : (0 ≤ a ∧ a ≤ c 9 1 - 1) ∧ (0 ≤ b ∧ b ≤ c 9 1 - 1) → ¬ (¬ a = b ∧ (0 ≤ co ∧ co ≤ 3) ∧ 1 ≤ n) → Q 0 (mx_up (mx_up g 99 0 0) 99 0 2)) (k3 : (0 ≤ a ∧ a ≤ c 9 1 - 1) ∧ (0 ≤ b ∧ b ≤ c 9 1 - 1) → (¬ a = b ∧ (0 ≤ co ∧ co ≤ 3) ∧ 1 ≤ n) → ¬ (c 13 a.toNat = -1 ∧ c 13 b.toNat = -1 ∧ c 15 2 + 1 ≤ 400 ∧ n ≤ netC c a.toNat b.toNat co.toNat ∧ n ≤ c 14 (a * 4 + co).toNat) → Q 0 (mx_up (mx_up g 99 0 0) 99 0 3)) (k4 : (0 ≤ a ∧ a ≤ c 9 1 - 1) ∧ (0 ≤ b ∧ b ≤ c 9 1 - 1) → (¬ a = b ∧ (0 ≤ co ∧ co ≤ 3) ∧ 1 ≤ n) → (c 13 a.toNat = -1 ∧ c 13 b.toNat = -1 ∧ c 15 2 + 1 ≤ 400 ∧ n ≤ netC c a.toNat b.toNat co.toNat ∧ n ≤ c 14 (a * 4 + co).toNat) → ∀ v1 v2, w32 v1 = c 14 (a * 4 + co).toNat - n → w32 v2 = min 10000000 (c 14 (b * 4 + co).toNat + n) → ∀ S, S = entS (mx_up (mx_up (mx_up g 99 0 0) 110 (a * 4 + co).toNat v1) 110 (b * 4 + co).toNat v2) (c 10 b.toNat) a b co (-n) 1 → zC T (d + 2) 233 [mx_R 99, mx_I a, mx_I b, mx_I co] S (fun r g1 => Q r g1) X) : zC T (d + 3) 285 [mx_R 99, mx_I a, mx_I b, mx_I co, mx_I n] g Q X := by
  have hw := wb.1
  have hw2 := w.1
  have hwn : w32 n = n := w32_of hn.1 hn.2
  refine zX12_settle ?_
  intro g1 eg1
  rw [← eg1] at k1 k2 k3 k4
  have h0 : ReB c g1 := by rw [eg1]; exact hb'.fr (ch_0 g 0) (by decide) (by decide)
  have h9 : ReE c g1 := by rw [eg1]; exact h.fr (ch_0 g 0) (by decide) (by decide)
  repeat' first
    | with_reducible refine zX12_settle_21 ?_
    | with_reducible refine zX12_settle_45 ?_
    | with_reducible refine zX12_settle_106 ?_
    | with_reducible refine sX11_needFound (fun _ => ?_) (fun _ => ?_)
    | with_reducible refine sX11_needArgument (fun _ => ?_) (fun _ => ?_)
    | with_reducible refine sX11_needState (fun _ => ?_) (fun _ => ?_)
    | with_reducible refine sX11_needPlace (fun _ => ?_) (fun _ => ?_)
    | with_reducible refine nF_t ?_
    | with_reducible refine nF_f ?_
    | with_reducible refine nA_t ?_
    | with_reducible refine nA_f ?_
    | with_reducible refine nS_t ?_
    | with_reducible refine nS_f ?_
    | with_reducible refine nP_t ?_
    | with_reducible refine nP_f ?_
    | with_reducible refine sX11_isTown (by omega) (by omega) ?_
    | with_reducible refine sX11_isBroker (by omega) (by omega) ?_
    | with_reducible refine sX11_isWord (by omega) (by omega) ?_
    | with_reducible refine sX11_isCoin (by omega) ?_
    | with_reducible refine sX11_isDay (by omega) ?_
    | with_reducible refine sX11_isTray (by omega) ?_
    | with_reducible refine sX12_isTray (by omega) ?_
    | with_reducible refine sX11_within (by omega) (by omega) (by omega) ?_
    | with_reducible refine sX12_isTownC (by assumption) (by assumption) (by omega) ?_
    | with_reducible refine sX12_isBrokerC (by assumption) (by assumption) (by omega) ?_
    | with_reducible refine sX12_isCoin (by omega) ?_
    | with_reducible refine sX12_isDay (by omega) ?_
    | with_reducible refine sX12_withinW (by omega) (by omega) (by omega) ?_
    | with_reducible refine sX12_fails ?_
    | with_reducible refine b_eq (fun _ => ?_) (fun _ => ?_)
    | with_reducible refine b_ne (fun _ => ?_) (fun _ => ?_)
    | with_reducible refine c_lt (by omega) (by omega) (fun _ => ?_) (fun _ => ?_)
    | with_reducible refine c_le (by omega) (by omega) (fun _ => ?_) (fun _ => ?_)
    | with_reducible refine c_eq (by omega) (by omega) (fun _ => ?_) (fun _ => ?_)
    | with_reducible refine c_ne (by omega) (by omega) (fun _ => ?_) (fun _ => ?_)
    | with_reducible refine l_gt (by omega) (by omega) (fun _ => ?_) (fun _ => ?_)
    | with_reducible refine l_lt (by omega) (by omega) (fun _ => ?_) (fun _ => ?_)
    | with_reducible refine l_ge (by omega) (by omega) (fun _ => ?_) (fun _ => ?_)
    | with_reducible refine l_le (by omega) (by omega) (fun _ => ?_) (fun _ => ?_)
    | with_reducible refine l_eq (by omega) (by omega) (fun _ => ?_) (fun _ => ?_)
    | with_reducible refine l_ne (by omega) (by omega) (fun _ => ?_) (fun _ => ?_)
    | refine ⟨by decide, by decide, ?_⟩
    | fail
  any_goals first | exact k1 (by omega) | exact k2 (by omega) (by omega)
  have h1 : (0 ≤ a ∧ a ≤ c 9 1 - 1) ∧ (0 ≤ b ∧ b ≤ c 9 1 - 1) := by omega
  have h2 : ¬ a = b ∧ (0 ≤ co ∧ co ≤ 3) ∧ 1 ≤ n := by omega
  have f3 := w.2.2.1 ((a.toNat * 12 + b.toNat) * 4 + co.toNat) (by omega)
  have f4 := wb.2.2 (a * 4 + co).toNat (by omega)
  have f5 := wb.2.2 (b * 4 + co).toNat (by omega)
  have f6 : -2000000000 ≤ netC c a.toNat b.toNat co.toNat ∧ netC c a.toNat b.toNat co.toNat ≤ 2000000000 := f3
  rw [show 4 * a + co = a * 4 + co by omega]
  repeat' first
    | with_reducible refine zX12_settle_21 ?_
    | with_reducible refine zX12_settle_45 ?_
    | with_reducible refine zX12_settle_106 ?_
    | with_reducible refine sX12_hasFallen wb h0 (by omega) ?_
    | with_reducible refine sX12_netI w wn h9 (by omega) (by omega) (by omega) ?_
    | with_reducible refine sX11_needFound (fun _ => ?_) (fun _ => ?_)
    | with_reducible refine sX11_needArgument (fun _ => ?_) (fun _ => ?_)
    | with_reducible refine sX11_needState (fun _ => ?_) (fun _ => ?_)
    | with_reducible refine sX11_needPlace (fun _ => ?_) (fun _ => ?_)
    | with_reducible refine nF_t ?_
    | with_reducible refine nF_f ?_
    | with_reducible refine nA_t ?_
    | with_reducible refine nA_f ?_
    | with_reducible refine nS_t ?_
    | with_reducible refine nS_f ?_
    | with_reducible refine nP_t ?_
    | with_reducible refine nP_f ?_
    | with_reducible refine sX11_isTown (by omega) (by omega) ?_
    | with_reducible refine sX11_isBroker (by omega) (by omega) ?_
    | with_reducible refine sX11_isWord (by omega) (by omega) ?_
    | with_reducible refine sX11_isCoin (by omega) ?_
    | with_reducible refine sX11_isDay (by omega) ?_
    | with_reducible refine sX11_isTray (by omega) ?_
    | with_reducible refine sX12_isTray (by omega) ?_
    | with_reducible refine sX11_within (by omega) (by omega) (by omega) ?_
    | with_reducible refine sX12_isTownC (by assumption) (by assumption) (by omega) ?_
    | with_reducible refine sX12_isBrokerC (by assumption) (by assumption) (by omega) ?_
    | with_reducible refine sX12_isCoin (by omega) ?_
    | with_reducible refine sX12_isDay (by omega) ?_
    | with_reducible refine sX12_withinW (by omega) (by omega) (by omega) ?_
    | with_reducible refine sX12_fails ?_
    | with_reducible refine b_eq (fun _ => ?_) (fun _ => ?_)
    | with_reducible refine b_ne (fun _ => ?_) (fun _ => ?_)
    | with_reducible refine c_lt (by omega) (by omega) (fun _ => ?_) (fun _ => ?_)
    | with_reducible refine c_le (by omega) (by omega) (fun _ => ?_) (fun _ => ?_)
    | with_reducible refine c_eq (by omega) (by omega) (fun _ => ?_) (fun _ => ?_)
    | with_reducible refine c_ne (by omega) (by omega) (fun _ => ?_) (fun _ => ?_)
    | with_reducible refine l_gt (by omega) (by omega) (fun _ => ?_) (fun _ => ?_)
    | with_reducible refine l_lt (by omega) (by omega) (fun _ => ?_) (fun _ => ?_)
    | with_reducible refine l_ge (by omega) (by omega) (fun _ => ?_) (fun _ => ?_)
    | with_reducible refine l_le (by omega) (by omega) (fun _ => ?_) (fun _ => ?_)
    | with_reducible refine l_eq (by omega) (by omega) (fun _ => ?_) (fun _ => ?_)
    | with_reducible refine l_ne (by omega) (by omega) (fun _ => ?_) (fun _ => ?_)
    | refine ⟨by decide, by decide, ?_⟩
    | fail
  any_goals first | exact k3 (by omega) (by omega) (by omega)
  refine s_in (by omega) (fun ea => ?_)
  rw [ea, h0.2.2 _ (by omega), h9.1]
  first | with_reducible refine c_lt ?_ ?_ (fun z1 => ?_) (fun z1 => ?_) | with_reducible refine c_le ?_ ?_ (fun z1 => ?_) (fun z1 => ?_) | with_reducible refine c_eq ?_ ?_ (fun z1 => ?_) (fun z1 => ?_) | with_reducible refine c_ne ?_ ?_ (fun z1 => ?_) (fun z1 => ?_)
  · omega
  · omega
  · exact zX12_settle_106 (sX12_fails (k3 h1 h2 (by omega)))
  · first | with_reducible refine c_lt ?_ ?_ (fun z2 => ?_) (fun z2 => ?_) | with_reducible refine c_le ?_ ?_ (fun z2 => ?_) (fun z2 => ?_) | with_reducible refine c_eq ?_ ?_ (fun z2 => ?_) (fun z2 => ?_) | with_reducible refine c_ne ?_ ?_ (fun z2 => ?_) (fun z2 => ?_)
    · omega
    · omega
    · refine ⟨zin (by omega) (by omega) (by omega), zin (by omega) (by omega) (by omega), ?_⟩
      rintro _ rfl
      have hwm : w32 (-n) = -n := w32_of (by omega) (by omega)
      rw [hwm, hwn]
      have hv1 : w32 (g1 110 (a * 4 + co).toNat - n) = c 14 (a * 4 + co).toNat - n := by
        have e1 := h0.2.2 (a * 4 + co).toNat (by omega)
        rw [w32_bm, w32_bm] at e1
        rw [w32_bm, Int.sub_eq_add_neg, ← Int.bmod_add_bmod, e1, Int.bmod_add_bmod, ← Int.sub_eq_add_neg, ← w32_bm]
        exact w32_of (by omega) (by omega)
      refine sX12_gets (o := c 14 (b * 4 + co).toNat) (n' := n) (by omega) (by omega) (by rw [up_i (g := g1) (q := 110) (a := 110) (b := (b * 4 + co).toNat) (by omega), h0.2.2 (b * 4 + co).toNat (by omega)]; exact w32_of (by omega) (by omega)) (by omega) rfl (by omega) (fun v2 hv2 => ?_)
      refine s_in (by omega) (fun eb => ?_)
      rw [eb, up_q (by decide), up_q (by decide), (h0.2.1 b.toNat (by omega)).1]
      refine sX12_enter (by rw [up_q (by decide), up_q (by decide), h9.1]; omega) ?_
      exact k4 h1 h2 (by omega) _ _ hv1 hv2 _ rfl
    · exact zX12_settle_106 (sX12_fails (k3 h1 h2 (by omega)))
