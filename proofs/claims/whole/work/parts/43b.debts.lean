/-! the calls owes, claim, heard, entry, market, hidden -/
def nbB (c : mz_S) (a b co : Nat) : Int := 100000 * c 15 2 + (if co = 0 ∧ (¬ c 13 a = -1 ∨ ¬ c 13 b = -1) then 1600000000 else 0)
def WfNb (c : mz_S) : Prop := ∀ a b co : Nat, a < 12 → b < 12 → co < 4 → - nbB c a b co ≤ netC c a b co ∧ netC c a b co ≤ nbB c a b co
def ReM (c r : mz_S) : Prop := ∀ i, i < 32 → r 147 i = c 24 i
def hidR (r : mz_S) (a b : Nat) (e : Nat) : Int := if r 117 e = 2 ∧ r 113 e = a ∧ r 114 e = b then r 118 e else 0
def ReH (c r : mz_S) : Prop := ∀ a b : Nat, a < 12 → b < 12 → c 25 (a * 12 + b) = sumN (hidR r a b) (c 15 2).toNat
def IE (g : mz_S) : Prop := WfG g ∧ WfN g ∧ ReE g g ∧ WfNb g ∧ ReM g g ∧ ReH g g ∧ ∀ k : Nat, k < g 15 2 → (0 ≤ g 22 k ∧ g 22 k ≤ 5) ∧ ¬ g 18 k = g 19 k
theorem IE.fr {S F : List Nat} {g g' : mz_S} (w : IE g) (h : Ch S F g g') (hS : ∀ q ∈ [13, 15, 16, 17, 18, 19, 20, 21, 22, 23, 24, 25, 111, 112, 113, 114, 115, 116, 117, 118, 147], q ∉ S) (hF : ∀ f ∈ [16], f ∉ F) : IE g' := by
  have e : ∀ q ∈ [13, 15, 16, 17, 18, 19, 20, 21, 22, 23, 24, 25, 111, 112, 113, 114, 115, 116, 117, 118, 147], g' q = g q := fun q hq => h.1 q (hS q hq) (by intro z; subst z; revert hq; decide)
  unfold IE WfG WfN ReE WfNb ReM ReH nbB netC partC hidR at w ⊢
  rw [e 13 (by decide), e 15 (by decide), e 16 (by decide), e 17 (by decide), e 18 (by decide), e 19 (by decide), e 20 (by decide), e 21 (by decide), e 22 (by decide), e 23 (by decide), e 24 (by decide), e 25 (by decide), e 111 (by decide), e 112 (by decide), e 113 (by decide), e 114 (by decide), e 115 (by decide), e 116 (by decide), e 117 (by decide), e 118 (by decide), e 147 (by decide), h.2 16 (hF 16 (by decide))]
  exact w
theorem sX6_netI {T : Nat × (Nat → Int32)} {d : Nat} {Q : mz_K} {X : mz_X} {g : mz_S} {a b c : Int} (ha : 0 ≤ a ∧ a < 12) (hb : 0 ≤ b ∧ b < 12) (hc : 0 ≤ c ∧ c < 4) (k : Q (netC g a.toNat b.toNat c.toNat) g) : zC T (d + 2) 86 [mx_R 15, mx_I a, mx_I b, mx_I c] g Q X := by
  obtain ⟨a', rfl⟩ := Int.eq_ofNat_of_zero_le ha.1
  obtain ⟨b', rfl⟩ := Int.eq_ofNat_of_zero_le hb.1
  obtain ⟨c', rfl⟩ := Int.eq_ofNat_of_zero_le hc.1
  simp only [Int.toNat_natCast] at k
  exact sX6_net (by omega) (by omega) (by omega) k
theorem sX12_netI {T : Nat × (Nat → Int32)} {d : Nat} {Q : mz_K} {X : mz_X} {g : mz_S} {c : mz_S} {a b co : Int} (w : WfG c) (wn : WfN c) (h : ReE c g) (ha : 0 ≤ a ∧ a < 12) (hb : 0 ≤ b ∧ b < 12) (hc : 0 ≤ co ∧ co < 4) (k : Q (netC c a.toNat b.toNat co.toNat) g) : zC T (d + 2) 233 [mx_R 99, mx_I a, mx_I b, mx_I co] g Q X := by
  obtain ⟨a', rfl⟩ := Int.eq_ofNat_of_zero_le ha.1
  obtain ⟨b', rfl⟩ := Int.eq_ofNat_of_zero_le hb.1
  obtain ⟨c', rfl⟩ := Int.eq_ofNat_of_zero_le hc.1
  simp only [Int.toNat_natCast] at k
  exact sX12_net w wn h (by omega) (by omega) (by omega) k
theorem sX6_claimOnI {T : Nat × (Nat → Int32)} {d : Nat} {Q : mz_K} {X : mz_X} {g : mz_S} {a b : Int} (wl : WfL g) (wb : WfB g) (w : WfG g) (ha : 0 ≤ a ∧ a < 12) (hb : 0 ≤ b ∧ b < 12) (k : ∀ g', Sm8 g g' → WfL g' → Q (claimC g a.toNat b.toNat) g') : zC T (d + 4) 89 [mx_R 15, mx_I a, mx_I b] g Q X := by
  obtain ⟨a', rfl⟩ := Int.eq_ofNat_of_zero_le ha.1
  obtain ⟨b', rfl⟩ := Int.eq_ofNat_of_zero_le hb.1
  simp only [Int.toNat_natCast] at k
  exact sX6_claimOn wl wb w (by omega) (by omega) k
theorem sX12_claimOfI {T : Nat × (Nat → Int32)} {d : Nat} {Q : mz_K} {X : mz_X} {g : mz_S} {c : mz_S} {a b : Int} (wl : WfL0 c) (wb : WfB c) (w : WfG c) (wn : WfN c) (hl : ReL c g) (hb' : ReB c g) (h : ReE c g) (ha : 0 ≤ a ∧ a < 12) (hb : 0 ≤ b ∧ b < 12) (k : Q (claimC c a.toNat b.toNat) g) : zC T (d + 5) 235 [mx_R 99, mx_I a, mx_I b] g Q X := by
  obtain ⟨a', rfl⟩ := Int.eq_ofNat_of_zero_le ha.1
  obtain ⟨b', rfl⟩ := Int.eq_ofNat_of_zero_le hb.1
  simp only [Int.toNat_natCast] at k
  exact sX12_claimOf wl wb w wn hl hb' h (by omega) (by omega) k
/-- owes -/
theorem sX11_owes {T : Nat × (Nat → Int32)} {d : Nat} {Q : mz_K} {X : mz_X} {g : mz_S} {a b co : Int} (wb : WfB g) (ha : R32 a) (hb : R32 b) (hc : R32 co) (k1 : ¬ ((0 ≤ a ∧ a ≤ g 9 1 - 1) ∧ (0 ≤ b ∧ b ≤ g 9 1 - 1)) → X 0 g) (k2 : (0 ≤ a ∧ a ≤ g 9 1 - 1) ∧ (0 ≤ b ∧ b ≤ g 9 1 - 1) → ¬ (0 ≤ co ∧ co ≤ 3) → X 1 g) (k3 : (0 ≤ a ∧ a ≤ g 9 1 - 1) ∧ (0 ≤ b ∧ b ≤ g 9 1 - 1) → 0 ≤ co ∧ co ≤ 3 → Q (netC g a.toNat b.toNat co.toNat) g) : zC T (d + 3) 179 [mx_R 0, mx_I a, mx_I b, mx_I co] g Q X := by
  have hw := wb.1
  refine zX11_owes ?_
  repeat' first
    | with_reducible refine zX11_owes_20 ?_
    | with_reducible refine zX11_owes_21 ?_
    | with_reducible refine sX6_netI (by omega) (by omega) (by omega) ?_
    | with_reducible refine sX11_needFound (fun _ => ?_) (fun _ => ?_)
    | with_reducible refine sX11_needArgument (fun _ => ?_) (fun _ => ?_)
    | with_reducible refine sX11_needState (fun _ => ?_) (fun _ => ?_)
    | with_reducible refine sX11_needPlace (fun _ => ?_) (fun _ => ?_)
    | with_reducible refine nF_t ?_
    | with_reducible refine nF_f ?_
    | with_reducible refine nA_t ?_
    | with_reducible refine nA_f ?_
    | with_reducible refine nS_t ?_
    | with_reducible refine nS_f ?_
    | with_reducible refine nP_t ?_
    | with_reducible refine nP_f ?_
    | with_reducible refine sX11_isTown (by omega) (by omega) ?_
    | with_reducible refine sX11_isBroker (by omega) (by omega) ?_
    | with_reducible refine sX11_isWord (by omega) (by omega) ?_
    | with_reducible refine sX11_isCoin (by omega) ?_
    | with_reducible refine sX11_isDay (by omega) ?_
    | with_reducible refine sX11_isTray (by omega) ?_
    | with_reducible refine sX12_isTray (by omega) ?_
    | with_reducible refine sX11_within (by omega) (by omega) (by omega) ?_
    | with_reducible refine sX12_isTownC (by assumption) (by assumption) (by omega) ?_
    | with_reducible refine sX12_isBrokerC (by assumption) (by assumption) (by omega) ?_
    | with_reducible refine sX12_isCoin (by omega) ?_
    | with_reducible refine sX12_isDay (by omega) ?_
    | with_reducible refine sX12_withinW (by omega) (by omega) (by omega) ?_
    | with_reducible refine sX12_fails ?_
    | with_reducible refine b_eq (fun _ => ?_) (fun _ => ?_)
    | with_reducible refine b_ne (fun _ => ?_) (fun _ => ?_)
    | with_reducible refine c_lt (by omega) (by omega) (fun _ => ?_) (fun _ => ?_)
    | with_reducible refine c_le (by omega) (by omega) (fun _ => ?_) (fun _ => ?_)
    | with_reducible refine c_eq (by omega) (by omega) (fun _ => ?_) (fun _ => ?_)
    | with_reducible refine c_ne (by omega) (by omega) (fun _ => ?_) (fun _ => ?_)
    | with_reducible refine l_gt (by omega) (by omega) (fun _ => ?_) (fun _ => ?_)
    | with_reducible refine l_lt (by omega) (by omega) (fun _ => ?_) (fun _ => ?_)
    | with_reducible refine l_ge (by omega) (by omega) (fun _ => ?_) (fun _ => ?_)
    | with_reducible refine l_le (by omega) (by omega) (fun _ => ?_) (fun _ => ?_)
    | with_reducible refine l_eq (by omega) (by omega) (fun _ => ?_) (fun _ => ?_)
    | with_reducible refine l_ne (by omega) (by omega) (fun _ => ?_) (fun _ => ?_)
    | refine ⟨by decide, by decide, ?_⟩
    | fail
  any_goals first | exact k1 (by omega) | exact k2 (by omega) (by omega) | exact k3 (by omega) (by omega)
theorem sX12_owes {T : Nat × (Nat → Int32)} {d : Nat} {Q : mz_K} {X : mz_X} {g : mz_S} {c : mz_S} {a b co : Int} (wb : WfB c) (w : WfG c) (wn : WfN c) (hb' : ReB c g) (h : ReE c g) (ha : R32 a) (hb : R32 b) (hc : R32 co) (k1 : ¬ ((0 ≤ a ∧ a ≤ c 9 1 - 1) ∧ (0 ≤ b ∧ b ≤ c 9 1 - 1)) → Q 0 (mx_up (mx_up g 99 0 0) 99 0 1)) (k2 : (0 ≤ a ∧ a ≤ c 9 1 - 1) ∧ (0 ≤ b ∧ b ≤ c 9 1 - 1) → ¬ (0 ≤ co ∧ co ≤ 3) → Q 0 (mx_up (mx_up g 99 0 0) 99 0 2)) (k3 : (0 ≤ a ∧ a ≤ c 9 1 - 1) ∧ (0 ≤ b ∧ b ≤ c 9 1 - 1) → 0 ≤ co ∧ co ≤ 3 → Q (netC c a.toNat b.toNat co.toNat) (mx_up g 99 0 0)) : zC T (d + 3) 236 [mx_R 99, mx_I a, mx_I b, mx_I co] g Q X := by
  have hw := wb.1
  refine zX12_owes ?_
  rintro _ rfl
  have h1 : ReB c (mx_up g 99 0 0) := hb'.fr (ch_0 g 0) (by decide) (by decide)
  have h2 : ReE c (mx_up g 99 0 0) := h.fr (ch_0 g 0) (by decide) (by decide)
  repeat' first
    | with_reducible refine zX12_owes_21 ?_
    | with_reducible refine zX12_owes_50 ?_
    | with_reducible refine sX12_netI w wn h2 (by omega) (by omega) (by omega) ?_
    | with_reducible refine sX11_needFound (fun _ => ?_) (fun _ => ?_)
    | with_reducible refine sX11_needArgument (fun _ => ?_) (fun _ => ?_)
    | with_reducible refine sX11_needState (fun _ => ?_) (fun _ => ?_)
    | with_reducible refine sX11_needPlace (fun _ => ?_) (fun _ => ?_)
    | with_reducible refine nF_t ?_
    | with_reducible refine nF_f ?_
    | with_reducible refine nA_t ?_
    | with_reducible refine nA_f ?_
    | with_reducible refine nS_t ?_
    | with_reducible refine nS_f ?_
    | with_reducible refine nP_t ?_
    | with_reducible refine nP_f ?_
    | with_reducible refine sX11_isTown (by omega) (by omega) ?_
    | with_reducible refine sX11_isBroker (by omega) (by omega) ?_
    | with_reducible refine sX11_isWord (by omega) (by omega) ?_
    | with_reducible refine sX11_isCoin (by omega) ?_
    | with_reducible refine sX11_isDay (by omega) ?_
    | with_reducible refine sX11_isTray (by omega) ?_
    | with_reducible refine sX12_isTray (by omega) ?_
    | with_reducible refine sX11_within (by omega) (by omega) (by omega) ?_
    | with_reducible refine sX12_isTownC (by assumption) (by assumption) (by omega) ?_
    | with_reducible refine sX12_isBrokerC (by assumption) (by assumption) (by omega) ?_
    | with_reducible refine sX12_isCoin (by omega) ?_
    | with_reducible refine sX12_isDay (by omega) ?_
    | with_reducible refine sX12_withinW (by omega) (by omega) (by omega) ?_
    | with_reducible refine sX12_fails ?_
    | with_reducible refine b_eq (fun _ => ?_) (fun _ => ?_)
    | with_reducible refine b_ne (fun _ => ?_) (fun _ => ?_)
    | with_reducible refine c_lt (by omega) (by omega) (fun _ => ?_) (fun _ => ?_)
    | with_reducible refine c_le (by omega) (by omega) (fun _ => ?_) (fun _ => ?_)
    | with_reducible refine c_eq (by omega) (by omega) (fun _ => ?_) (fun _ => ?_)
    | with_reducible refine c_ne (by omega) (by omega) (fun _ => ?_) (fun _ => ?_)
    | with_reducible refine l_gt (by omega) (by omega) (fun _ => ?_) (fun _ => ?_)
    | with_reducible refine l_lt (by omega) (by omega) (fun _ => ?_) (fun _ => ?_)
    | with_reducible refine l_ge (by omega) (by omega) (fun _ => ?_) (fun _ => ?_)
    | with_reducible refine l_le (by omega) (by omega) (fun _ => ?_) (fun _ => ?_)
    | with_reducible refine l_eq (by omega) (by omega) (fun _ => ?_) (fun _ => ?_)
    | with_reducible refine l_ne (by omega) (by omega) (fun _ => ?_) (fun _ => ?_)
    | refine ⟨by decide, by decide, ?_⟩
    | fail
  any_goals first | exact k1 (by omega) | exact k2 (by omega) (by omega) | exact k3 (by omega) (by omega)
theorem C_owes {T : Nat × (Nat → Int32)} {d : Nat} {X X' : mz_X} {g : mz_S} {a b co : Int} (wb : IB g) (w : IE g) (ha : R32 a) (hb : R32 b) (hc : R32 co) : zC T (d + 4) 367 [mx_R 0, mx_I a, mx_I b, mx_I co, mx_R 179] g (fun kk g1 => zC T (d + 4) 236 [mx_R 99, mx_I a, mx_I b, mx_I co] g1 (fun r g2 => AnsI kk r g2 ∧ Qy [179] [0] g g2) X') X := by
  refine wL_owes (sX11_owes wb.1 ha hb hc (fun h1 => Or.inl ⟨rfl, ?_⟩) (fun h1 h2 => Or.inr ⟨rfl, ?_⟩) (fun h1 h2 => ?_))
  · exact sX12_owes wb.1 w.1 w.2.1 wb.2.1 w.2.2.1 ha hb hc (fun _ => qy_bad (Ch.rf g) (fun z => z) (by decide) 1 (by omega)) (fun z => absurd z h1) (fun z => absurd z h1)
  · exact sX12_owes wb.1 w.1 w.2.1 wb.2.1 w.2.2.1 ha hb hc (fun z => absurd h1 z) (fun _ _ => qy_bad (Ch.rf g) (fun z => z) (by decide) 2 (by omega)) (fun _ z => absurd z h2)
  · have c1 : Ch [179] [0] g (mx_up g 179 0 (w32 (netC g a.toNat b.toNat co.toNat))) := (Ch.rf g).up (by decide) (by decide)
    refine sX12_owes wb.1 w.1 w.2.1 (wb.2.1.fr c1 (by decide) (by decide)) (w.2.2.1.fr c1 (by decide) (by decide)) ha hb hc (fun z => absurd h1 z) (fun _ z => absurd h2 z) (fun _ _ => ?_)
    exact ⟨⟨by omega, up_s, fun _ => by rw [up_q (by decide), up_s]⟩, c1.up9 (by decide), fun z => z.fr (c1.up9 (by decide)) (by decide)⟩
/-- claim -/
theorem sX11_claim {T : Nat × (Nat → Int32)} {d : Nat} {Q : mz_K} {X : mz_X} {g : mz_S} {a b : Int} (wl : WfL g) (wb : WfB g) (w : WfG g) (ha : R32 a) (hb : R32 b) (k1 : ¬ ((0 ≤ a ∧ a ≤ g 9 1 - 1) ∧ (0 ≤ b ∧ b ≤ g 9 1 - 1)) → X 0 g) (k2 : (0 ≤ a ∧ a ≤ g 9 1 - 1) ∧ (0 ≤ b ∧ b ≤ g 9 1 - 1) → ∀ g', Sm8 g g' → WfL g' → Q (claimC g a.toNat b.toNat) g') : zC T (d + 5) 181 [mx_R 0, mx_I a, mx_I b] g Q X := by
  have hw := wb.1
  refine zX11_claim ?_
  repeat' first
    | with_reducible refine zX11_claim_20 ?_
    | with_reducible refine zX11_claim_21 ?_
    | with_reducible refine sX6_claimOnI wl wb w (by omega) (by omega) (k2 (by omega))
    | with_reducible refine sX11_needFound (fun _ => ?_) (fun _ => ?_)
    | with_reducible refine sX11_needArgument (fun _ => ?_) (fun _ => ?_)
    | with_reducible refine sX11_needState (fun _ => ?_) (fun _ => ?_)
    | with_reducible refine sX11_needPlace (fun _ => ?_) (fun _ => ?_)
    | with_reducible refine nF_t ?_
    | with_reducible refine nF_f ?_
    | with_reducible refine nA_t ?_
    | with_reducible refine nA_f ?_
    | with_reducible refine nS_t ?_
    | with_reducible refine nS_f ?_
    | with_reducible refine nP_t ?_
    | with_reducible refine nP_f ?_
    | with_reducible refine sX11_isTown (by omega) (by omega) ?_
    | with_reducible refine sX11_isBroker (by omega) (by omega) ?_
    | with_reducible refine sX11_isWord (by omega) (by omega) ?_
    | with_reducible refine sX11_isCoin (by omega) ?_
    | with_reducible refine sX11_isDay (by omega) ?_
    | with_reducible refine sX11_isTray (by omega) ?_
    | with_reducible refine sX12_isTray (by omega) ?_
    | with_reducible refine sX11_within (by omega) (by omega) (by omega) ?_
    | with_reducible refine sX12_isTownC (by assumption) (by assumption) (by omega) ?_
    | with_reducible refine sX12_isBrokerC (by assumption) (by assumption) (by omega) ?_
    | with_reducible refine sX12_isCoin (by omega) ?_
    | with_reducible refine sX12_isDay (by omega) ?_
    | with_reducible refine sX12_withinW (by omega) (by omega) (by omega) ?_
    | with_reducible refine sX12_fails ?_
    | with_reducible refine b_eq (fun _ => ?_) (fun _ => ?_)
    | with_reducible refine b_ne (fun _ => ?_) (fun _ => ?_)
    | with_reducible refine c_lt (by omega) (by omega) (fun _ => ?_) (fun _ => ?_)
    | with_reducible refine c_le (by omega) (by omega) (fun _ => ?_) (fun _ => ?_)
    | with_reducible refine c_eq (by omega) (by omega) (fun _ => ?_) (fun _ => ?_)
    | with_reducible refine c_ne (by omega) (by omega) (fun _ => ?_) (fun _ => ?_)
    | with_reducible refine l_gt (by omega) (by omega) (fun _ => ?_) (fun _ => ?_)
    | with_reducible refine l_lt (by omega) (by omega) (fun _ => ?_) (fun _ => ?_)
    | with_reducible refine l_ge (by omega) (by omega) (fun _ => ?_) (fun _ => ?_)
    | with_reducible refine l_le (by omega) (by omega) (fun _ => ?_) (fun _ => ?_)
    | with_reducible refine l_eq (by omega) (by omega) (fun _ => ?_) (fun _ => ?_)
    | with_reducible refine l_ne (by omega) (by omega) (fun _ => ?_) (fun _ => ?_)
    | refine ⟨by decide, by decide, ?_⟩
    | fail
  any_goals first | exact k1 (by omega)
theorem sX12_claim {T : Nat × (Nat → Int32)} {d : Nat} {Q : mz_K} {X : mz_X} {g : mz_S} {c : mz_S} {a b : Int} (wl : WfL0 c) (wb : WfB c) (w : WfG c) (wn : WfN c) (hl : ReL c g) (hb' : ReB c g) (h : ReE c g) (ha : R32 a) (hb : R32 b) (k1 : ¬ ((0 ≤ a ∧ a ≤ c 9 1 - 1) ∧ (0 ≤ b ∧ b ≤ c 9 1 - 1)) → Q 0 (mx_up (mx_up g 99 0 0) 99 0 1)) (k2 : (0 ≤ a ∧ a ≤ c 9 1 - 1) ∧ (0 ≤ b ∧ b ≤ c 9 1 - 1) → Q (claimC c a.toNat b.toNat) (mx_up g 99 0 0)) : zC T (d + 6) 238 [mx_R 99, mx_I a, mx_I b] g Q X := by
  have hw := wb.1
  refine zX12_claim ?_
  rintro _ rfl
  have h0 : ReL c (mx_up g 99 0 0) := hl.fr (ch_0 g 0) (by decide) (by decide)
  have h1 : ReB c (mx_up g 99 0 0) := hb'.fr (ch_0 g 0) (by decide) (by decide)
  have h2 : ReE c (mx_up g 99 0 0) := h.fr (ch_0 g 0) (by decide) (by decide)
  repeat' first
    | with_reducible refine zX12_claim_30 ?_
    | with_reducible refine zX12_claim_36 ?_
    | with_reducible refine sX12_claimOfI wl wb w wn h0 h1 h2 (by omega) (by omega) ?_
    | with_reducible refine sX11_needFound (fun _ => ?_) (fun _ => ?_)
    | with_reducible refine sX11_needArgument (fun _ => ?_) (fun _ => ?_)
    | with_reducible refine sX11_needState (fun _ => ?_) (fun _ => ?_)
    | with_reducible refine sX11_needPlace (fun _ => ?_) (fun _ => ?_)
    | with_reducible refine nF_t ?_
    | with_reducible refine nF_f ?_
    | with_reducible refine nA_t ?_
    | with_reducible refine nA_f ?_
    | with_reducible refine nS_t ?_
    | with_reducible refine nS_f ?_
    | with_reducible refine nP_t ?_
    | with_reducible refine nP_f ?_
    | with_reducible refine sX11_isTown (by omega) (by omega) ?_
    | with_reducible refine sX11_isBroker (by omega) (by omega) ?_
    | with_reducible refine sX11_isWord (by omega) (by omega) ?_
    | with_reducible refine sX11_isCoin (by omega) ?_
    | with_reducible refine sX11_isDay (by omega) ?_
    | with_reducible refine sX11_isTray (by omega) ?_
    | with_reducible refine sX12_isTray (by omega) ?_
    | with_reducible refine sX11_within (by omega) (by omega) (by omega) ?_
    | with_reducible refine sX12_isTownC (by assumption) (by assumption) (by omega) ?_
    | with_reducible refine sX12_isBrokerC (by assumption) (by assumption) (by omega) ?_
    | with_reducible refine sX12_isCoin (by omega) ?_
    | with_reducible refine sX12_isDay (by omega) ?_
    | with_reducible refine sX12_withinW (by omega) (by omega) (by omega) ?_
    | with_reducible refine sX12_fails ?_
    | with_reducible refine b_eq (fun _ => ?_) (fun _ => ?_)
    | with_reducible refine b_ne (fun _ => ?_) (fun _ => ?_)
    | with_reducible refine c_lt (by omega) (by omega) (fun _ => ?_) (fun _ => ?_)
    | with_reducible refine c_le (by omega) (by omega) (fun _ => ?_) (fun _ => ?_)
    | with_reducible refine c_eq (by omega) (by omega) (fun _ => ?_) (fun _ => ?_)
    | with_reducible refine c_ne (by omega) (by omega) (fun _ => ?_) (fun _ => ?_)
    | with_reducible refine l_gt (by omega) (by omega) (fun _ => ?_) (fun _ => ?_)
    | with_reducible refine l_lt (by omega) (by omega) (fun _ => ?_) (fun _ => ?_)
    | with_reducible refine l_ge (by omega) (by omega) (fun _ => ?_) (fun _ => ?_)
    | with_reducible refine l_le (by omega) (by omega) (fun _ => ?_) (fun _ => ?_)
    | with_reducible refine l_eq (by omega) (by omega) (fun _ => ?_) (fun _ => ?_)
    | with_reducible refine l_ne (by omega) (by omega) (fun _ => ?_) (fun _ => ?_)
    | refine ⟨by decide, by decide, ?_⟩
    | fail
  all_goals try rw [w32_0]
  any_goals first | exact k1 (by omega) | exact k2 (by omega)
theorem C_claim {T : Nat × (Nat → Int32)} {d : Nat} {X X' : mz_X} {g : mz_S} {a b : Int} (wl : IL g) (wc : WfC g) (wb : IB g) (w : IE g) (ha : R32 a) (hb : R32 b) : zC T (d + 6) 369 [mx_R 0, mx_I a, mx_I b, mx_R 179] g (fun kk g1 => zC T (d + 6) 238 [mx_R 99, mx_I a, mx_I b] g1 (fun r g2 => AnsL kk r g2 ∧ Qy [8, 179] [0] g g2) X') X := by
  refine wL_claim (sX11_claim ⟨wl.1, wc⟩ wb.1 w.1 ha hb (fun h1 => ⟨rfl, ?_⟩) (fun h1 g' s w' => ?_))
  · refine sX12_claim wl.1 wb.1 w.1 w.2.1 wl.2.2.1 wb.2.1 w.2.2.1 ha hb (fun _ => ?_) (fun z => absurd z h1)
    have := qy_bad (S := [8, 179]) (F := [0]) (Ch.rf g) (fun z => z) (by decide) 1 (by omega)
    exact ⟨⟨this.1.1, this.1.2.1, fun z => absurd z (by decide)⟩, this.2⟩
  · have c0 : Ch [8, 179] [0] g g' := (s.ch (F := [])).sub (by decide) (by decide)
    have c1 : Ch [8, 179] [0] g (mx_up g' 179 0 (claimC g a.toNat b.toNat)) := c0.up (by decide) (by decide)
    refine sX12_claim wl.1 wb.1 w.1 w.2.1 (wl.2.2.1.fr c1 (by decide) (by decide)) (wb.2.1.fr c1 (by decide) (by decide)) (w.2.2.1.fr c1 (by decide) (by decide)) ha hb (fun z => absurd h1 z) (fun _ => ?_)
    have c2 : Ch [179] [0] g' (mx_up (mx_up g' 179 0 (claimC g a.toNat b.toNat)) 99 0 0) := ((Ch.rf g').up (by decide) (by decide)).up9 (by decide)
    exact ⟨⟨by omega, up_s, fun _ => by rw [up_q (by decide), up_s]⟩, c1.up9 (by decide), fun z => w'.2.fr c2 (by decide)⟩
/-- heard -/
def hrdF (g : mz_S) (a b co t dy : Int) (e : Nat) : Int := if ¬ g 3 (g 17 e * 8 + t).toNat = -1 ∧ g 16 e + g 3 (g 17 e * 8 + t).toNat ≤ dy then partC g a b co e else 0
theorem sX11_heard {T : Nat × (Nat → Int32)} {d : Nat} {Q : mz_K} {X : mz_X} {g : mz_S} {s a b co dy : Int} (wl : WfL0 g) (wb : WfB g) (w : WfG g) (hs : R32 s) (ha : R32 a) (hb : R32 b) (hc : R32 co) (hd : R32 dy) (k1 : ¬ ((0 ≤ s ∧ s ≤ g 9 1 - 1) ∧ (0 ≤ a ∧ a ≤ g 9 1 - 1) ∧ (0 ≤ b ∧ b ≤ g 9 1 - 1)) → X 0 g) (k2 : (0 ≤ s ∧ s ≤ g 9 1 - 1) ∧ (0 ≤ a ∧ a ≤ g 9 1 - 1) ∧ (0 ≤ b ∧ b ≤ g 9 1 - 1) → ¬ ((0 ≤ co ∧ co ≤ 3) ∧ (0 ≤ dy ∧ dy ≤ 999)) → X 1 g) (k3 : (0 ≤ s ∧ s ≤ g 9 1 - 1) ∧ (0 ≤ a ∧ a ≤ g 9 1 - 1) ∧ (0 ≤ b ∧ b ≤ g 9 1 - 1) → (0 ≤ co ∧ co ≤ 3) ∧ (0 ≤ dy ∧ dy ≤ 999) → ¬ (s = a ∨ s = b) → X 2 g) (k4 : (0 ≤ s ∧ s ≤ g 9 1 - 1) ∧ (0 ≤ a ∧ a ≤ g 9 1 - 1) ∧ (0 ≤ b ∧ b ≤ g 9 1 - 1) → (0 ≤ co ∧ co ≤ 3) ∧ (0 ≤ dy ∧ dy ≤ 999) → s = a ∨ s = b → Q (sumN (hrdF g a b co (g 10 s.toNat) dy) (g 15 2).toNat) g) : zC T (d + 4) 180 [mx_R 0, mx_I s, mx_I a, mx_I b, mx_I co, mx_I dy] g Q X := by
  have hw := wb.1
  refine zX11_heard ?_
  repeat' first
    | with_reducible refine zX11_heard_28 ?_
    | with_reducible refine zX11_heard_29 ?_
    | with_reducible refine zX11_heard_52 ?_
    | with_reducible refine zX11_heard_53 ?_
    | with_reducible refine zX11_heard_66 ?_
    | with_reducible refine zX11_heard_71 ?_
    | with_reducible refine sX11_needFound (fun _ => ?_) (fun _ => ?_)
    | with_reducible refine sX11_needArgument (fun _ => ?_) (fun _ => ?_)
    | with_reducible refine sX11_needState (fun _ => ?_) (fun _ => ?_)
    | with_reducible refine sX11_needPlace (fun _ => ?_) (fun _ => ?_)
    | with_reducible refine nF_t ?_
    | with_reducible refine nF_f ?_
    | with_reducible refine nA_t ?_
    | with_reducible refine nA_f ?_
    | with_reducible refine nS_t ?_
    | with_reducible refine nS_f ?_
    | with_reducible refine nP_t ?_
    | with_reducible refine nP_f ?_
    | with_reducible refine sX11_isTown (by omega) (by omega) ?_
    | with_reducible refine sX11_isBroker (by omega) (by omega) ?_
    | with_reducible refine sX11_isWord (by omega) (by omega) ?_
    | with_reducible refine sX11_isCoin (by omega) ?_
    | with_reducible refine sX11_isDay (by omega) ?_
    | with_reducible refine sX11_isTray (by omega) ?_
    | with_reducible refine sX12_isTray (by omega) ?_
    | with_reducible refine sX11_within (by omega) (by omega) (by omega) ?_
    | with_reducible refine sX12_isTownC (by assumption) (by assumption) (by omega) ?_
    | with_reducible refine sX12_isBrokerC (by assumption) (by assumption) (by omega) ?_
    | with_reducible refine sX12_isCoin (by omega) ?_
    | with_reducible refine sX12_isDay (by omega) ?_
    | with_reducible refine sX12_withinW (by omega) (by omega) (by omega) ?_
    | with_reducible refine sX12_fails ?_
    | with_reducible refine b_eq (fun _ => ?_) (fun _ => ?_)
    | with_reducible refine b_ne (fun _ => ?_) (fun _ => ?_)
    | with_reducible refine c_lt (by omega) (by omega) (fun _ => ?_) (fun _ => ?_)
    | with_reducible refine c_le (by omega) (by omega) (fun _ => ?_) (fun _ => ?_)
    | with_reducible refine c_eq (by omega) (by omega) (fun _ => ?_) (fun _ => ?_)
    | with_reducible refine c_ne (by omega) (by omega) (fun _ => ?_) (fun _ => ?_)
    | with_reducible refine l_gt (by omega) (by omega) (fun _ => ?_) (fun _ => ?_)
    | with_reducible refine l_lt (by omega) (by omega) (fun _ => ?_) (fun _ => ?_)
    | with_reducible refine l_ge (by omega) (by omega) (fun _ => ?_) (fun _ => ?_)
    | with_reducible refine l_le (by omega) (by omega) (fun _ => ?_) (fun _ => ?_)
    | with_reducible refine l_eq (by omega) (by omega) (fun _ => ?_) (fun _ => ?_)
    | with_reducible refine l_ne (by omega) (by omega) (fun _ => ?_) (fun _ => ?_)
    | refine ⟨by decide, by decide, ?_⟩
    | fail
  any_goals first | exact k1 (by omega) | exact k2 (by omega) (by omega) | exact k3 (by omega) (by omega) (by omega)
  all_goals
    refine s_in (by omega) (fun ea => ?_)
    rw [ea]
    have h1 := (wb.2.1 s.toNat (by omega)).1
    refine sX6_netHeard wl w (by omega) (by omega) (by omega) h1 (by omega) (hrdF g a b co (g 10 s.toNat) dy) (fun e he => ?_) (k4 (by omega) (by omega) (by omega))
    unfold hrdF heardC
    exact ⟨fun z => if_pos z, fun z => if_neg z⟩
theorem sX12_heard {T : Nat × (Nat → Int32)} {d : Nat} {Q : mz_K} {X : mz_X} {g : mz_S} {c : mz_S} {s a b co dy : Int} (wl : WfL0 c) (wb : WfB c) (w : WfG c) (hl : ReL c g) (hb' : ReB c g) (h : ReE c g) (hs : R32 s) (ha : R32 a) (hb : R32 b) (hc : R32 co) (hd : R32 dy) (k1 : ¬ ((0 ≤ s ∧ s ≤ c 9 1 - 1) ∧ (0 ≤ a ∧ a ≤ c 9 1 - 1) ∧ (0 ≤ b ∧ b ≤ c 9 1 - 1)) → Q 0 (mx_up (mx_up g 99 0 0) 99 0 1)) (k2 : (0 ≤ s ∧ s ≤ c 9 1 - 1) ∧ (0 ≤ a ∧ a ≤ c 9 1 - 1) ∧ (0 ≤ b ∧ b ≤ c 9 1 - 1) → ¬ ((0 ≤ co ∧ co ≤ 3) ∧ (0 ≤ dy ∧ dy ≤ 999)) → Q 0 (mx_up (mx_up g 99 0 0) 99 0 2)) (k3 : (0 ≤ s ∧ s ≤ c 9 1 - 1) ∧ (0 ≤ a ∧ a ≤ c 9 1 - 1) ∧ (0 ≤ b ∧ b ≤ c 9 1 - 1) → (0 ≤ co ∧ co ≤ 3) ∧ (0 ≤ dy ∧ dy ≤ 999) → ¬ (s = a ∨ s = b) → Q 0 (mx_up (mx_up g 99 0 0) 99 0 3)) (k4 : (0 ≤ s ∧ s ≤ c 9 1 - 1) ∧ (0 ≤ a ∧ a ≤ c 9 1 - 1) ∧ (0 ≤ b ∧ b ≤ c 9 1 - 1) → (0 ≤ co ∧ co ≤ 3) ∧ (0 ≤ dy ∧ dy ≤ 999) → s = a ∨ s = b → Q (sumN (hrdF c a b co (c 10 s.toNat) dy) (c 15 2).toNat) (mx_up g 99 0 0)) : zC T (d + 3) 237 [mx_R 99, mx_I s, mx_I a, mx_I b, mx_I co, mx_I dy] g Q X := by
  have hw := wb.1
  refine zX12_heard ?_
  rintro _ rfl
  have h0 : ReL c (mx_up g 99 0 0) := hl.fr (ch_0 g 0) (by decide) (by decide)
  have h1 : ReB c (mx_up g 99 0 0) := hb'.fr (ch_0 g 0) (by decide) (by decide)
  have h2 : ReE c (mx_up g 99 0 0) := h.fr (ch_0 g 0) (by decide) (by decide)
  have main : (0 ≤ s ∧ s ≤ c 9 1 - 1) ∧ (0 ≤ a ∧ a ≤ c 9 1 - 1) ∧ (0 ≤ b ∧ b ≤ c 9 1 - 1) → (0 ≤ co ∧ co ≤ 3) ∧ (0 ≤ dy ∧ dy ≤ 999) → s = a ∨ s = b → ∀ i : Nat, i ≤ (c 15 2).toNat → aX12_heard T (d + 2) Q X 79 [some (mx_R 99), some (mx_I s), some (mx_I a), some (mx_I b), some (mx_I co), some (mx_I dy), some (mx_J (sumN (hrdF c a b co (c 10 s.toNat) dy) i)), none, some (mx_I (i : Int))] [] (mx_up g 99 0 0) (0, 0) := by
    intro z1 z2 z3
    have w1 := w.1
    have hs1 := (wb.2.1 s.toNat (by omega)).1
    have es := (h1.2.1 s.toNat (by omega)).1
    refine upto ?_ (fun i hi ih => ?_)
    · refine zX12_heard_79 ?_
      rw [h2.1]
      first | with_reducible refine c_lt ?_ ?_ (fun hi2 => ?_) (fun hi2 => ?_) | with_reducible refine c_le ?_ ?_ (fun hi2 => ?_) (fun hi2 => ?_) | with_reducible refine c_eq ?_ ?_ (fun hi2 => ?_) (fun hi2 => ?_) | with_reducible refine c_ne ?_ ?_ (fun hi2 => ?_) (fun hi2 => ?_)
      · omega
      · omega
      · exact k4 z1 z2 z3
      · omega
    · refine zX12_heard_79 ?_
      rw [h2.1]
      first | with_reducible refine c_lt ?_ ?_ (fun hi2 => ?_) (fun hi2 => ?_) | with_reducible refine c_le ?_ ?_ (fun hi2 => ?_) (fun hi2 => ?_) | with_reducible refine c_eq ?_ ?_ (fun hi2 => ?_) (fun hi2 => ?_) | with_reducible refine c_ne ?_ ?_ (fun hi2 => ?_) (fun hi2 => ?_)
      · omega
      · omega
      · omega
      · have wi := w.2.1 i (by omega)
        have ri := h2.2 i (by omega)
        have hli := h0.lag wl (i := (c 17 i * 8 + c 10 s.toNat).toNat) (by omega)
        refine s_inN ?_ (fun ea => ?_)
        · omega
        try simp only [ea]
        clear ea
        refine s_inN ?_ (fun ea => ?_)
        · omega
        try simp only [ea]
        clear ea
        refine s_in ?_ (fun ea => ?_)
        · omega
        try simp only [ea]
        clear ea
        rw [ri.1, ri.2.1, es]
        refine sX12_heardOn (by omega) (by omega) ?_
        have no : ¬ (¬ c 3 (c 17 i * 8 + c 10 s.toNat).toNat = -1 ∧ c 16 i + c 3 (c 17 i * 8 + c 10 s.toNat).toNat ≤ dy) → hrdF c a b co (c 10 s.toNat) dy i = 0 := fun z => if_neg z
        have yes : (¬ c 3 (c 17 i * 8 + c 10 s.toNat).toNat = -1 ∧ c 16 i + c 3 (c 17 i * 8 + c 10 s.toNat).toNat ≤ dy) → hrdF c a b co (c 10 s.toNat) dy i = partC c a b co i := fun z => if_pos z
        first | with_reducible refine c_lt ?_ ?_ (fun z4 => ?_) (fun z4 => ?_) | with_reducible refine c_le ?_ ?_ (fun z4 => ?_) (fun z4 => ?_) | with_reducible refine c_eq ?_ ?_ (fun z4 => ?_) (fun z4 => ?_) | with_reducible refine c_ne ?_ ?_ (fun z4 => ?_) (fun z4 => ?_)
        · omega
        · omega
        · refine zX12_heard_132 ?_
          have e : sumN (hrdF c a b co (c 10 s.toNat) dy) (i + 1) = sumN (hrdF c a b co (c 10 s.toNat) dy) i := by
            show sumN (hrdF c a b co (c 10 s.toNat) dy) i + hrdF c a b co (c 10 s.toNat) dy i = _
            rw [no (by omega), Int.add_zero]
          rw [e] at ih
          exact ih
        · refine sX12_part w h2 (by omega) (by omega) (by omega) (by omega) (zX12_heard_132 ?_)
          rw [← yes (by omega)]
          exact ih
  repeat' first
    | with_reducible refine zX12_heard_29 ?_
    | with_reducible refine zX12_heard_51 ?_
    | with_reducible refine zX12_heard_73 ?_
    | with_reducible refine zX12_heard_132 ?_
    | with_reducible refine sX11_needFound (fun _ => ?_) (fun _ => ?_)
    | with_reducible refine sX11_needArgument (fun _ => ?_) (fun _ => ?_)
    | with_reducible refine sX11_needState (fun _ => ?_) (fun _ => ?_)
    | with_reducible refine sX11_needPlace (fun _ => ?_) (fun _ => ?_)
    | with_reducible refine nF_t ?_
    | with_reducible refine nF_f ?_
    | with_reducible refine nA_t ?_
    | with_reducible refine nA_f ?_
    | with_reducible refine nS_t ?_
    | with_reducible refine nS_f ?_
    | with_reducible refine nP_t ?_
    | with_reducible refine nP_f ?_
    | with_reducible refine sX11_isTown (by omega) (by omega) ?_
    | with_reducible refine sX11_isBroker (by omega) (by omega) ?_
    | with_reducible refine sX11_isWord (by omega) (by omega) ?_
    | with_reducible refine sX11_isCoin (by omega) ?_
    | with_reducible refine sX11_isDay (by omega) ?_
    | with_reducible refine sX11_isTray (by omega) ?_
    | with_reducible refine sX12_isTray (by omega) ?_
    | with_reducible refine sX11_within (by omega) (by omega) (by omega) ?_
    | with_reducible refine sX12_isTownC (by assumption) (by assumption) (by omega) ?_
    | with_reducible refine sX12_isBrokerC (by assumption) (by assumption) (by omega) ?_
    | with_reducible refine sX12_isCoin (by omega) ?_
    | with_reducible refine sX12_isDay (by omega) ?_
    | with_reducible refine sX12_withinW (by omega) (by omega) (by omega) ?_
    | with_reducible refine sX12_fails ?_
    | with_reducible refine b_eq (fun _ => ?_) (fun _ => ?_)
    | with_reducible refine b_ne (fun _ => ?_) (fun _ => ?_)
    | with_reducible refine c_lt (by omega) (by omega) (fun _ => ?_) (fun _ => ?_)
    | with_reducible refine c_le (by omega) (by omega) (fun _ => ?_) (fun _ => ?_)
    | with_reducible refine c_eq (by omega) (by omega) (fun _ => ?_) (fun _ => ?_)
    | with_reducible refine c_ne (by omega) (by omega) (fun _ => ?_) (fun _ => ?_)
    | with_reducible refine l_gt (by omega) (by omega) (fun _ => ?_) (fun _ => ?_)
    | with_reducible refine l_lt (by omega) (by omega) (fun _ => ?_) (fun _ => ?_)
    | with_reducible refine l_ge (by omega) (by omega) (fun _ => ?_) (fun _ => ?_)
    | with_reducible refine l_le (by omega) (by omega) (fun _ => ?_) (fun _ => ?_)
    | with_reducible refine l_eq (by omega) (by omega) (fun _ => ?_) (fun _ => ?_)
    | with_reducible refine l_ne (by omega) (by omega) (fun _ => ?_) (fun _ => ?_)
    | refine ⟨by decide, by decide, ?_⟩
    | fail
  any_goals first | exact k1 (by omega) | exact k2 (by omega) (by omega) | exact k3 (by omega) (by omega) (by omega)
  all_goals exact main (by omega) (by omega) (by omega) 0 (by omega)
theorem C_heard {T : Nat × (Nat → Int32)} {d : Nat} {X X' : mz_X} {g : mz_S} {s a b co dy : Int} (wl : IL g) (wb : IB g) (w : IE g) (hs : R32 s) (ha : R32 a) (hb : R32 b) (hc : R32 co) (hd : R32 dy) : zC T (d + 5) 368 [mx_R 0, mx_I s, mx_I a, mx_I b, mx_I co, mx_I dy, mx_R 179] g (fun kk g1 => zC T (d + 5) 237 [mx_R 99, mx_I s, mx_I a, mx_I b, mx_I co, mx_I dy] g1 (fun r g2 => AnsI kk r g2 ∧ Qy [179] [0] g g2) X') X := by
  refine wL_heard (sX11_heard wl.1 wb.1 w.1 hs ha hb hc hd (fun h1 => Or.inl ⟨rfl, ?_⟩) (fun h1 h2 => Or.inr (Or.inl ⟨rfl, ?_⟩)) (fun h1 h2 h3 => Or.inr (Or.inr ⟨rfl, ?_⟩)) (fun h1 h2 h3 => ?_))
  · exact sX12_heard wl.1 wb.1 w.1 wl.2.2.1 wb.2.1 w.2.2.1 hs ha hb hc hd (fun _ => qy_bad (Ch.rf g) (fun z => z) (by decide) 1 (by omega)) (fun z => absurd z h1) (fun z => absurd z h1) (fun z => absurd z h1)
  · exact sX12_heard wl.1 wb.1 w.1 wl.2.2.1 wb.2.1 w.2.2.1 hs ha hb hc hd (fun z => absurd h1 z) (fun _ _ => qy_bad (Ch.rf g) (fun z => z) (by decide) 2 (by omega)) (fun _ z => absurd z h2) (fun _ z => absurd z h2)
  · exact sX12_heard wl.1 wb.1 w.1 wl.2.2.1 wb.2.1 w.2.2.1 hs ha hb hc hd (fun z => absurd h1 z) (fun _ z => absurd h2 z) (fun _ _ _ => qy_bad (Ch.rf g) (fun z => z) (by decide) 3 (by omega)) (fun _ _ z => absurd z h3)
  · have c1 : Ch [179] [0] g (mx_up g 179 0 (w32 (sumN (hrdF g a b co (g 10 s.toNat) dy) (g 15 2).toNat))) := (Ch.rf g).up (by decide) (by decide)
    refine sX12_heard wl.1 wb.1 w.1 (wl.2.2.1.fr c1 (by decide) (by decide)) (wb.2.1.fr c1 (by decide) (by decide)) (w.2.2.1.fr c1 (by decide) (by decide)) hs ha hb hc hd (fun z => absurd h1 z) (fun _ z => absurd h2 z) (fun _ _ z => absurd h3 z) (fun _ _ _ => ?_)
    exact ⟨⟨by omega, up_s, fun _ => by rw [up_q (by decide), up_s]⟩, c1.up9 (by decide), fun z => z.fr (c1.up9 (by decide)) (by decide)⟩
