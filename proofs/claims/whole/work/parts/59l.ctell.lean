/-! the call tell -/
theorem IW.new {g g2 : mz_S} {m : Nat} (w : IW g) (em : g 48 4 = (m : Int)) (e9 : g2 9 1 = g 9 1) (e48 : g2 48 4 = ((m + 1 : Nat) : Int)) (hm : m < 100) (e55 : g2 99 55 = ((m + 1 : Nat) : Int)) (old : ∀ i, i < m → ∀ q ∈ [49, 50, 51, 52, 53, 54, 55, 56, 57, 59, 60, 61, 134, 135, 136, 137, 138, 139, 140, 141, 142, 144, 145, 146], g2 q i = g q i) (old58 : ∀ i, i < m → g2 143 i = g2 58 i ∧ (-1 ≤ g2 58 i ∧ g2 58 i < ((m + 1 : Nat) : Int) ∧ ¬ g2 58 i = i) ∧ (¬ g2 58 i = -1 → g2 49 (g2 58 i).toNat = g 49 i) ∧ (g 60 i = 1 → ¬ g2 58 i = -1)) (new : WdI g2 m ∧ WdR g2 g2 m) (rest : ∀ i, i < 100 → m < i → g2 57 i = g 57 i ∧ g2 59 i = g 59 i ∧ g2 60 i = g 60 i ∧ g2 61 i = g 61 i) : IW g2 := by
  obtain ⟨⟨w1, w2, w3⟩, w4, w5⟩ := w
  rw [em] at w1 w2 w3 w4 w5
  refine ⟨⟨by omega, fun i hi => ?_, fun i h1 h2 => ?_⟩, by rw [e55, e48], fun i hi => ?_⟩
  · rw [e48] at hi
    by_cases z : i = m
    · rw [z]; exact new.1
    · have f := old i (by omega)
      have o58 := old58 i (by omega)
      have wi := w2 i (by omega)
      unfold WdI at wi ⊢
      rw [f 49 (by decide), f 50 (by decide), f 51 (by decide), f 52 (by decide), f 53 (by decide), f 54 (by decide), f 55 (by decide), f 56 (by decide), f 60 (by decide), f 61 (by decide), e9, e48]
      obtain ⟨a1, a2, a3, a4, a5, a6, a7, a8, a9, a10, a11, a12, a13⟩ := wi
      exact ⟨a1, a2, a3, a4, a5, a6, a7, a8, o58.2.1, o58.2.2.1, ⟨a11.1, o58.2.2.2⟩, a12, a13⟩
  · rw [e48] at h2
    obtain ⟨r1, r2, r3, r4⟩ := rest i h1 (by omega)
    rw [r1, r2, r3, r4]
    exact w3 i h1 (by omega)
  · rw [e48] at hi
    by_cases z : i = m
    · rw [z]; exact new.2
    · have f := old i (by omega)
      have o58 := old58 i (by omega)
      have wi := w5 i (by omega)
      unfold WdR at wi ⊢
      rw [f 49 (by decide), f 50 (by decide), f 51 (by decide), f 52 (by decide), f 53 (by decide), f 54 (by decide), f 55 (by decide), f 56 (by decide), f 57 (by decide), f 59 (by decide), f 60 (by decide), f 61 (by decide), f 134 (by decide), f 135 (by decide), f 136 (by decide), f 137 (by decide), f 138 (by decide), f 139 (by decide), f 140 (by decide), f 141 (by decide), f 142 (by decide), f 144 (by decide), f 145 (by decide), f 146 (by decide)]
      obtain ⟨r1, r2, r3, r4, r5, r6, r7, r8, r9, r10, r11, r12, r13⟩ := wi
      exact ⟨r1, r2, r3, r4, r5, r6, r7, r8, r9, o58.1, r11, r12, r13⟩
abbrev taP (g : mz_S) (a b co n s : Int) : Prop := ¬ a = b ∧ (0 ≤ co ∧ co ≤ 3) ∧ (1 ≤ n ∧ n ≤ 100000) ∧ (0 ≤ s ∧ s ≤ 32767)
theorem sX11_tell {T : Nat × (Nat → Int32)} {d : Nat} {Q : mz_K} {X : mz_X} {g : mz_S} {a b co n s : Int} {nt : Nat} {W : Int} {al : Nat → List pA} (wl : WfL g) (wb : WfB g) (wg : WfG g) (w : WfW g) (tw : TxW g nt al) (wk : WkS W g) (hW : W + 3 < 2147483647) (ha : R32 a) (hb : R32 b) (hc : R32 co) (hn : R32 n) (hs : R32 s)
    (k1 : ¬ ((0 ≤ a ∧ a ≤ g 9 1 - 1) ∧ (0 ≤ b ∧ b ≤ g 9 1 - 1)) → X 0 g) (k2 : (0 ≤ a ∧ a ≤ g 9 1 - 1) ∧ (0 ≤ b ∧ b ≤ g 9 1 - 1) → ¬ taP g a b co n s → X 1 g)
    (k3 : ∀ A B : Nat, a = (A : Int) → b = (B : Int) → (A : Int) < g 9 1 → (B : Int) < g 9 1 → taP g a b co n s → ¬ (g 48 4 < 100 ∧ ctP g nt al A B co n) → ∀ G, Ch [8, 39, 45, 46, 47] [] g G → WfC G → AsS g G → WkS (W + 4) G → X 2 G)
    (k4 : ∀ A B m : Nat, a = (A : Int) → b = (B : Int) → (A : Int) < g 9 1 → (B : Int) < g 9 1 → g 48 4 = (m : Int) → m < 100 → taP g a b co n s → ctP g nt al A B co n → ∀ G, Ch [8, 48, 49, 50, 51, 52, 53, 54, 55, 56, 58, 59, 14, 39, 45, 46, 47] [] g G → WfC G → AsS g G → WkS (W + 4) G → NwC g m nt al a b co n s A B G → G 59 = lset (g 59) m (akF g nt al A B n co 0) → G 14 = lset (g 14) (A * 4 + co).toNat (min 10000000 (g 14 (A * 4 + co).toNat + (n + w64 (akF g nt al A B n co 0)))) → Q (m : Int) G) : zC T (d + 9) 174 [mx_R 0, mx_I a, mx_I b, mx_I co, mx_I n, mx_I s] g Q X := by
  have hw := wb.1
  have w1 := w.1
  refine zX11_tell ?_
  repeat' first
    | with_reducible refine zX11_tell_20 ?_
    | with_reducible refine zX11_tell_21 ?_
    | with_reducible refine zX11_tell_63 ?_
    | with_reducible refine zX11_tell_64 ?_
    | with_reducible refine zX11_tell_96 ?_
    | with_reducible refine zX11_tell_97 ?_
    | with_reducible refine sX11_needFound (fun _ => ?_) (fun _ => ?_)
    | with_reducible refine sX11_needArgument (fun _ => ?_) (fun _ => ?_)
    | with_reducible refine sX11_needState (fun _ => ?_) (fun _ => ?_)
    | with_reducible refine sX11_needPlace (fun _ => ?_) (fun _ => ?_)
    | with_reducible refine nF_t ?_
    | with_reducible refine nF_f ?_
    | with_reducible refine nA_t ?_
    | with_reducible refine nA_f ?_
    | with_reducible refine nS_t ?_
    | with_reducible refine nS_f ?_
    | with_reducible refine nP_t ?_
    | with_reducible refine nP_f ?_
    | with_reducible refine sX11_isTown (by omega) (by omega) ?_
    | with_reducible refine sX11_isBroker (by omega) (by omega) ?_
    | with_reducible refine sX11_isWord (by omega) (by omega) ?_
    | with_reducible refine sX11_isCoin (by omega) ?_
    | with_reducible refine sX11_isDay (by omega) ?_
    | with_reducible refine sX11_isTray (by omega) ?_
    | with_reducible refine sX12_isTray (by omega) ?_
    | with_reducible refine sX11_within (by omega) (by omega) (by omega) ?_
    | with_reducible refine sX12_isTownC (by assumption) (by assumption) (by omega) ?_
    | with_reducible refine sX12_isBrokerC (by assumption) (by assumption) (by omega) ?_
    | with_reducible refine sX12_isCoin (by omega) ?_
    | with_reducible refine sX12_isDay (by omega) ?_
    | with_reducible refine sX12_withinW (by omega) (by omega) (by omega) ?_
    | with_reducible refine sX12_fails ?_
    | with_reducible refine b_eq (fun _ => ?_) (fun _ => ?_)
    | with_reducible refine b_ne (fun _ => ?_) (fun _ => ?_)
    | with_reducible refine c_lt (by omega) (by omega) (fun _ => ?_) (fun _ => ?_)
    | with_reducible refine c_le (by omega) (by omega) (fun _ => ?_) (fun _ => ?_)
    | with_reducible refine c_eq (by omega) (by omega) (fun _ => ?_) (fun _ => ?_)
    | with_reducible refine c_ne (by omega) (by omega) (fun _ => ?_) (fun _ => ?_)
    | with_reducible refine l_gt (by omega) (by omega) (fun _ => ?_) (fun _ => ?_)
    | with_reducible refine l_lt (by omega) (by omega) (fun _ => ?_) (fun _ => ?_)
    | with_reducible refine l_ge (by omega) (by omega) (fun _ => ?_) (fun _ => ?_)
    | with_reducible refine l_le (by omega) (by omega) (fun _ => ?_) (fun _ => ?_)
    | with_reducible refine l_eq (by omega) (by omega) (fun _ => ?_) (fun _ => ?_)
    | with_reducible refine l_ne (by omega) (by omega) (fun _ => ?_) (fun _ => ?_)
    | refine ⟨by decide, by decide, ?_⟩
    | fail
  any_goals first | exact k1 (by omega) | exact k2 (by omega) (by omega)
  have h1 : (0 ≤ a ∧ a ≤ g 9 1 - 1) ∧ (0 ≤ b ∧ b ≤ g 9 1 - 1) := by omega
  have h2 : taP g a b co n s := by unfold taP; omega
  obtain ⟨A, eA⟩ := Int.eq_ofNat_of_zero_le h1.1.1
  obtain ⟨B, eB⟩ := Int.eq_ofNat_of_zero_le h1.2.1
  obtain ⟨m, em⟩ := Int.eq_ofNat_of_zero_le w1.1
  have K3 := k3 A B eA eB (by omega) (by omega) h2
  refine zX10_hasRoom ?_
  first | with_reducible refine c_lt ?_ ?_ (fun h3 => ?_) (fun h3 => ?_) | with_reducible refine c_le ?_ ?_ (fun h3 => ?_) (fun h3 => ?_) | with_reducible refine c_eq ?_ ?_ (fun h3 => ?_) (fun h3 => ?_) | with_reducible refine c_ne ?_ ?_ (fun h3 => ?_) (fun h3 => ?_)
  · omega
  · omega
  · refine zX10_hasRoom_14 ⟨zb0, ?_⟩
    refine ⟨fun _ => ?_, fun z => absurd rfl z⟩
    exact zX11_tell_96 (zX11_tell_97 ⟨by decide, by decide, nS_f (K3 (fun z => by omega) g (Ch.rf g) wl.2 (AsS.rf g) (wk.wk (by omega)))⟩)
  · refine zX10_hasRoom_14 ⟨zb1, ?_⟩
    refine ⟨fun z => absurd z (by decide), fun _ => ?_⟩
    have K4 := k4 A B m eA eB (by omega) (by omega) em (by omega) h2
    subst eA eB
    refine sX10_canTell (d := d) wl wb wg tw wk (by omega) (by omega) (by omega) (by omega) h2.2.2.1 (fun G c1 wc s1 kk => ?_)
    first | with_reducible refine b_eq (fun h4 => ?_) (fun h4 => ?_) | with_reducible refine b_ne (fun h4 => ?_) (fun h4 => ?_)
    · exact zX11_tell_96 (zX11_tell_97 ⟨by decide, by decide, nS_f (K3 (fun z => h4 z.2) G c1 wc s1 (kk.wk (by omega)))⟩)
    · refine zX11_tell_97 ⟨by decide, by decide, nS_t ?_⟩
      refine sX10_addTold (c := g) (d := d) (m := m) (wl.1.ch c1 (by decide)) (wb.ch c1 (by decide)) tw s1 kk (by omega) (by omega) (by omega) (by rw [c1.1 48 (by decide) (by decide)]; exact em) (by omega) (by omega) h2.2.2.1 (fun G2 c2 s2 k2 nw e59 e14 => ?_)
      refine K4 h4 G2 ((c1.sub (by decide) (by decide)).tr (c2.sub (by decide) (by decide))) (wc.fr c2 (by decide)) s2 (k2.wk (by omega)) ?_ (by rw [e59, c1.1 59 (by decide) (by decide)]) (by rw [e14, c1.1 14 (by decide) (by decide)])
      unfold NwC at nw ⊢
      rw [s1.ak] at nw
      rw [c1.1 48 (by decide) (by decide), c1.1 49 (by decide) (by decide), c1.1 50 (by decide) (by decide), c1.1 51 (by decide) (by decide), c1.1 52 (by decide) (by decide), c1.1 53 (by decide) (by decide), c1.1 54 (by decide) (by decide), c1.1 55 (by decide) (by decide), c1.1 56 (by decide) (by decide), c1.1 58 (by decide) (by decide), c1.1 1 (by decide) (by decide), c1.1 3 (by decide) (by decide), c1.1 10 (by decide) (by decide)] at nw
      exact nw
theorem sX12_tell {T : Nat × (Nat → Int32)} {d : Nat} {Q : mz_K} {X : mz_X} {g : mz_S} {c : mz_S} {a b co n s : Int} {nt : Nat} {al : Nat → List pA} (wl : WfL0 c) (wb : WfB c) (wg : WfG c) (wn : WfN c) (w : WfW c) (rl : ReL c g) (rb : ReB c g) (re : ReE c g) (rw' : ReW c g) (tw : TxW c nt al) (h36 : g 99 36 = (nt : Int)) (et : ∀ q ∈ [120, 121, 122, 123, 124, 125, 126, 127, 128, 129], g q = c q) (ha : R32 a) (hb : R32 b) (hc : R32 co) (hn : R32 n) (hs : R32 s)
    (k1 : ¬ ((0 ≤ a ∧ a ≤ c 9 1 - 1) ∧ (0 ≤ b ∧ b ≤ c 9 1 - 1)) → Q 0 (mx_up (mx_up g 99 0 0) 99 0 1)) (k2 : (0 ≤ a ∧ a ≤ c 9 1 - 1) ∧ (0 ≤ b ∧ b ≤ c 9 1 - 1) → ¬ taP c a b co n s → Q 0 (mx_up (mx_up g 99 0 0) 99 0 2))
    (k3 : ∀ A B : Nat, a = (A : Int) → b = (B : Int) → (A : Int) < c 9 1 → (B : Int) < c 9 1 → taP c a b co n s → ¬ (c 48 4 < 100 ∧ ctP c nt al A B co n) → ∀ G, Ch [130, 131, 132, 133] [0, 50, 54] g G → Q 0 (mx_up G 99 0 3))
    (k4 : ∀ A B m : Nat, a = (A : Int) → b = (B : Int) → (A : Int) < c 9 1 → (B : Int) < c 9 1 → c 48 4 = (m : Int) → m < 100 → taP c a b co n s → ctP c nt al A B co n → ∀ (G : mz_S) (v : Int), Ch [134, 135, 136, 137, 138, 139, 140, 141, 142, 143, 144, 145, 146, 110, 130, 131, 132, 133] [0, 50, 54, 55] g G → G 99 0 = 0 → (∀ H : mz_S, H 144 = lset (g 144) m 0 → (∀ q, q ≠ 144 → H q = G q) → NwR c g m nt al a b co n s A B H) → G 144 = lset (g 144) m (akF c nt al A B n co 0) → w32 v = min 10000000 (c 14 (A * 4 + co).toNat + (n + w64 (akF c nt al A B n co 0))) → G 110 = lset (g 110) (A * 4 + co).toNat v → Q (m : Int) G) : zC T (d + 6) 275 [mx_R 99, mx_I a, mx_I b, mx_I co, mx_I n, mx_I s] g Q X := by
  have hw := wb.1
  have w1 := w.1
  refine zX12_tell ?_
  intro g1 e1
  have c1 : Ch [] [0] g g1 := by rw [e1]; exact ch_0 g 0
  have z0 : g1 99 0 = 0 := by rw [e1, up_s]
  rw [← e1] at k1 k2
  have rl := rl.fr c1 (by decide) (by decide)
  have rb := rb.fr c1 (by decide) (by decide)
  have re := re.fr c1 (by decide) (by decide)
  have rw' := rw'.fr c1 (by decide) (by decide)
  repeat' first
    | with_reducible refine zX12_tell_21 ?_
    | with_reducible refine zX12_tell_65 ?_
    | with_reducible refine zX12_tell_120 ?_
    | with_reducible refine zX12_tell_181 ?_
    | with_reducible refine sX11_needFound (fun _ => ?_) (fun _ => ?_)
    | with_reducible refine sX11_needArgument (fun _ => ?_) (fun _ => ?_)
    | with_reducible refine sX11_needState (fun _ => ?_) (fun _ => ?_)
    | with_reducible refine sX11_needPlace (fun _ => ?_) (fun _ => ?_)
    | with_reducible refine nF_t ?_
    | with_reducible refine nF_f ?_
    | with_reducible refine nA_t ?_
    | with_reducible refine nA_f ?_
    | with_reducible refine nS_t ?_
    | with_reducible refine nS_f ?_
    | with_reducible refine nP_t ?_
    | with_reducible refine nP_f ?_
    | with_reducible refine sX11_isTown (by omega) (by omega) ?_
    | with_reducible refine sX11_isBroker (by omega) (by omega) ?_
    | with_reducible refine sX11_isWord (by omega) (by omega) ?_
    | with_reducible refine sX11_isCoin (by omega) ?_
    | with_reducible refine sX11_isDay (by omega) ?_
    | with_reducible refine sX11_isTray (by omega) ?_
    | with_reducible refine sX12_isTray (by omega) ?_
    | with_reducible refine sX11_within (by omega) (by omega) (by omega) ?_
    | with_reducible refine sX12_isTownC (by assumption) (by assumption) (by omega) ?_
    | with_reducible refine sX12_isBrokerC (by assumption) (by assumption) (by omega) ?_
    | with_reducible refine sX12_isCoin (by omega) ?_
    | with_reducible refine sX12_isDay (by omega) ?_
    | with_reducible refine sX12_withinW (by omega) (by omega) (by omega) ?_
    | with_reducible refine sX12_fails ?_
    | with_reducible refine b_eq (fun _ => ?_) (fun _ => ?_)
    | with_reducible refine b_ne (fun _ => ?_) (fun _ => ?_)
    | with_reducible refine c_lt (by omega) (by omega) (fun _ => ?_) (fun _ => ?_)
    | with_reducible refine c_le (by omega) (by omega) (fun _ => ?_) (fun _ => ?_)
    | with_reducible refine c_eq (by omega) (by omega) (fun _ => ?_) (fun _ => ?_)
    | with_reducible refine c_ne (by omega) (by omega) (fun _ => ?_) (fun _ => ?_)
    | with_reducible refine l_gt (by omega) (by omega) (fun _ => ?_) (fun _ => ?_)
    | with_reducible refine l_lt (by omega) (by omega) (fun _ => ?_) (fun _ => ?_)
    | with_reducible refine l_ge (by omega) (by omega) (fun _ => ?_) (fun _ => ?_)
    | with_reducible refine l_le (by omega) (by omega) (fun _ => ?_) (fun _ => ?_)
    | with_reducible refine l_eq (by omega) (by omega) (fun _ => ?_) (fun _ => ?_)
    | with_reducible refine l_ne (by omega) (by omega) (fun _ => ?_) (fun _ => ?_)
    | refine ⟨by decide, by decide, ?_⟩
    | fail
  any_goals first | exact k1 (by omega) | exact k2 (by omega) (by omega)
  have h1 : (0 ≤ a ∧ a ≤ c 9 1 - 1) ∧ (0 ≤ b ∧ b ≤ c 9 1 - 1) := by omega
  have h2 : taP c a b co n s := by unfold taP; omega
  obtain ⟨A, eA⟩ := Int.eq_ofNat_of_zero_le h1.1.1
  obtain ⟨B, eB⟩ := Int.eq_ofNat_of_zero_le h1.2.1
  obtain ⟨m, em⟩ := Int.eq_ofNat_of_zero_le w1.1
  have K3 := k3 A B eA eB (by omega) (by omega) h2
  have K4 := k4 A B m eA eB (by omega) (by omega) em
  subst eA eB
  have ra := wb.2.1 A (by omega)
  have rb' := wb.2.1 B (by omega)
  have wn' : w32 n = n := w32_of hn.1 hn.2
  have no : ¬ (c 48 4 < 100 ∧ ctP c nt al A B co n) → aX12_tell T (d + 5) Q X 120 [some (mx_R 99), some (mx_I (A : Int)), some (mx_I (B : Int)), some (mx_I co), some (mx_I n), some (mx_I s), some (mx_I (c 10 A)), none] [] g1 (0, 0) := fun z => zX12_tell_120 (sX12_fails (K3 z g1 (c1.sub (by decide) (by decide))))
  refine s_inN ?_ (fun ea => ?_)
  · omega
  try simp only [ea]
  clear ea
  rw [(rb.2.1 A (by omega)).1, rw'.1]
  first | with_reducible refine c_lt ?_ ?_ (fun h3 => ?_) (fun h3 => ?_) | with_reducible refine c_le ?_ ?_ (fun h3 => ?_) (fun h3 => ?_) | with_reducible refine c_eq ?_ ?_ (fun h3 => ?_) (fun h3 => ?_) | with_reducible refine c_ne ?_ ?_ (fun h3 => ?_) (fun h3 => ?_)
  · omega
  · omega
  · exact no (fun z => by omega)
  refine sX12_hasFallen wb rb (by omega) ?_
  rw [show ((A : Int)).toNat = A by omega]
  first | with_reducible refine b_eq (fun h4 => ?_) (fun h4 => ?_) | with_reducible refine b_ne (fun h4 => ?_) (fun h4 => ?_)
  · exact no (fun z => h4 z.2.1)
  refine sX12_hasFallen wb rb (by omega) ?_
  rw [show ((B : Int)).toNat = B by omega]
  first | with_reducible refine b_eq (fun h5 => ?_) (fun h5 => ?_) | with_reducible refine b_ne (fun h5 => ?_) (fun h5 => ?_)
  · exact no (fun z => h5 z.2.2.1)
  refine s_inN ?_ (fun ea => ?_)
  · omega
  try simp only [ea]
  clear ea
  rw [(rb.2.1 B (by omega)).1]
  refine sX12_lagOf (c := c) wl rl (by omega) (by omega) ?_
  have lb := wl.2.2.2.1 (c 10 A * 8 + c 10 B).toNat (by omega)
  first | with_reducible refine c_lt ?_ ?_ (fun h6 => ?_) (fun h6 => ?_) | with_reducible refine c_le ?_ ?_ (fun h6 => ?_) (fun h6 => ?_) | with_reducible refine c_eq ?_ ?_ (fun h6 => ?_) (fun h6 => ?_) | with_reducible refine c_ne ?_ ?_ (fun h6 => ?_) (fun h6 => ?_)
  · omega
  · omega
  rotate_left
  · exact no (fun z => z.2.2.2.1 h6)
  rw [wn']
  refine sX12_asksG (c := c) (d := d) wl rl wb rb tw (by rw [c1.2 36 (by decide)]; exact h36) (fun q hq => by rw [c1.1 q (by simp) (by intro z; subst z; revert hq; decide)]; exact et q hq) (by omega) (by omega) (fun G2 c2 v2 => ?_)
  have c12 : Ch [130, 131, 132, 133] [0, 50, 54] g G2 := (c1.sub (by decide) (by decide)).tr (c2.sub (by decide) (by decide))
  have z02 : G2 99 0 = 0 := by rw [c2.2 0 (by decide), z0]
  have no2 : ¬ (c 48 4 < 100 ∧ ctP c nt al A B co n) → aX12_tell T (d + 5) Q X 181 [some (mx_R 99), some (mx_I (A : Int)), some (mx_I (B : Int)), some (mx_I co), some (mx_I n), some (mx_I s), some (mx_I (c 10 A)), none] [] G2 (0, 0) := fun z => zX12_tell_181 (sX12_fails (K3 z G2 c12))
  have rl2 := rl.fr c2 (by decide) (by decide)
  have rb2 := rb.fr c2 (by decide) (by decide)
  have re2 := re.fr c2 (by decide) (by decide)
  have rg8 := akF_rng (g := c) (nt := nt) (al := al) (a := A) (b := B) (n := n) (coin := co) (s := 8) (by decide)
  have rg8' : 0 ≤ w64 (akF c nt al A B n co 8) ∧ w64 (akF c nt al A B n co 8) ≤ 1 := rg8
  have rg0 := akF_rng (g := c) (nt := nt) (al := al) (a := A) (b := B) (n := n) (coin := co) (s := 0) (by decide)
  have rg0' : 0 ≤ w64 (akF c nt al A B n co 0) ∧ w64 (akF c nt al A B n co 0) ≤ 100000 := rg0
  refine ⟨zin (by omega) (by omega) (by omega), ?_⟩
  rw [show mx_at 8 = 8 by decide, v2 8 (by decide), lc_eq, show w64 0 = 0 by decide]
  refine ⟨fun h7 => no2 (fun z => z.2.2.2.2.1 (by omega)), fun h7 => ?_⟩
  refine sX12_debt (d := d + 1) (c := c) wl wg wn rl2 re2 (by omega) (by omega) (by omega) ?_
  rw [rl2.1]
  refine sX12_worth (d := d + 2) (c := c) wl rl2 (by omega) (by omega) (by omega) ?_
  refine ⟨zin (by omega) (by omega) (by omega), ?_⟩
  have db := debtC_bnd (t := c 10 A) wl wg (show A < 12 by omega) (show B < 12 by omega)
  have wbn := worthC_bnd (c := co) (t := c 10 A) wl (n := n) (B := 100000) (by omega) (by omega)
  rw [show mx_at 2 = 2 by decide, v2 2 (by decide), lc_le, w64_of (n := debtC c A B (c 10 A) + worthC c n co (c 10 A)) (by omega) (by omega)]
  refine ⟨fun h8 => ?_, fun h8 => no2 (fun z => h8 z.2.2.2.2.2)⟩
  have ct : ctP c nt al A B co n := ⟨by omega, by omega, h6, by omega, h8⟩
  have K4 := K4 (by omega) h2 ct
  refine sX12_comes (c := c) (d := d + 3) (m := m) wl wb rl2 (fun j hj => (rb2.2.1 j hj).1) (by omega) (by omega) (by rw [c2.2 55 (by decide), rw'.1, em]) (by omega) h6 (v2 1 (by decide)) (fun G3 c3 nw => ?_)
  refine ⟨zin (by omega) (by omega) (by omega), ?_⟩
  rw [show mx_at 0 = 0 by decide]
  refine s_inN ?_ (fun ea => ?_)
  · omega
  try simp only [ea]
  clear ea
  intro G4 e4
  have c4 : Ch [144] [] G3 G4 := by rw [e4]; exact (Ch.rf G3).up (by decide) (by decide)
  have f133 : G3 133 0 = akF c nt al A B n co 0 := by rw [c3.1 133 (by decide) (by decide), v2 0 (by decide)]
  refine ⟨zin (by omega) (by omega) (by omega), ?_⟩
  rw [c4.1 133 (by decide) (by decide), f133]
  have c24 : Ch [134, 135, 136, 137, 138, 139, 140, 141, 142, 143, 144, 145, 146] [55] G2 G4 := (c3.sub (by decide) (by decide)).tr (c4.sub (by decide) (by decide))
  have o14 := wb.2.2 (A * 4 + co).toNat (by omega)
  refine sX12_gets (d := d + 3) (o := c 14 (A * 4 + co).toNat) (n' := n + w64 (akF c nt al A B n co 0)) (by omega) (by omega) (by rw [c24.1 110 (by decide) (by decide), rb2.2.2 _ (by omega), w32_of (by omega) (by omega)]) (by omega) (by
    rw [w64_bm, w64_bm (akF c nt al A B n co 0), w64_bm]
    rw [Int.bmod_def, Int.bmod_def, Int.bmod_def]
    split <;> split <;> split <;> omega) (by omega) (fun v hv => ?_)
  have c5 : Ch [110] [] G4 (mx_up G4 110 ((A : Int) * 4 + co).toNat v) := (Ch.rf G4).up (by decide) (by decide)
  refine K4 _ v (((c12.sub (by decide) (by decide)).tr (c24.sub (by decide) (by decide))).tr (c5.sub (by decide) (by decide))) (by rw [c5.2 0 (by decide), c24.2 0 (by decide), z02]) (fun H h144 hq => ?_) ?_ hv ?_
  · unfold NwR at nw ⊢
    have f : ∀ q ∈ [134, 135, 136, 137, 138, 139, 140, 141, 142, 143, 145, 146], H q = G3 q := by
      intro q hq'
      rw [hq q (by intro z; subst z; revert hq'; decide), c5.1 q (by simp at hq' ⊢; omega) (by intro z; subst z; revert hq'; decide), c4.1 q (by simp at hq' ⊢; omega) (by intro z; subst z; revert hq'; decide)]
    have b : ∀ q ∈ [134, 135, 136, 137, 138, 139, 140, 141, 142, 143, 144, 145, 146], G2 q = g q := fun q hq' => c12.1 q (by simp at hq' ⊢; omega) (by intro z; subst z; revert hq'; decide)
    rw [b 134 (by decide), b 135 (by decide), b 136 (by decide), b 137 (by decide), b 138 (by decide), b 139 (by decide), b 140 (by decide), b 141 (by decide), b 142 (by decide), b 143 (by decide), b 144 (by decide), b 145 (by decide), b 146 (by decide)] at nw
    rw [f 134 (by decide), f 135 (by decide), f 136 (by decide), f 137 (by decide), f 138 (by decide), f 139 (by decide), f 140 (by decide), f 141 (by decide), f 142 (by decide), f 143 (by decide), f 145 (by decide), f 146 (by decide), h144, hq 99 (by decide), c5.2 55 (by decide), c4.2 55 (by decide)]
    obtain ⟨n1, n2, n3, n4, n5, n6, n7, n8, n9, n10, n11, n12, n13, n14⟩ := nw
    exact ⟨n1, n2, n3, n4, n5, n6, n7, n8, n9, n10, rfl, n12, n13, n14⟩
  · rw [c5.1 144 (by decide) (by decide), e4, up_at, if_pos rfl, f133]
    unfold NwR at nw
    rw [nw.2.2.2.2.2.2.2.2.2.2.1, c12.1 144 (by decide) (by decide)]
    funext j
    unfold lset
    split <;> rfl
  · rw [up_at, if_pos rfl, c24.1 110 (by decide) (by decide), c12.1 110 (by decide) (by decide)]
