/-! pay: the reference -/
theorem w32_sub {a b n : Int} (h : w32 a = w32 b) : w32 (a - n) = w32 (b - n) := by
  rw [w32_bm, w32_bm] at h ⊢
  rw [Int.bmod_def, Int.bmod_def] at h ⊢
  split at h <;> split at h <;> split <;> split <;> omega
def payR (c r : mz_S) (i : Nat) : mz_S := mx_up (mx_up r 110 (c 50 i * 4 + c 51 i).toNat (r 110 (c 50 i * 4 + c 51 i).toNat - c 52 i)) 141 i (c 1 0)
theorem payR_ch (c r : mz_S) (i : Nat) : Ch [110, 141] [] r (payR c r i) := ((Ch.rf r).up (by decide) (by decide)).up (by decide) (by decide)
theorem ReL.lc {S F : List Nat} {c c' r : mz_S} (h : ReL c r) (e : Ch S F c c') (hS : ∀ q ∈ [1, 3, 4, 5, 6, 7], q ∉ S) : ReL c' r := by
  have e : ∀ q ∈ [1, 3, 4, 5, 6, 7], c' q = c q := fun q hq => e.1 q (hS q hq) (by intro z; subst z; revert hq; decide)
  unfold ReL at h ⊢
  rw [e 1 (by decide), e 3 (by decide), e 4 (by decide), e 5 (by decide), e 6 (by decide), e 7 (by decide)]
  exact h
theorem payP_rb {c r : mz_S} {i : Nat} (rb : ReB c r) : ReB (payP c i) (payR c r i) := by
  have cp := payP_ch c i
  have cr := payR_ch c r i
  unfold ReB at rb ⊢
  rw [cp.1 9 (by decide) (by decide), cp.1 10 (by decide) (by decide), cp.1 11 (by decide) (by decide), cp.1 12 (by decide) (by decide), cp.1 13 (by decide) (by decide), cr.2 10 (by decide), cr.1 106 (by decide) (by decide), cr.1 107 (by decide) (by decide), cr.1 108 (by decide) (by decide), cr.1 109 (by decide) (by decide)]
  refine ⟨rb.1, rb.2.1, fun j hj => ?_⟩
  have := rb.2.2 j hj
  unfold payP payR
  simp only [up_at, if_neg (show ¬ (14 : Nat) = 56 by decide), if_neg (show ¬ (110 : Nat) = 141 by decide), if_true, lset]
  split
  · rename_i z
    subst z
    exact w32_sub this
  · exact this
theorem sX12_pay {T : Nat × (Nat → Int32)} {d : Nat} {Q : mz_K} {X : mz_X} {g : mz_S} {c : mz_S} {nt : Nat} {al : Nat → List pA} {x s : Int} (wl : WfL0 c) (wb : WfB c) (w : WfW c) (we : 0 ≤ c 15 2 ∧ c 15 2 ≤ 400) (rl : ReL c g) (rb : ReB c g) (re : g 99 16 = c 15 2) (rw' : ReW c g) (tw : TxW c nt al) (h36 : g 99 36 = (nt : Int)) (et : ∀ q ∈ [120, 121, 122, 123, 124, 125, 126, 127, 128, 129], g q = c q) (hx : R32 x) (hs : R32 s)
    (k1 : ¬ (0 ≤ x ∧ x ≤ c 48 4 - 1) → Q 0 (mx_up (mx_up g 99 0 0) 99 0 1)) (k2 : ∀ i : Nat, x = (i : Int) → (i : Int) < c 48 4 → ¬ (cpP c i ∧ c 15 2 + 1 ≤ 400) → Q 0 (mx_up (mx_up g 99 0 0) 99 0 2))
    (k3 : ∀ i : Nat, x = (i : Int) → (i : Int) < c 48 4 → cpP c i ∧ c 15 2 + 1 ≤ 400 → ¬ s = c 53 i → ∀ v, v = (if w32 (c 57 i + 1) = 3 then c 1 0 else c 55 i) → Q 0 (mx_up (mx_up (mx_up g 99 0 0) 142 i (c 57 i + 1)) 140 i v))
    (k4 : ∀ i a b : Nat, x = (i : Int) → (i : Int) < c 48 4 → cpP c i ∧ c 15 2 + 1 ≤ 400 → s = c 53 i → c 49 i = (a : Int) → c 50 i = (b : Int) → c 58 i = -1 → Q 1 (entS (payR c (mx_up g 99 0 0) i) (c 10 b) a b (c 51 i) (c 52 i) 0))
    (k5 : ∀ i a b o : Nat, x = (i : Int) → (i : Int) < c 48 4 → cpP c i ∧ c 15 2 + 1 ≤ 400 → s = c 53 i → c 49 i = (a : Int) → c 50 i = (b : Int) → c 58 i = (o : Int) → (o : Int) < c 48 4 → o ≠ i → c 56 o = -1 → Q 1 (mx_up (entS (payR c (mx_up g 99 0 0) i) (c 10 b) a b (c 51 i) (c 52 i) 0) 140 o (stV c o b (c 1 0))))
    (k6 : ∀ i a b o : Nat, x = (i : Int) → (i : Int) < c 48 4 → cpP c i ∧ c 15 2 + 1 ≤ 400 → s = c 53 i → c 49 i = (a : Int) → c 50 i = (b : Int) → c 58 i = (o : Int) → (o : Int) < c 48 4 → o ≠ i → ¬ c 56 o = -1 → ∀ H, Ch [130, 131, 132, 133] [50, 54] (payR c (mx_up g 99 0 0) i) H → (w64 (akF c nt al a b (c 52 i) (c 51 i) 7) = 0 → Q 2 H) ∧ (w64 (akF c nt al a b (c 52 i) (c 51 i) 7) = 1 → Q 1 (entS H (c 10 b) a b (c 51 i) (c 52 i) 0))) : zC T (d + 7) 280 [mx_R 99, mx_I x, mx_I s] g Q X := by
  have w0 := wl.1
  have w1 := w.1
  have wb1 := wb.1
  refine zX12_pay ?_
  intro G eG
  rw [← eG] at k1 k2 k3 k4 k5 k6
  have cG : Ch [] [0] g G := by rw [eG]; exact ch_0 g 0
  have rl := rl.fr cG (by decide) (by decide)
  have rb := rb.fr cG (by decide) (by decide)
  have rw' := rw'.fr cG (by decide) (by decide)
  have re : G 99 16 = c 15 2 := by rw [cG.2 16 (by decide)]; exact re
  have h36 : G 99 36 = (nt : Int) := by rw [cG.2 36 (by decide)]; exact h36
  have et : ∀ q ∈ [120, 121, 122, 123, 124, 125, 126, 127, 128, 129], G q = c q := fun q hq => by rw [cG.1 q (by simp) (by intro z; subst z; revert hq; decide)]; exact et q hq
  refine sX12_isWordC rw' w hx ?_
  first | with_reducible refine b_eq (fun h1 => ?_) (fun h1 => ?_) | with_reducible refine b_ne (fun h1 => ?_) (fun h1 => ?_)
  rotate_left
  · exact sX12_fails (k1 h1)
  obtain ⟨i, rfl⟩ := Int.eq_ofNat_of_zero_le h1.1
  have hi : (i : Int) < c 48 4 := by omega
  obtain ⟨a1, a2, a3, a4, a5, a6, a7, a8, a9, a10, a11, a12, a13⟩ := w.2.1 i hi
  obtain ⟨r1, r2, r3, r4, r5, r6, r7, r8, r9, r10, r11, r12, r13⟩ := rw'.2 i hi
  have rc := wb.2.2 (c 50 i * 4 + c 51 i).toNat (by omega)
  have k2 := k2 i rfl hi
  have k3 := k3 i rfl hi
  have no : ¬ (cpP c i ∧ c 15 2 + 1 ≤ 400) → ∀ x3 x4 : Int, aX12_pay T (d + 6) Q X 106 [some (mx_R 99), some (mx_I (i : Int)), some (mx_I s), some (mx_I x3), some (mx_I x4), none, none] [] G (0, 0) := fun z x3 x4 => zX12_pay_106 (sX12_fails (k2 z))
  refine s_inN ?_ (fun ea => ?_)
  · omega
  try simp only [ea]
  clear ea
  refine s_inN ?_ (fun ea => ?_)
  · omega
  try simp only [ea]
  clear ea
  refine sX12_isPaid w rw' (by omega) ?_
  rw [show ((i : Int)).toNat = i by omega, rl.1, r2, r3]
  first | with_reducible refine b_eq (fun h2 => ?_) (fun h2 => ?_) | with_reducible refine b_ne (fun h2 => ?_) (fun h2 => ?_)
  · exact no (fun z => h2.2 z.1.1) _ _
  refine s_inN ?_ (fun ea => ?_)
  · omega
  try simp only [ea]
  clear ea
  rw [r6]
  first | with_reducible refine c_lt ?_ ?_ (fun h3 => ?_) (fun h3 => ?_) | with_reducible refine c_le ?_ ?_ (fun h3 => ?_) (fun h3 => ?_) | with_reducible refine c_eq ?_ ?_ (fun h3 => ?_) (fun h3 => ?_) | with_reducible refine c_ne ?_ ?_ (fun h3 => ?_) (fun h3 => ?_)
  · omega
  · omega
  · exact no (fun z => by have := z.1.2.1; omega) _ _
  refine s_inN ?_ (fun ea => ?_)
  · omega
  try simp only [ea]
  clear ea
  rw [r7, w32_of (n := c 1 0) (by omega) (by omega)]
  refine ⟨fun h4 => no (fun z => by have := z.1.2.2.1; omega) _ _, fun h4 => ?_⟩
  refine sX12_hasFallen wb rb (by omega) ?_
  first | with_reducible refine b_eq (fun h5 => ?_) (fun h5 => ?_) | with_reducible refine b_ne (fun h5 => ?_) (fun h5 => ?_)
  · exact no (fun z => h5 z.1.2.2.2.1) _ _
  rw [show 4 * c 50 i + c 51 i = c 50 i * 4 + c 51 i by omega]
  refine s_in (by omega) (fun ea => ?_)
  rw [ea]
  refine s_inN ?_ (fun ea => ?_)
  · omega
  try simp only [ea]
  clear ea
  rw [rb.2.2 _ (by omega), r4]
  first | with_reducible refine c_lt ?_ ?_ (fun h6 => ?_) (fun h6 => ?_) | with_reducible refine c_le ?_ ?_ (fun h6 => ?_) (fun h6 => ?_) | with_reducible refine c_eq ?_ ?_ (fun h6 => ?_) (fun h6 => ?_) | with_reducible refine c_ne ?_ ?_ (fun h6 => ?_) (fun h6 => ?_)
  · omega
  · omega
  · exact no (fun z => by have := z.1.2.2.2.2; omega) _ _
  rw [re]
  first | with_reducible refine c_lt ?_ ?_ (fun h7 => ?_) (fun h7 => ?_) | with_reducible refine c_le ?_ ?_ (fun h7 => ?_) (fun h7 => ?_) | with_reducible refine c_eq ?_ ?_ (fun h7 => ?_) (fun h7 => ?_) | with_reducible refine c_ne ?_ ?_ (fun h7 => ?_) (fun h7 => ?_)
  · omega
  · omega
  rotate_left
  · exact no (fun z => by have := z.2; omega) _ _
  have cd : cpP c i ∧ c 15 2 + 1 ≤ 400 := ⟨⟨by omega, by omega, by omega, by omega, by omega⟩, by omega⟩
  refine s_inN ?_ (fun ea => ?_)
  · omega
  try simp only [ea]
  clear ea
  rw [r5]
  first | with_reducible refine c_lt ?_ ?_ (fun h8 => ?_) (fun h8 => ?_) | with_reducible refine c_le ?_ ?_ (fun h8 => ?_) (fun h8 => ?_) | with_reducible refine c_eq ?_ ?_ (fun h8 => ?_) (fun h8 => ?_) | with_reducible refine c_ne ?_ ?_ (fun h8 => ?_) (fun h8 => ?_)
  · omega
  · omega
  rotate_left
  · have k3 := k3 cd h8 _ rfl
    refine s_inN ?_ (fun ea => ?_)
    · omega
    try simp only [ea]
    clear ea
    refine s_inN ?_ (fun ea => ?_)
    · omega
    try simp only [ea]
    clear ea
    intro G1 e1
    refine s_inN ?_ (fun ea => ?_)
    · omega
    try simp only [ea]
    clear ea
    have f142 : G1 142 i = c 57 i + 1 := by rw [e1, up_s, r9]
    have f140 : G1 140 i = c 55 i := by rw [e1, up_q (by decide), r7]
    rw [f142, show w32 3 = 3 by decide]
    rw [← r9, ← e1] at k3
    rw [r9] at k3
    refine ⟨fun z => ?_, fun z => ?_⟩
    · refine zX12_pay_161 ?_
      rw [if_neg z, ← f140, up_self] at k3
      exact k3
    · refine s_inN ?_ (fun ea => ?_)
      · omega
      try simp only [ea]
      clear ea
      rw [f140, show G1 99 1 = c 1 0 by rw [e1, up_q (by decide)]; exact rl.1]
      refine sMinI ?_
      refine s_inN ?_ (fun ea => ?_)
      · omega
      try simp only [ea]
      clear ea
      rintro _ rfl
      refine zX12_pay_161 ?_
      rw [if_pos (Decidable.not_not.mp z)] at k3
      have : imin (c 55 i) (c 1 0) = c 1 0 := by
        unfold imin
        rw [if_pos]
        rw [w32_of (n := c 1 0) (by omega) (by omega)]
        omega
      rw [this]
      exact k3
  · obtain ⟨a, e49⟩ := Int.eq_ofNat_of_zero_le a1.1
    obtain ⟨b, e50⟩ := Int.eq_ofNat_of_zero_le a2.1
    have k4 := k4 i a b rfl hi cd h8 e49 e50
    have k5 := k5 i a b
    have k6 := k6 i a b
    obtain ⟨H, eH⟩ : ∃ H, H = payR c G i := ⟨_, rfl⟩
    have cH := payR_ch c G i
    rw [← eH] at k4 k5 k6 cH
    have rlH := rl.fr cH (by decide) (by decide)
    obtain ⟨pl, pb, pw⟩ := payP_wf wl wb w hi cd.1
    have cp := payP_ch c i
    have prb : ReB (payP c i) H := by rw [eH]; exact payP_rb rb
    have prl : ReL (payP c i) H := rlH.lc cp (by decide)
    have ps : AsS c (payP c i) := (AsS.rf c).tr cp (by decide) (by rw [cp.1 39 (by decide) (by decide)])
    have enter : ∀ (K : mz_S) (x5 x6 : Int), (∀ q ∈ [106, 134, 137], K q = H q) → K 99 16 = H 99 16 → aX12_pay T (d + 6) Q X 278 [some (mx_R 99), some (mx_I (i : Int)), some (mx_I s), some (mx_I (b : Int)), some (mx_I (c 51 i)), some (mx_I x5), some (mx_I x6)] [] (entS K (c 10 b) a b (c 51 i) (c 52 i) 0) (0, 0) → aX12_pay T (d + 6) Q X 251 [some (mx_R 99), some (mx_I (i : Int)), some (mx_I s), some (mx_I (b : Int)), some (mx_I (c 51 i)), some (mx_I x5), some (mx_I x6)] [] K (0, 0) := by
      intro K x5 x6 eK e16 kK
      refine zX12_pay_251 ?_
      refine s_inN ?_ (fun ea => ?_)
      · omega
      try simp only [ea]
      clear ea
      refine s_inN ?_ (fun ea => ?_)
      · omega
      try simp only [ea]
      clear ea
      refine s_inN ?_ (fun ea => ?_)
      · omega
      try simp only [ea]
      clear ea
      rw [eK 106 (by decide), eK 134 (by decide), eK 137 (by decide), cH.1 106 (by decide) (by decide), cH.1 134 (by decide) (by decide), cH.1 137 (by decide) (by decide), (rb.2.1 b (by omega)).1, r1, r4, e49, w32_of (n := c 52 i) (by omega) (by omega)]
      exact sX12_enter (by rw [e16, cH.2 16 (by decide), re]; omega) kK
    refine s_inN ?_ (fun ea => ?_)
    · omega
    try simp only [ea]
    clear ea
    rw [r10]
    refine sX12_isPaid w rw' (by omega) ?_
    refine s_in (by omega) (fun _ => ?_)
    refine s_inN ?_ (fun ea => ?_)
    · omega
    try simp only [ea]
    clear ea
    rw [r4]
    refine s_in (by omega) (fun _ => ?_)
    intro G5 e5
    refine s_inN ?_ (fun ea => ?_)
    · omega
    try simp only [ea]
    clear ea
    intro G6 e6
    have : G6 = H := by
      rw [e6, show G5 99 1 = c 1 0 by rw [e5, up_q (by decide)]; exact rl.1, e5, eH]; rfl
    subst this
    rw [e50]
    by_cases ho : c 58 i = -1
    · rw [pI_f (fun z => z.1 ho)]
      refine ⟨fun _ => ?_, fun z => absurd rfl z⟩
      refine zX12_pay_234 ⟨fun _ => ?_, fun z => absurd rfl z⟩
      refine enter G6 _ _ (fun q hq => rfl) rfl ?_
      rw [ho]
      refine zX12_pay_278 ⟨fun _ => ?_, fun z => absurd rfl z⟩
      exact zX12_pay_301 ⟨fun _ => zX12_pay_322 (zX12_pay_323 (k4 ho)), fun z => absurd rfl z⟩
    · obtain ⟨o, eo⟩ := Int.eq_ofNat_of_zero_le (show 0 ≤ c 58 i by omega)
      have oi : o ≠ i := by omega
      have hoo : (o : Int) < c 48 4 := by omega
      have k5 := k5 o rfl hi cd h8 e49 e50 eo hoo oi
      have k6 := k6 o rfl hi cd h8 e49 e50 eo hoo oi
      obtain ⟨b1, b2, b3, b4, b5, b6, b7, b8, b9, b10, b11, b12, b13⟩ := w.2.1 o hoo
      obtain ⟨q1, q2, q3, q4, q5, q6, q7, q8, q9, q10, q11, q12, q13⟩ := rw'.2 o hoo
      rw [eo, show ((o : Int)).toNat = o by omega]
      by_cases hp : c 56 o = -1
      · rw [pI_f (fun z => z.2 hp)]
        refine ⟨fun _ => ?_, fun z => absurd rfl z⟩
        refine zX12_pay_234 ⟨fun _ => ?_, fun z => absurd rfl z⟩
        refine enter G6 _ _ (fun q hq => rfl) rfl ?_
        refine zX12_pay_278 ?_
        first | with_reducible refine c_lt ?_ ?_ (fun z1 => ?_) (fun z1 => ?_) | with_reducible refine c_le ?_ ?_ (fun z1 => ?_) (fun z1 => ?_) | with_reducible refine c_eq ?_ ?_ (fun z1 => ?_) (fun z1 => ?_) | with_reducible refine c_ne ?_ ?_ (fun z1 => ?_) (fun z1 => ?_)
        · omega
        · omega
        · omega
        · refine ⟨fun z => absurd rfl z, fun _ => ?_⟩
          refine s_inN ?_ (fun ea => ?_)
          · omega
          try simp only [ea]
          clear ea
          obtain ⟨K, eK⟩ : ∃ K, K = entS G6 (c 10 b) a b (c 51 i) (c 52 i) 0 := ⟨_, rfl⟩
          rw [← eK] at k5 ⊢
          have cK : Ch [111, 112, 113, 114, 115, 116, 117, 118] [16] G6 K := by
            rw [eK]
            unfold entS
            repeat' first | exact Ch.rf G6 | refine Ch.up9 ?_ (by decide) | refine Ch.up ?_ (by decide) (by decide)
          have fo : payP c i 56 o = -1 := by unfold payP; simp [up_at, lset, oi, hp]
          refine sX12_stops (c := payP c i) (b := b) (d := d + 4) pl pb pw (prl.fr cK (by decide) (by decide)) (fun j hj => ((prb.fr cK (by decide) (by decide)).2.1 j hj).1) (by rw [cp.1 48 (by decide) (by decide)]; exact hoo) (by omega) ?_ ?_ ?_ fo ?_
          · rw [cK.1 106 (by decide) (by decide), cH.1 106 (by decide) (by decide), (rb.2.1 b (by omega)).1, cp.1 10 (by decide) (by decide)]
          · rw [cK.1 135 (by decide) (by decide), cH.1 135 (by decide) (by decide), q2, cp.1 50 (by decide) (by decide)]
          · rw [cK.1 140 (by decide) (by decide), cH.1 140 (by decide) (by decide), q7, cp.1 55 (by decide) (by decide)]
          · rw [payP_stV oi, cp.1 1 (by decide) (by decide)]
            exact zX12_pay_301 ⟨fun _ => zX12_pay_322 (zX12_pay_323 (k5 hp)), fun z => absurd rfl z⟩
      · rw [pI_t ⟨by omega, hp⟩]
        refine ⟨fun z => absurd z (by decide), fun _ => ?_⟩
        refine s_inN ?_ (fun ea => ?_)
        · omega
        try simp only [ea]
        clear ea
        refine s_inN ?_ (fun ea => ?_)
        · omega
        try simp only [ea]
        clear ea
        rw [cH.1 134 (by decide) (by decide), cH.1 137 (by decide) (by decide), r1, r4, e49, w32_of (n := c 52 i) (by omega) (by omega)]
        refine sX12_asksG (c := payP c i) (d := d + 1) pl prl pb prb (ps.txw tw) (by rw [cH.2 36 (by decide)]; exact h36) (fun q hq => by rw [cH.1 q (by simp at hq ⊢; omega) (by simp at hq; omega), cp.1 q (by simp at hq ⊢; omega) (by simp at hq; omega)]; exact et q hq) (by omega) (by omega) (fun K cK vK => ?_)
        have kk := k6 hp K cK
        have v7 := vK 7 (by decide)
        rw [ps.ak] at v7
        have rg := akF_rng (g := c) (nt := nt) (al := al) (a := a) (b := b) (n := c 52 i) (coin := c 51 i) (s := 7) (by decide)
        have rg' : 0 ≤ w64 (akF c nt al a b (c 52 i) (c 51 i) 7) ∧ w64 (akF c nt al a b (c 52 i) (c 51 i) 7) ≤ 1 := rg
        have z7 : mx_in 7 9 := zin (by omega) (by omega) (by omega)
        have y7 : mx_at 7 = 7 := by decide
        refine zX12_pay_234 ⟨fun z => absurd z (by decide), fun _ => ⟨z7, ?_⟩⟩
        rw [y7, v7, lc_eq, show w64 1 = 1 by decide]
        refine ⟨fun z => ?_, fun z => ?_⟩
        · refine zX12_pay_278 ?_
          first | with_reducible refine c_lt ?_ ?_ (fun z1 => ?_) (fun z1 => ?_) | with_reducible refine c_le ?_ ?_ (fun z1 => ?_) (fun z1 => ?_) | with_reducible refine c_eq ?_ ?_ (fun z1 => ?_) (fun z1 => ?_) | with_reducible refine c_ne ?_ ?_ (fun z1 => ?_) (fun z1 => ?_)
          · omega
          · omega
          · omega
          · refine ⟨fun _ => ?_, fun z => absurd (by decide) z⟩
            refine zX12_pay_301 ⟨fun z => absurd z (by decide), fun _ => ⟨z7, ?_⟩⟩
            rw [y7, v7, lc_eq, show w64 0 = 0 by decide]
            refine ⟨fun z => by omega, fun _ => zX12_pay_323 (kk.1 (by omega))⟩
        · refine enter K _ _ (fun q hq => cK.1 q (by simp at hq ⊢; omega) (by intro z; subst z; revert hq; decide)) (cK.2 16 (by decide)) ?_
          obtain ⟨L, eL⟩ : ∃ L, L = entS K (c 10 b) a b (c 51 i) (c 52 i) 0 := ⟨_, rfl⟩
          rw [← eL] at kk ⊢
          have cL : L 133 = K 133 := by rw [eL]; simp [entS, up_at]
          refine zX12_pay_278 ?_
          first | with_reducible refine c_lt ?_ ?_ (fun z1 => ?_) (fun z1 => ?_) | with_reducible refine c_le ?_ ?_ (fun z1 => ?_) (fun z1 => ?_) | with_reducible refine c_eq ?_ ?_ (fun z1 => ?_) (fun z1 => ?_) | with_reducible refine c_ne ?_ ?_ (fun z1 => ?_) (fun z1 => ?_)
          · omega
          · omega
          · omega
          · refine ⟨fun _ => ?_, fun z => absurd (by decide) z⟩
            refine zX12_pay_301 ⟨fun z => absurd z (by decide), fun _ => ⟨z7, ?_⟩⟩
            rw [y7, cL, v7, lc_eq, show w64 0 = 0 by decide]
            refine ⟨fun _ => zX12_pay_322 (zX12_pay_323 (kk.2 (by omega))), fun z => by omega⟩
