/-! rows of a cell set anew; the calls tray, write, read -/
def lrng (l : Nat → Int) (b : Nat) (f : Nat → Int) (m : Nat) : Nat → Int := fun i => if b ≤ i ∧ i < b + m then f (i - b) else l i
def rngS (g : mz_S) (q b : Nat) (f : Nat → Int) (m : Nat) : mz_S := fun a i => if a = q ∧ b ≤ i ∧ i < b + m then f (i - b) else g a i
theorem rngS_0 (g : mz_S) (q b : Nat) (f : Nat → Int) : rngS g q b f 0 = g := by
  funext a i; simp only [rngS]; rw [if_neg (by omega)]
theorem rngS_s {g : mz_S} {q b : Nat} {f : Nat → Int} {m : Nat} {v : Int} (e : v = f m) : mx_up (rngS g q b f m) q (b + m) v = rngS g q b f (m + 1) := by
  funext a i; simp only [rngS, mx_up]
  by_cases h : a = q ∧ i = b + m
  · obtain ⟨rfl, rfl⟩ := h
    rw [if_pos ⟨rfl, rfl⟩, if_pos (by omega), show b + m - b = m by omega]; exact e
  · rw [if_neg h]
    by_cases h2 : a = q ∧ b ≤ i ∧ i < b + m
    · rw [if_pos h2, if_pos (by omega)]
    · rw [if_neg h2, if_neg (by omega)]
theorem rngS_at (g : mz_S) (q b : Nat) (f : Nat → Int) (m a : Nat) : rngS g q b f m a = if a = q then lrng (g q) b f m else g a := by
  split
  · next h => subst h; funext j; simp [rngS, lrng]
  · next h => funext j; simp [rngS, h]
theorem rngS_n {g : mz_S} {q b : Nat} {f : Nat → Int} {m a : Nat} (h : a ≠ q) : rngS g q b f m a = g a := by rw [rngS_at, if_neg h]
theorem Ch.rng {S F : List Nat} {g g' : mz_S} (h : Ch S F g g') {q b m : Nat} {f : Nat → Int} (hq : q ∈ S) (h9 : q ≠ 99) : Ch S F g (rngS g' q b f m) := by
  refine ⟨fun a ha h99 => ?_, fun f2 hf2 => ?_⟩
  · have hn : a ≠ q := fun e => ha (e ▸ hq)
    rw [rngS_n hn]; exact h.1 a ha h99
  · rw [rngS_n (fun e => h9 e.symm)]; exact h.2 f2 hf2
def WfT (c : mz_S) : Prop := (∀ i, i < 4 → (-1 ≤ c 96 i ∧ c 96 i ≤ 3) ∧ (0 ≤ c 97 i ∧ c 97 i ≤ 60)) ∧ ∀ p, p < 240 → R64 (c 98 p)
def ReT (c r : mz_S) : Prop := ∀ i, i < 4 → r 175 i = c 96 i ∧ r 176 i = c 97 i ∧ ∀ p : Nat, (p : Int) < c 97 i → r 177 (i * 60 + p) = c 98 (i * 60 + p)
def IT (g : mz_S) : Prop := WfT g ∧ ReT g g
theorem IT.fr {S F : List Nat} {g g' : mz_S} (w : IT g) (h : Ch S F g g') (hS : ∀ q ∈ [96, 97, 98, 175, 176, 177], q ∉ S) : IT g' := by
  have e : ∀ q ∈ [96, 97, 98, 175, 176, 177], g' q = g q := fun q hq => h.1 q (hS q hq) (by intro z; subst z; revert hq; decide)
  unfold IT WfT ReT at w ⊢
  rw [e 96 (by decide), e 97 (by decide), e 98 (by decide), e 175 (by decide), e 176 (by decide), e 177 (by decide)]
  exact w
theorem ReT.fr {S F : List Nat} {c r r' : mz_S} (w : ReT c r) (h : Ch S F r r') (hS : ∀ q ∈ [175, 176, 177], q ∉ S) : ReT c r' := by
  have e : ∀ q ∈ [175, 176, 177], r' q = r q := fun q hq => h.1 q (hS q hq) (by intro z; subst z; revert hq; decide)
  unfold ReT at w ⊢
  rw [e 175 (by decide), e 176 (by decide), e 177 (by decide)]
  exact w
theorem sX12_isTray {T : Nat × (Nat → Int32)} {d : Nat} {Q : mz_K} {X : mz_X} {g : mz_S} {x : Int} (hx : R32 x) (k : Q (pI (0 ≤ x ∧ x ≤ 3)) g) : zC T (d + 2) 322 [mx_I x] g Q X := zX12_isTray (sX12_withinW hx (by omega) (by omega) ⟨pI_01 _, k⟩)
theorem sX9_isMissing {T : Nat × (Nat → Int32)} {d : Nat} {Q : mz_K} {X : mz_X} {g : mz_S} {t : Int} (w : WfT g) (ht : 0 ≤ t ∧ t ≤ 3) (k : Q (pI (g 96 t.toNat = -1)) g) : zC T (d + 1) 122 [mx_R 95, mx_I t] g Q X := by
  have h1 := (w.1 t.toNat (by omega)).1
  refine zX9_isMissing ?_
  refine s_in ?_ (fun ea => ?_)
  · omega
  try simp only [ea]
  clear ea
  first | with_reducible refine c_lt ?_ ?_ (fun h => ?_) (fun h => ?_) | with_reducible refine c_le ?_ ?_ (fun h => ?_) (fun h => ?_) | with_reducible refine c_eq ?_ ?_ (fun h => ?_) (fun h => ?_) | with_reducible refine c_ne ?_ ?_ (fun h => ?_) (fun h => ?_)
  · omega
  · omega
  · refine zX9_isMissing_15 ⟨zb0, ?_⟩
    rw [pI_f h] at k; exact k
  · refine zX9_isMissing_15 ⟨zb1, ?_⟩
    rw [pI_t h] at k; exact k
theorem sX9_renew {T : Nat × (Nat → Int32)} {d : Nat} {Q : mz_K} {X : mz_X} {g : mz_S} {t s n : Int} (ht : 0 ≤ t ∧ t ≤ 3) (hn : 0 ≤ n ∧ n ≤ 60) (k : Q 0 (rngS (mx_up (mx_up g 96 t.toNat s) 97 t.toNat n) 98 (t.toNat * 60) (fun _ => 0) n.toNat)) : zC T (d + 1) 123 [mx_R 95, mx_I t, mx_I s, mx_I n] g Q X := by
  refine zX9_renew ?_
  refine s_in ?_ (fun ea => ?_)
  · omega
  try simp only [ea]
  clear ea
  rintro _ rfl
  refine s_in ?_ (fun ea => ?_)
  · omega
  try simp only [ea]
  clear ea
  rintro _ rfl
  obtain ⟨G, hG⟩ : ∃ G, G = mx_up (mx_up g 96 t.toNat s) 97 t.toNat n := ⟨_, rfl⟩
  rw [← hG] at k ⊢
  have h : ∀ i : Nat, i ≤ n.toNat → aX9_renew T d Q X 17 [some (mx_R 95), some (mx_I t), some (mx_I s), some (mx_I n), some (mx_I (i : Int))] [] (rngS G 98 (t.toNat * 60) (fun _ => 0) i) (0, 0) := by
    refine upto ?_ (fun i hi ih => ?_)
    · refine zX9_renew_17 ?_
      first | with_reducible refine c_lt ?_ ?_ (fun h => ?_) (fun h => ?_) | with_reducible refine c_le ?_ ?_ (fun h => ?_) (fun h => ?_) | with_reducible refine c_eq ?_ ?_ (fun h => ?_) (fun h => ?_) | with_reducible refine c_ne ?_ ?_ (fun h => ?_) (fun h => ?_)
      · omega
      · omega
      · exact k
      · omega
    · refine zX9_renew_17 ?_
      first | with_reducible refine c_lt ?_ ?_ (fun h => ?_) (fun h => ?_) | with_reducible refine c_le ?_ ?_ (fun h => ?_) (fun h => ?_) | with_reducible refine c_eq ?_ ?_ (fun h => ?_) (fun h => ?_) | with_reducible refine c_ne ?_ ?_ (fun h => ?_) (fun h => ?_)
      · omega
      · omega
      · omega
      · refine s_inE (t.toNat * 60 + i) ?_ ?_ (fun ea => ?_)
        · omega
        · omega
        try simp only [ea]
        clear ea
        rintro _ rfl
        rw [rngS_s rfl]
        exact ih
  have h0 := h 0 (by omega)
  rw [rngS_0] at h0
  exact h0
theorem sX12_tray {T : Nat × (Nat → Int32)} {d : Nat} {Q : mz_K} {X : mz_X} {g : mz_S} {t s n : Int} (ht : R32 t) (hs : R32 s) (hn : R32 n) (k1 : ¬ (0 ≤ t ∧ t ≤ 3) → Q 0 (mx_up g 99 0 1)) (k2 : 0 ≤ t ∧ t ≤ 3 → ¬ ((0 ≤ s ∧ s ≤ 3) ∧ (0 ≤ n ∧ n ≤ 60)) → Q 0 (mx_up g 99 0 2)) (k3 : 0 ≤ t ∧ t ≤ 3 → (0 ≤ s ∧ s ≤ 3) ∧ (0 ≤ n ∧ n ≤ 60) → Q 0 (rngS (mx_up (mx_up (mx_up g 99 0 0) 175 t.toNat s) 176 t.toNat n) 177 (t.toNat * 60) (fun _ => 0) 60)) : zC T (d + 3) 323 [mx_R 99, mx_I t, mx_I s, mx_I n] g Q X := by
  have f1 : ¬ (0 ≤ t ∧ t ≤ 3) → aX12_tray T (d + 2) Q X 41 [some (mx_R 99), some (mx_I t), some (mx_I s), some (mx_I n), none] [mx_I 1, mx_R 99] g (0, 0) := by
    intro z
    refine zX12_tray_41 ?_
    rintro _ rfl
    rw [up_s]
    exact ⟨fun z => absurd z (by decide), fun _ => k1 z⟩
  have f2 : 0 ≤ t ∧ t ≤ 3 → ¬ ((0 ≤ s ∧ s ≤ 3) ∧ (0 ≤ n ∧ n ≤ 60)) → aX12_tray T (d + 2) Q X 41 [some (mx_R 99), some (mx_I t), some (mx_I s), some (mx_I n), none] [mx_I 2, mx_R 99] g (0, 0) := by
    intro z z2
    refine zX12_tray_41 ?_
    rintro _ rfl
    rw [up_s]
    exact ⟨fun z => absurd z (by decide), fun _ => k2 z z2⟩
  have f3 : 0 ≤ t ∧ t ≤ 3 → (0 ≤ s ∧ s ≤ 3) ∧ (0 ≤ n ∧ n ≤ 60) → aX12_tray T (d + 2) Q X 41 [some (mx_R 99), some (mx_I t), some (mx_I s), some (mx_I n), none] [mx_I 0, mx_R 99] g (0, 0) := by
    intro z z2
    refine zX12_tray_41 ?_
    rintro _ rfl
    rw [up_s]
    refine ⟨fun _ => ?_, fun z => absurd (by decide) z⟩
    refine s_in ?_ (fun ea => ?_)
    · omega
    try simp only [ea]
    clear ea
    rintro _ rfl
    refine s_in ?_ (fun ea => ?_)
    · omega
    try simp only [ea]
    clear ea
    rintro _ rfl
    have k := k3 z z2
    obtain ⟨G, hG⟩ : ∃ G, G = mx_up (mx_up (mx_up g 99 0 0) 175 t.toNat s) 176 t.toNat n := ⟨_, rfl⟩
    rw [← hG] at k ⊢
    have h : ∀ i : Nat, i ≤ 60 → aX12_tray T (d + 2) Q X 69 [some (mx_R 99), some (mx_I t), some (mx_I s), some (mx_I n), some (mx_I (i : Int))] [] (rngS G 177 (t.toNat * 60) (fun _ => 0) i) (0, 0) := by
      refine upto ?_ (fun i hi ih => ?_)
      · refine zX12_tray_69 ?_
        first | with_reducible refine c_lt ?_ ?_ (fun h => ?_) (fun h => ?_) | with_reducible refine c_le ?_ ?_ (fun h => ?_) (fun h => ?_) | with_reducible refine c_eq ?_ ?_ (fun h => ?_) (fun h => ?_) | with_reducible refine c_ne ?_ ?_ (fun h => ?_) (fun h => ?_)
        · omega
        · omega
        · exact k
        · omega
      · refine zX12_tray_69 ?_
        first | with_reducible refine c_lt ?_ ?_ (fun h => ?_) (fun h => ?_) | with_reducible refine c_le ?_ ?_ (fun h => ?_) (fun h => ?_) | with_reducible refine c_eq ?_ ?_ (fun h => ?_) (fun h => ?_) | with_reducible refine c_ne ?_ ?_ (fun h => ?_) (fun h => ?_)
        · omega
        · omega
        · omega
        · refine s_inE (t.toNat * 60 + i) ?_ ?_ (fun ea => ?_)
          · omega
          · omega
          try simp only [ea]
          clear ea
          rintro _ rfl
          rw [rngS_s rfl]
          exact ih
    have h0 := h 0 (by omega)
    rw [rngS_0] at h0
    exact h0
  refine zX12_tray (sX12_isTray ht ?_)
  first | with_reducible refine b_eq (fun h1 => ?_) (fun h1 => ?_) | with_reducible refine b_ne (fun h1 => ?_) (fun h1 => ?_)
  · refine sX12_withinW hs (by omega) (by omega) ?_
    first | with_reducible refine b_eq (fun h2 => ?_) (fun h2 => ?_) | with_reducible refine b_ne (fun h2 => ?_) (fun h2 => ?_)
    · exact zX12_tray_36 (f2 h1 (fun z => h2 z.1))
    · refine sX12_withinW hn (by omega) (by omega) ?_
      first | with_reducible refine b_eq (fun h3 => ?_) (fun h3 => ?_) | with_reducible refine b_ne (fun h3 => ?_) (fun h3 => ?_)
      · exact f3 h1 ⟨h2, h3⟩
      · exact zX12_tray_36 (f2 h1 (fun z => h3 z.2))
  · exact f1 h1
theorem C_tray {T : Nat × (Nat → Int32)} {d : Nat} {X X' : mz_X} {g : mz_S} {t s n : Int} (w : IT g) (ht : R32 t) (hs : R32 s) (hn : R32 n) : zC T (d + 4) 387 [mx_R 0, mx_I t, mx_I s, mx_I n] g (fun kk g1 => zC T (d + 4) 323 [mx_R 99, mx_I t, mx_I s, mx_I n] g1 (fun _ g2 => AnsV kk g2 ∧ IT g2 ∧ Qy [96, 97, 98, 175, 176, 177] [0] g g2) X') X := by
  have bad : ∀ n : Int, 1 ≤ n ∧ n ≤ 3 → AnsV n (mx_up g 99 0 n) ∧ IT (mx_up g 99 0 n) ∧ Qy [96, 97, 98, 175, 176, 177] [0] g (mx_up g 99 0 n) := fun n hn =>
    ⟨⟨by omega, up_s⟩, w.fr (ch_0 g n) (by decide), (ch_0 g n).sub (by decide) (by decide), fun z => z.fr (ch_0 g n) (by decide)⟩
  refine wL_tray (zX11_tray ?_)
  repeat' first
    | with_reducible refine zX11_tray_30 ?_
    | with_reducible refine zX11_tray_31 ?_
    | with_reducible refine sX9_renew (by omega) (by omega) ?_
    | with_reducible refine sX11_needFound (fun _ => ?_) (fun _ => ?_)
    | with_reducible refine sX11_needArgument (fun _ => ?_) (fun _ => ?_)
    | with_reducible refine sX11_needState (fun _ => ?_) (fun _ => ?_)
    | with_reducible refine sX11_needPlace (fun _ => ?_) (fun _ => ?_)
    | with_reducible refine nF_t ?_
    | with_reducible refine nF_f ?_
    | with_reducible refine nA_t ?_
    | with_reducible refine nA_f ?_
    | with_reducible refine nS_t ?_
    | with_reducible refine nS_f ?_
    | with_reducible refine nP_t ?_
    | with_reducible refine nP_f ?_
    | with_reducible refine sX11_isTown (by omega) (by omega) ?_
    | with_reducible refine sX11_isBroker (by omega) (by omega) ?_
    | with_reducible refine sX11_isWord (by omega) (by omega) ?_
    | with_reducible refine sX11_isCoin (by omega) ?_
    | with_reducible refine sX11_isDay (by omega) ?_
    | with_reducible refine sX11_isTray (by omega) ?_
    | with_reducible refine sX12_isTray (by omega) ?_
    | with_reducible refine sX11_within (by omega) (by omega) (by omega) ?_
    | with_reducible refine sX12_isTownC (by assumption) (by assumption) (by omega) ?_
    | with_reducible refine sX12_isBrokerC (by assumption) (by assumption) (by omega) ?_
    | with_reducible refine sX12_isCoin (by omega) ?_
    | with_reducible refine sX12_isDay (by omega) ?_
    | with_reducible refine sX12_withinW (by omega) (by omega) (by omega) ?_
    | with_reducible refine sX12_fails ?_
    | with_reducible refine b_eq (fun _ => ?_) (fun _ => ?_)
    | with_reducible refine b_ne (fun _ => ?_) (fun _ => ?_)
    | with_reducible refine c_lt (by omega) (by omega) (fun _ => ?_) (fun _ => ?_)
    | with_reducible refine c_le (by omega) (by omega) (fun _ => ?_) (fun _ => ?_)
    | with_reducible refine c_eq (by omega) (by omega) (fun _ => ?_) (fun _ => ?_)
    | with_reducible refine c_ne (by omega) (by omega) (fun _ => ?_) (fun _ => ?_)
    | with_reducible refine l_gt (by omega) (by omega) (fun _ => ?_) (fun _ => ?_)
    | with_reducible refine l_lt (by omega) (by omega) (fun _ => ?_) (fun _ => ?_)
    | with_reducible refine l_ge (by omega) (by omega) (fun _ => ?_) (fun _ => ?_)
    | with_reducible refine l_le (by omega) (by omega) (fun _ => ?_) (fun _ => ?_)
    | with_reducible refine l_eq (by omega) (by omega) (fun _ => ?_) (fun _ => ?_)
    | with_reducible refine l_ne (by omega) (by omega) (fun _ => ?_) (fun _ => ?_)
    | refine ⟨by decide, by decide, ?_⟩
    | fail
  · exact Or.inr ⟨rfl, sX12_tray ht hs hn (fun z => by omega) (fun _ _ => bad 2 (by omega)) (fun z z2 => by omega)⟩
  · exact Or.inr ⟨rfl, sX12_tray ht hs hn (fun z => by omega) (fun _ _ => bad 2 (by omega)) (fun z z2 => by omega)⟩
  · refine sX12_tray ht hs hn (fun z => by omega) (fun _ z => by omega) (fun h1 h2 => ?_)
    obtain ⟨g2, e2⟩ : ∃ g2, g2 = rngS (mx_up (mx_up (mx_up (rngS (mx_up (mx_up g 96 t.toNat s) 97 t.toNat n) 98 (t.toNat * 60) (fun _ => 0) n.toNat) 99 0 0) 175 t.toNat s) 176 t.toNat n) 177 (t.toNat * 60) (fun _ => 0) 60 := ⟨_, rfl⟩
    rw [← e2]
    have c2 : Ch [96, 97, 98, 175, 176, 177] [0] g g2 := by
      rw [e2]
      repeat' first | exact Ch.rf g | refine Ch.up9 ?_ (by decide) | refine Ch.up ?_ (by decide) (by decide) | refine Ch.rng ?_ (by decide) (by decide)
    have q96 : g2 96 = lset (g 96) t.toNat s := by rw [e2]; simp [up_at, rngS_at]
    have q97 : g2 97 = lset (g 97) t.toNat n := by rw [e2]; simp [up_at, rngS_at]
    have q98 : g2 98 = lrng (g 98) (t.toNat * 60) (fun _ => 0) n.toNat := by rw [e2]; simp [up_at, rngS_at]
    have q175 : g2 175 = lset (g 175) t.toNat s := by rw [e2]; simp [up_at, rngS_at]
    have q176 : g2 176 = lset (g 176) t.toNat n := by rw [e2]; simp [up_at, rngS_at]
    have q177 : g2 177 = lrng (g 177) (t.toNat * 60) (fun _ => 0) 60 := by rw [e2]; simp [up_at, rngS_at]
    refine ⟨⟨by omega, by rw [e2]; simp [up_at, rngS_at, lset]⟩, ?_, c2, fun z => z.fr c2 (by decide)⟩
    unfold IT WfT ReT
    rw [q96, q97, q98, q175, q176, q177]
    obtain ⟨⟨a1, a2⟩, a3⟩ := w
    refine ⟨⟨fun i hi => ?_, fun p hp => ?_⟩, fun i hi => ?_⟩
    · have := a1 i hi
      unfold lset
      split <;> omega
    · have := a2 p hp
      unfold lrng
      split
      · show R64 0
        omega
      · exact this
    · have h3 := a3 i hi
      have h4 := a1 i hi
      by_cases hit : i = t.toNat
      · subst hit
        rw [lset_s, lset_s, lset_s, lset_s]
        refine ⟨rfl, rfl, fun p hp => ?_⟩
        unfold lrng
        rw [if_pos (by omega), if_pos (by omega)]
      · rw [lset_n hit, lset_n hit, lset_n hit, lset_n hit]
        refine ⟨h3.1, h3.2.1, fun p hp => ?_⟩
        have h5 := h3.2.2 p hp
        unfold lrng
        rw [if_neg (by omega), if_neg (by omega)]
        exact h5
  · exact Or.inl ⟨rfl, sX12_tray ht hs hn (fun _ => bad 1 (by omega)) (fun z => by omega) (fun z => by omega)⟩
/-- a number cut to a sort -/
def cutC (s v : Int) : Int := if s = 0 then v.bmod 256 else if s = 1 then v.bmod 65536 else if s = 2 then w32 v else v
theorem i2b_v (v : Int) : w32 (mx_i2b v) = v.bmod 256 := by
  have e : mx_i2b v = v.bmod 256 := by
    unfold mx_i2b
    rw [Int8.toInt_toInt32, Int32.toInt_toInt8, Int32.toInt_ofInt]
    exact Int.bmod_bmod_of_dvd (by decide)
  rw [e]
  exact w32_of (by have := Int.le_bmod (x := v) (m := 256) (by decide); omega) (by have := Int.bmod_lt (x := v) (m := 256) (by decide); omega)
theorem i2s_v (v : Int) : w32 (mx_i2s v) = v.bmod 65536 := by
  have e : mx_i2s v = v.bmod 65536 := by
    unfold mx_i2s
    rw [Int16.toInt_toInt32, Int32.toInt_toInt16, Int32.toInt_ofInt]
    exact Int.bmod_bmod_of_dvd (by decide)
  rw [e]
  exact w32_of (by have := Int.le_bmod (x := v) (m := 65536) (by decide); omega) (by have := Int.bmod_lt (x := v) (m := 65536) (by decide); omega)
theorem lsh_v (v : Int) (n : Nat) (en : (((Int32.ofInt (n : Nat)).toInt64 &&& 63).toBitVec.smod 64).toNat = n) : mx_lshr (mx_lshl v n) n = ((v % 18446744073709551616) * ((2 ^ n : Nat) : Int)).bmod 18446744073709551616 / ((2 ^ n : Nat) : Int) := by
  unfold mx_lshr mx_lshl
  rw [Int64.ofInt_toInt, ← Int64.toInt_toBitVec, Int64.toBitVec_shiftRight, Int64.toBitVec_shiftLeft]
  show ((((Int64.ofInt v).toBitVec <<< (((Int32.ofInt (n : Nat)).toInt64 &&& 63).toBitVec.smod 64).toNat)).sshiftRight (((Int32.ofInt (n : Nat)).toInt64 &&& 63).toBitVec.smod 64).toNat).toInt = _
  have h1 : ((Int64.ofInt v).toBitVec.toNat : Int) = v % 18446744073709551616 := by
    show ((BitVec.ofInt 64 v).toNat : Int) = _
    rw [BitVec.toNat_ofInt]
    have : (0:Int) ≤ v % ((2^64 : Nat) : Int) := Int.emod_nonneg _ (by decide)
    rw [Int.toNat_of_nonneg this]
    rfl
  rw [en, BitVec.toInt_sshiftRight, BitVec.toInt_shiftLeft, Int.shiftRight_eq_div_pow, Nat.shiftLeft_eq, Int.natCast_mul, h1]
theorem cut_ref {s v : Int} (hs : 0 ≤ s ∧ s ≤ 3) (hv : R64 v) : mx_lshr (mx_lshl v (64 - mx_ishl 8 s)) (64 - mx_ishl 8 s) = cutC s v := by
  have h4 : s = 0 ∨ s = 1 ∨ s = 2 ∨ s = 3 := by omega
  rcases h4 with z | z | z | z <;> subst z
  · rw [show (64 - mx_ishl 8 0) = ((56 : Nat) : Int) from by decide, lsh_v v 56 (by decide)]
    show _ = v.bmod 256
    rw [show ((2 ^ 56 : Nat) : Int) = 72057594037927936 from rfl, Int.bmod_def, Int.bmod_def]; split <;> split <;> omega
  · rw [show (64 - mx_ishl 8 1) = ((48 : Nat) : Int) from by decide, lsh_v v 48 (by decide)]
    show _ = v.bmod 65536
    rw [show ((2 ^ 48 : Nat) : Int) = 281474976710656 from rfl, Int.bmod_def, Int.bmod_def]; split <;> split <;> omega
  · rw [show (64 - mx_ishl 8 2) = ((32 : Nat) : Int) from by decide, lsh_v v 32 (by decide)]
    show _ = w32 v
    rw [w32_bm, show ((2 ^ 32 : Nat) : Int) = 4294967296 from rfl, Int.bmod_def, Int.bmod_def]; split <;> split <;> omega
  · rw [show (64 - mx_ishl 8 3) = ((0 : Nat) : Int) from by decide, lsh_v v 0 (by decide)]
    show _ = v
    rw [show ((2 ^ 0 : Nat) : Int) = 1 from rfl, Int.bmod_def]; split <;> omega
theorem cutC_rng {s v : Int} (hv : R64 v) : R64 (cutC s v) := by
  unfold cutC
  split
  · have := Int.le_bmod (x := v) (m := 256) (by decide)
    have := Int.bmod_lt (x := v) (m := 256) (by decide)
    omega
  · split
    · have := Int.le_bmod (x := v) (m := 65536) (by decide)
      have := Int.bmod_lt (x := v) (m := 65536) (by decide)
      omega
    · split
      · have := w32_lo v
        have := w32_hi v
        omega
      · exact hv
theorem sX9_setNumber {T : Nat × (Nat → Int32)} {d : Nat} {Q : mz_K} {X : mz_X} {g : mz_S} {t p v : Int} (w : WfT g) (ht : 0 ≤ t ∧ t ≤ 3) (hm : ¬ g 96 t.toNat = -1) (hp : 0 ≤ p ∧ p < 60) (k : Q 0 (mx_up g 98 (t * 60 + p).toNat (cutC (g 96 t.toNat) v))) : zC T (d + 2) 124 [mx_R 95, mx_I t, mx_I p, mx_J v] g Q X := by
  have h1 := (w.1 t.toNat (by omega)).1
  refine zX9_setNumber ?_
  refine s_in ?_ (fun ea => ?_)
  · omega
  try simp only [ea]
  clear ea
  have fin : ∀ x, x = cutC (g 96 t.toNat) v → mx_in (t * 60 + p) 240 ∧ ∀ g2 : mz_S, g2 = mx_up g 98 (mx_at (t * 60 + p)) x → Q 0 g2 := by
    intro x hx
    refine s_in ?_ (fun ea => ?_)
    · omega
    try simp only [ea]
    clear ea
    rintro _ rfl
    rw [hx]; exact k
  refine zX9_cutTo ?_
  rw [w32_of (by omega) (by omega)]
  refine ⟨fun z => fin _ ?_, fun z => ?_⟩
  · unfold cutC
    rw [if_neg (by omega), if_neg (by omega), if_neg (by omega)]
  · have h3 : g 96 t.toNat = 0 ∨ g 96 t.toNat = 1 ∨ g 96 t.toNat = 2 := by omega
    rcases h3 with z | z | z <;> rw [z] at fin ⊢
    · refine zX9_cutTo_28 (fin _ ?_)
      rw [i2b_v]; rfl
    · refine zX9_cutTo_33 (fin _ ?_)
      rw [i2s_v]; rfl
    · exact zX9_cutTo_38 (fin _ rfl)
theorem sX9_number {T : Nat × (Nat → Int32)} {d : Nat} {Q : mz_K} {X : mz_X} {g : mz_S} {t p : Int} (ht : 0 ≤ t ∧ t ≤ 3) (hp : 0 ≤ p ∧ p < 60) (k : Q (g 98 (t * 60 + p).toNat) g) : zC T (d + 1) 126 [mx_R 95, mx_I t, mx_I p] g Q X := by
  refine zX9_number ?_
  refine s_in ?_ (fun ea => ?_)
  · omega
  try simp only [ea]
  clear ea
  exact k
theorem sX12_refuses {T : Nat × (Nat → Int32)} {d : Nat} {Q : mz_K} {X : mz_X} {g : mz_S} {c : mz_S} {t p : Int} (w : WfT c) (h : ReT c g) (ht : R32 t) (hp : R32 p) (k1 : ¬ (0 ≤ t ∧ t ≤ 3) → Q 1 g) (k2 : 0 ≤ t ∧ t ≤ 3 → c 96 t.toNat = -1 → Q 2 g) (k3 : 0 ≤ t ∧ t ≤ 3 → ¬ c 96 t.toNat = -1 → ¬ (0 ≤ p ∧ p ≤ c 97 t.toNat - 1) → Q 3 g) (k4 : 0 ≤ t ∧ t ≤ 3 → ¬ c 96 t.toNat = -1 → 0 ≤ p ∧ p ≤ c 97 t.toNat - 1 → Q 0 g) : zC T (d + 3) 324 [mx_R 99, mx_I t, mx_I p] g Q X := by
  refine zX12_refuses (sX12_isTray ht ?_)
  first | with_reducible refine b_eq (fun h1 => ?_) (fun h1 => ?_) | with_reducible refine b_ne (fun h1 => ?_) (fun h1 => ?_)
  · have w1 := w.1 t.toNat (by omega)
    have r1 := h t.toNat (by omega)
    refine s_in ?_ (fun ea => ?_)
    · omega
    try simp only [ea]
    clear ea
    rw [r1.1, r1.2.1]
    first | with_reducible refine c_lt ?_ ?_ (fun h2 => ?_) (fun h2 => ?_) | with_reducible refine c_le ?_ ?_ (fun h2 => ?_) (fun h2 => ?_) | with_reducible refine c_eq ?_ ?_ (fun h2 => ?_) (fun h2 => ?_) | with_reducible refine c_ne ?_ ?_ (fun h2 => ?_) (fun h2 => ?_)
    · omega
    · omega
    · refine s_in ?_ (fun ea => ?_)
      · omega
      try simp only [ea]
      clear ea
      rw [w32_of (n := c 97 t.toNat - 1) (by omega) (by omega)]
      refine sX12_withinW hp (by omega) (by omega) ?_
      first | with_reducible refine b_eq (fun h3 => ?_) (fun h3 => ?_) | with_reducible refine b_ne (fun h3 => ?_) (fun h3 => ?_)
      · exact zX12_refuses_48 (k3 h1 h2 h3)
      · exact zX12_refuses_48 (k4 h1 h2 h3)
    · exact zX12_refuses_48 (k2 h1 h2)
  · exact zX12_refuses_48 (k1 h1)
theorem IT.write {g g2 : mz_S} {t p : Nat} {v : Int} (w : IT g) (ht : t < 4) (hp : (p : Int) < g 97 t) (h : Ch [98, 177, 179] [0] g g2) (hv : R64 v) (q98 : g2 98 = lset (g 98) (t * 60 + p) v) (q177 : g2 177 = lset (g 177) (t * 60 + p) v) : IT g2 := by
  have e : ∀ q ∈ [96, 97, 175, 176], g2 q = g q := fun q hq => h.1 q (by revert hq; revert q; decide) (by intro z; subst z; revert hq; decide)
  unfold IT WfT ReT at w ⊢
  rw [e 96 (by decide), e 97 (by decide), e 175 (by decide), e 176 (by decide), q98, q177]
  obtain ⟨⟨a1, a2⟩, a3⟩ := w
  refine ⟨⟨a1, fun j hj => ?_⟩, fun i hi => ⟨(a3 i hi).1, (a3 i hi).2.1, fun j hj => ?_⟩⟩
  · unfold lset
    split
    · exact hv
    · exact a2 j hj
  · have := (a3 i hi).2.2 j hj
    unfold lset
    split
    · rfl
    · exact this
theorem C_write {T : Nat × (Nat → Int32)} {d : Nat} {X X' : mz_X} {g : mz_S} {t p v : Int} (w : IT g) (ht : R32 t) (hp : R32 p) (hv : R64 v) : zC T (d + 4) 388 [mx_R 0, mx_I t, mx_I p, mx_J v, mx_R 179] g (fun kk g1 => zC T (d + 4) 325 [mx_R 99, mx_I t, mx_I p, mx_J v] g1 (fun r g2 => AnsL kk r g2 ∧ IT g2 ∧ Qy [98, 177, 179] [0] g g2) X') X := by
  have w1 := w.1
  have rng : 0 ≤ t ∧ t ≤ 3 → (-1 ≤ g 96 t.toNat ∧ g 96 t.toNat ≤ 3) ∧ (0 ≤ g 97 t.toNat ∧ g 97 t.toNat ≤ 60) := fun z => w1.1 t.toNat (by omega)
  have bad : ∀ n : Int, 1 ≤ n ∧ n ≤ 3 → ∀ v2 : mz_S, v2 = mx_up g 99 0 n → (w32 (v2 99 0) ≤ w32 0 → mx_in t 4 ∧ mx_in ((60 * t) + p) 240 ∧ (∀ g3 : mz_S, g3 = mx_up v2 177 (mx_at ((60 * t) + p)) (mx_lshr (mx_lshl v (64 - (mx_ishl 8 (v2 175 (mx_at t))))) (64 - (mx_ishl 8 (v2 175 (mx_at t))))) → mx_in ((60 * t) + p) 240 ∧ (AnsL n (g3 177 (mx_at ((60 * t) + p))) g3 ∧ IT g3 ∧ Qy [98, 177, 179] [0] g g3))) ∧ (¬ (w32 (v2 99 0) ≤ w32 0) → AnsL n 0 v2 ∧ IT v2 ∧ Qy [98, 177, 179] [0] g v2) := by
    rintro n hn _ rfl
    rw [up_s, w32_of (by omega) (by omega), w32_0]
    exact ⟨fun z => by omega, fun _ => ⟨⟨by omega, up_s, fun z => by omega⟩, w.fr (ch_0 g n) (by decide), (ch_0 g n).sub (by decide) (by decide), fun z => z.fr (ch_0 g n) (by decide)⟩⟩
  refine wL_write (zX11_write (sX11_isTray ht ⟨by decide, by decide, sX11_needFound (fun h1 => ?_) (fun h1 => Or.inl ⟨rfl, ?_⟩)⟩))
  · have r1 := rng h1
    refine sX9_isMissing w1 h1 ?_
    first | with_reducible refine b_eq (fun h2 => ?_) (fun h2 => ?_) | with_reducible refine b_ne (fun h2 => ?_) (fun h2 => ?_)
    · refine zX11_write_23 ⟨by decide, by decide, nS_f (Or.inr (Or.inl ⟨rfl, ?_⟩))⟩
      exact zX12_write (sX12_refuses w1 w.2 ht hp (fun z => absurd h1 z) (fun _ _ => bad 2 (by omega)) (fun _ z => absurd h2 z) (fun _ z => absurd h2 z))
    · refine zX11_write_23 ⟨by decide, by decide, nS_t ?_⟩
      refine s_in ?_ (fun ea => ?_)
      · omega
      try simp only [ea]
      clear ea
      refine sX11_within hp (by omega) (by omega) ⟨by decide, by decide, sX11_needPlace (fun h3 => ?_) (fun h3 => Or.inr (Or.inr ⟨rfl, ?_⟩))⟩
      · refine sX9_setNumber w1 h1 h2 (by omega) (sX9_number h1 (by omega) ?_)
        rw [up_s]
        obtain ⟨g1, e1⟩ : ∃ g1, g1 = mx_up (mx_up g 98 (t * 60 + p).toNat (cutC (g 96 t.toNat) v)) 179 0 (cutC (g 96 t.toNat) v) := ⟨_, rfl⟩
        rw [← e1]
        have c1 : Ch [98, 179] [0] g g1 := by rw [e1]; exact ((Ch.rf g).up (by decide) (by decide)).up (by decide) (by decide)
        refine zX12_write (sX12_refuses w1 (w.2.fr c1 (by decide)) ht hp (fun z => absurd h1 z) (fun _ z => absurd z h2) (fun _ _ z => absurd h3 z) (fun _ _ _ => ?_))
        rintro _ rfl
        rw [up_s]
        refine ⟨fun _ => ?_, fun z => absurd (by decide) z⟩
        refine s_in ?_ (fun ea => ?_)
        · omega
        try simp only [ea]
        clear ea
        rw [show 60 * t + p = t * 60 + p by omega, up_q (by decide), c1.1 175 (by decide) (by decide), (w.2 t.toNat (by omega)).1, cut_ref (by omega) hv]
        refine s_in ?_ (fun ea => ?_)
        · omega
        try simp only [ea]
        clear ea
        intro g2 e2
        refine s_in ?_ (fun ea => ?_)
        · omega
        try simp only [ea]
        clear ea
        have c2 : Ch [98, 177, 179] [0] g g2 := by rw [e2]; exact ((c1.sub (by decide) (by decide)).up9 (by decide)).up (by decide) (by decide)
        refine ⟨⟨by omega, by rw [e2]; simp [up_at, lset], fun _ => by rw [e2, e1]; simp [up_at, lset]⟩, ?_, c2, fun z => z.fr c2 (by decide)⟩
        refine w.write (t := t.toNat) (p := p.toNat) (by omega) (by omega) c2 (cutC_rng (s := g 96 t.toNat) hv) ?_ ?_
        · rw [e2, e1, show t.toNat * 60 + p.toNat = (t * 60 + p).toNat by omega]; simp [up_at]
        · rw [e2, e1, show t.toNat * 60 + p.toNat = (t * 60 + p).toNat by omega]; simp [up_at]
      · exact zX12_write (sX12_refuses w1 w.2 ht hp (fun z => absurd h1 z) (fun _ z => absurd z h2) (fun _ _ _ => bad 3 (by omega)) (fun _ _ z => absurd z h3))
  · exact zX12_write (sX12_refuses w1 w.2 ht hp (fun _ => bad 1 (by omega)) (fun z => absurd z h1) (fun z => absurd z h1) (fun z => absurd z h1))
theorem C_read {T : Nat × (Nat → Int32)} {d : Nat} {X X' : mz_X} {g : mz_S} {t p : Int} (w : IT g) (ht : R32 t) (hp : R32 p) : zC T (d + 4) 389 [mx_R 0, mx_I t, mx_I p, mx_R 179] g (fun kk g1 => zC T (d + 4) 326 [mx_R 99, mx_I t, mx_I p] g1 (fun r g2 => AnsL kk r g2 ∧ Qy [179] [0] g g2) X') X := by
  have w1 := w.1
  have rng : 0 ≤ t ∧ t ≤ 3 → (-1 ≤ g 96 t.toNat ∧ g 96 t.toNat ≤ 3) ∧ (0 ≤ g 97 t.toNat ∧ g 97 t.toNat ≤ 60) := fun z => w1.1 t.toNat (by omega)
  have bad : ∀ n : Int, 1 ≤ n ∧ n ≤ 3 → ∀ v2 : mz_S, v2 = mx_up g 99 0 n → (w32 (v2 99 0) ≤ w32 0 → mx_in ((60 * t) + p) 240 ∧ aX12_read T (d + 3) (fun r g2 => AnsL n r g2 ∧ Qy [179] [0] g g2) X' 32 [some (mx_R 99), some (mx_I t), some (mx_I p)] [mx_J (v2 177 (mx_at ((60 * t) + p)))] v2 (0, 0)) ∧ (¬ (w32 (v2 99 0) ≤ w32 0) → aX12_read T (d + 3) (fun r g2 => AnsL n r g2 ∧ Qy [179] [0] g g2) X' 32 [some (mx_R 99), some (mx_I t), some (mx_I p)] [mx_J 0] v2 (0, 0)) := by
    rintro n hn _ rfl
    rw [up_s, w32_of (by omega) (by omega), w32_0]
    exact ⟨fun z => by omega, fun _ => zX12_read_32 ⟨⟨by omega, up_s, fun z => by omega⟩, (ch_0 g n).sub (by decide) (by decide), fun z => z.fr (ch_0 g n) (by decide)⟩⟩
  refine wL_read (zX11_read (sX11_isTray ht ⟨by decide, by decide, sX11_needFound (fun h1 => ?_) (fun h1 => Or.inl ⟨rfl, ?_⟩)⟩))
  · have r1 := rng h1
    refine sX9_isMissing w1 h1 ?_
    first | with_reducible refine b_eq (fun h2 => ?_) (fun h2 => ?_) | with_reducible refine b_ne (fun h2 => ?_) (fun h2 => ?_)
    · refine zX11_read_23 ⟨by decide, by decide, nS_f (Or.inr (Or.inl ⟨rfl, ?_⟩))⟩
      exact zX12_read (sX12_refuses w1 w.2 ht hp (fun z => absurd h1 z) (fun _ _ => bad 2 (by omega)) (fun _ z => absurd h2 z) (fun _ z => absurd h2 z))
    · refine zX11_read_23 ⟨by decide, by decide, nS_t ?_⟩
      refine s_in ?_ (fun ea => ?_)
      · omega
      try simp only [ea]
      clear ea
      refine sX11_within hp (by omega) (by omega) ⟨by decide, by decide, sX11_needPlace (fun h3 => ?_) (fun h3 => Or.inr (Or.inr ⟨rfl, ?_⟩))⟩
      · refine sX9_number h1 (by omega) ?_
        have c1 : Ch [179] [0] g (mx_up g 179 0 (g 98 (t * 60 + p).toNat)) := (Ch.rf g).up (by decide) (by decide)
        refine zX12_read (sX12_refuses w1 (w.2.fr c1 (by decide)) ht hp (fun z => absurd h1 z) (fun _ z => absurd z h2) (fun _ _ z => absurd h3 z) (fun _ _ _ => ?_))
        rintro _ rfl
        rw [up_s]
        refine ⟨fun _ => ?_, fun z => absurd (by decide) z⟩
        rw [show 60 * t + p = t * 60 + p by omega]
        refine s_in ?_ (fun ea => ?_)
        · omega
        try simp only [ea]
        clear ea
        refine zX12_read_32 ⟨⟨by omega, up_s, fun _ => ?_⟩, c1.up9 (by decide), fun z => z.fr (c1.up9 (by decide)) (by decide)⟩
        have := (w.2 t.toNat (by omega)).2.2 p.toNat (by omega)
        rw [up_q (by decide), up_s, up_q (by decide), up_q (by decide), show (t * 60 + p).toNat = t.toNat * 60 + p.toNat by omega, this]
      · exact zX12_read (sX12_refuses w1 w.2 ht hp (fun z => absurd h1 z) (fun _ z => absurd z h2) (fun _ _ _ => bad 3 (by omega)) (fun _ _ z => absurd z h3))
  · exact zX12_read (sX12_refuses w1 w.2 ht hp (fun _ => bad 1 (by omega)) (fun z => absurd z h1) (fun z => absurd z h1) (fun z => absurd z h1))
