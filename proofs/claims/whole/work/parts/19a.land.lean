/-! Arrays.fill; Land's readers: lags, what is heard, rates -/
def fillS (g : mz_S) (q n : Nat) (x : Int) : mz_S := fun a b => if a = q ∧ b < n then x else g a b
theorem fillS_0 (g : mz_S) (q : Nat) (x : Int) : fillS g q 0 x = g := by
  funext a b; simp only [fillS]; split
  · omega
  · rfl
theorem fillS_s (g : mz_S) (q n : Nat) (x : Int) : mx_up (fillS g q n x) q n x = fillS g q (n + 1) x := by
  funext a b; simp only [fillS, mx_up]
  repeat' split
  all_goals first | rfl | omega
theorem sJ7_fill_53178 {T : Nat × (Nat → Int32)} {d : Nat} {Q : mz_K} {X : mz_X} {g : mz_S} {x : Int} (k : Q 0 (fillS g 8 32 x)) : zC T (d + 1) 345 [mx_R 8, mx_I x] g Q X := by
  have h : ∀ i : Nat, i ≤ 32 → aJ7_fill_53178 T d Q X 5 [some (mx_R 8), some (mx_I x), some (mx_I (i : Int)), some (mx_I 32)] [] (fillS g 8 i x) (0, 0) := by
    refine upto ?_ (fun i hi ih => ?_)
    · refine zJ7_fill_53178_5 ?_
      first | refine c_lt ?_ ?_ (fun h => ?_) (fun h => ?_) | refine c_le ?_ ?_ (fun h => ?_) (fun h => ?_) | refine c_eq ?_ ?_ (fun h => ?_) (fun h => ?_) | refine c_ne ?_ ?_ (fun h => ?_) (fun h => ?_)
      · omega
      · omega
      · exact k
      · omega
    · refine zJ7_fill_53178_5 ?_
      first | refine c_lt ?_ ?_ (fun h => ?_) (fun h => ?_) | refine c_le ?_ ?_ (fun h => ?_) (fun h => ?_) | refine c_eq ?_ ?_ (fun h => ?_) (fun h => ?_) | refine c_ne ?_ ?_ (fun h => ?_) (fun h => ?_)
      · omega
      · omega
      · omega
      · refine s_inN ?_ (fun ea => ?_)
        · omega
        try simp only [ea]
        clear ea
        rintro _ rfl
        rw [fillS_s]
        exact ih
  have h0 := h 0 (by omega)
  rw [fillS_0] at h0
  exact zJ7_fill_53178 h0
theorem sJ7_fill_d0a16 {T : Nat × (Nat → Int32)} {d : Nat} {Q : mz_K} {X : mz_X} {g : mz_S} {x : Int} (k : Q 0 (fillS g 78 1000 x)) : zC T (d + 1) 344 [mx_R 78, mx_J x] g Q X := by
  have h : ∀ i : Nat, i ≤ 1000 → aJ7_fill_d0a16 T d Q X 6 [some (mx_R 78), some (mx_J x), none, some (mx_I (i : Int)), some (mx_I 1000)] [] (fillS g 78 i x) (0, 0) := by
    refine upto ?_ (fun i hi ih => ?_)
    · refine zJ7_fill_d0a16_6 ?_
      first | refine c_lt ?_ ?_ (fun h => ?_) (fun h => ?_) | refine c_le ?_ ?_ (fun h => ?_) (fun h => ?_) | refine c_eq ?_ ?_ (fun h => ?_) (fun h => ?_) | refine c_ne ?_ ?_ (fun h => ?_) (fun h => ?_)
      · omega
      · omega
      · exact k
      · omega
    · refine zJ7_fill_d0a16_6 ?_
      first | refine c_lt ?_ ?_ (fun h => ?_) (fun h => ?_) | refine c_le ?_ ?_ (fun h => ?_) (fun h => ?_) | refine c_eq ?_ ?_ (fun h => ?_) (fun h => ?_) | refine c_ne ?_ ?_ (fun h => ?_) (fun h => ?_)
      · omega
      · omega
      · omega
      · refine s_inN ?_ (fun ea => ?_)
        · omega
        try simp only [ea]
        clear ea
        rintro _ rfl
        rw [fillS_s]
        exact ih
  have h0 := h 0 (by omega)
  rw [fillS_0] at h0
  exact zJ7_fill_d0a16 h0
theorem sJ7_fill_d0a16_i2 {T : Nat × (Nat → Int32)} {d : Nat} {Q : mz_K} {X : mz_X} {g : mz_S} {x : Int} (k : Q 0 (fillS g 93 12 x)) : zC T (d + 1) 344 [mx_R 93, mx_J x] g Q X := by
  have h : ∀ i : Nat, i ≤ 12 → aJ7_fill_d0a16_i2 T d Q X 6 [some (mx_R 93), some (mx_J x), none, some (mx_I (i : Int)), some (mx_I 12)] [] (fillS g 93 i x) (0, 0) := by
    refine upto ?_ (fun i hi ih => ?_)
    · refine zJ7_fill_d0a16_i2_6 ?_
      first | refine c_lt ?_ ?_ (fun h => ?_) (fun h => ?_) | refine c_le ?_ ?_ (fun h => ?_) (fun h => ?_) | refine c_eq ?_ ?_ (fun h => ?_) (fun h => ?_) | refine c_ne ?_ ?_ (fun h => ?_) (fun h => ?_)
      · omega
      · omega
      · exact k
      · omega
    · refine zJ7_fill_d0a16_i2_6 ?_
      first | refine c_lt ?_ ?_ (fun h => ?_) (fun h => ?_) | refine c_le ?_ ?_ (fun h => ?_) (fun h => ?_) | refine c_eq ?_ ?_ (fun h => ?_) (fun h => ?_) | refine c_ne ?_ ?_ (fun h => ?_) (fun h => ?_)
      · omega
      · omega
      · omega
      · refine s_inN ?_ (fun ea => ?_)
        · omega
        try simp only [ea]
        clear ea
        rintro _ rfl
        rw [fillS_s]
        exact ih
  have h0 := h 0 (by omega)
  rw [fillS_0] at h0
  exact zJ7_fill_d0a16_i2 h0
theorem sJ7_fill_d0a16_i3 {T : Nat × (Nat → Int32)} {d : Nat} {Q : mz_K} {X : mz_X} {g : mz_S} {x : Int} (k : Q 0 (fillS g 91 12 x)) : zC T (d + 1) 344 [mx_R 91, mx_J x] g Q X := by
  have h : ∀ i : Nat, i ≤ 12 → aJ7_fill_d0a16_i3 T d Q X 6 [some (mx_R 91), some (mx_J x), none, some (mx_I (i : Int)), some (mx_I 12)] [] (fillS g 91 i x) (0, 0) := by
    refine upto ?_ (fun i hi ih => ?_)
    · refine zJ7_fill_d0a16_i3_6 ?_
      first | refine c_lt ?_ ?_ (fun h => ?_) (fun h => ?_) | refine c_le ?_ ?_ (fun h => ?_) (fun h => ?_) | refine c_eq ?_ ?_ (fun h => ?_) (fun h => ?_) | refine c_ne ?_ ?_ (fun h => ?_) (fun h => ?_)
      · omega
      · omega
      · exact k
      · omega
    · refine zJ7_fill_d0a16_i3_6 ?_
      first | refine c_lt ?_ ?_ (fun h => ?_) (fun h => ?_) | refine c_le ?_ ?_ (fun h => ?_) (fun h => ?_) | refine c_eq ?_ ?_ (fun h => ?_) (fun h => ?_) | refine c_ne ?_ ?_ (fun h => ?_) (fun h => ?_)
      · omega
      · omega
      · omega
      · refine s_inN ?_ (fun ea => ?_)
        · omega
        try simp only [ea]
        clear ea
        rintro _ rfl
        rw [fillS_s]
        exact ih
  have h0 := h 0 (by omega)
  rw [fillS_0] at h0
  exact zJ7_fill_d0a16_i3 h0
theorem sJ7_fill_d0a16_i4 {T : Nat × (Nat → Int32)} {d : Nat} {Q : mz_K} {X : mz_X} {g : mz_S} {x : Int} (k : Q 0 (fillS g 92 12 x)) : zC T (d + 1) 344 [mx_R 92, mx_J x] g Q X := by
  have h : ∀ i : Nat, i ≤ 12 → aJ7_fill_d0a16_i4 T d Q X 6 [some (mx_R 92), some (mx_J x), none, some (mx_I (i : Int)), some (mx_I 12)] [] (fillS g 92 i x) (0, 0) := by
    refine upto ?_ (fun i hi ih => ?_)
    · refine zJ7_fill_d0a16_i4_6 ?_
      first | refine c_lt ?_ ?_ (fun h => ?_) (fun h => ?_) | refine c_le ?_ ?_ (fun h => ?_) (fun h => ?_) | refine c_eq ?_ ?_ (fun h => ?_) (fun h => ?_) | refine c_ne ?_ ?_ (fun h => ?_) (fun h => ?_)
      · omega
      · omega
      · exact k
      · omega
    · refine zJ7_fill_d0a16_i4_6 ?_
      first | refine c_lt ?_ ?_ (fun h => ?_) (fun h => ?_) | refine c_le ?_ ?_ (fun h => ?_) (fun h => ?_) | refine c_eq ?_ ?_ (fun h => ?_) (fun h => ?_) | refine c_ne ?_ ?_ (fun h => ?_) (fun h => ?_)
      · omega
      · omega
      · omega
      · refine s_inN ?_ (fun ea => ?_)
        · omega
        try simp only [ea]
        clear ea
        rintro _ rfl
        rw [fillS_s]
        exact ih
  have h0 := h 0 (by omega)
  rw [fillS_0] at h0
  exact zJ7_fill_d0a16_i4 h0
theorem sX5_lagOf {T : Nat × (Nat → Int32)} {d : Nat} {Q : mz_K} {X : mz_X} {g : mz_S} {a b : Int} (ha : 0 ≤ a ∧ a < 8) (hb : 0 ≤ b ∧ b < 8) (k : Q (g 3 (a * 8 + b).toNat) g) : zC T (d + 1) 76 [mx_R 1, mx_I a, mx_I b] g Q X := by
  refine zX5_lagOf ?_
  refine s_in ?_ (fun ea => ?_)
  · omega
  try simp only [ea]
  clear ea
  exact k
theorem sX5_isHeard {T : Nat × (Nat → Int32)} {d : Nat} {Q : mz_K} {X : mz_X} {g : mz_S} {a o b dy l : Int} (ha : 0 ≤ a ∧ a < 8) (hb : 0 ≤ b ∧ b < 8) (el : g 3 (a * 8 + b).toNat = l) (hl : -1 ≤ l ∧ l ≤ 1000000) (ho : 0 ≤ o ∧ o ≤ 1000000) (hd : R32 dy) (k : Q (pI (¬ l = -1 ∧ o + l ≤ dy)) g) : zC T (d + 2) 77 [mx_R 1, mx_I a, mx_I o, mx_I b, mx_I dy] g Q X := by
  refine zX5_isHeard (sX5_lagOf ha hb ?_)
  rw [el]
  first | refine c_lt ?_ ?_ (fun h => ?_) (fun h => ?_) | refine c_le ?_ ?_ (fun h => ?_) (fun h => ?_) | refine c_eq ?_ ?_ (fun h => ?_) (fun h => ?_) | refine c_ne ?_ ?_ (fun h => ?_) (fun h => ?_)
  · omega
  · omega
  · refine zX5_isHeard_27 (zX5_isHeard_28 ⟨zb0, ?_⟩)
    rw [pI_f (by omega)] at k; exact k
  · first | refine c_lt ?_ ?_ (fun h2 => ?_) (fun h2 => ?_) | refine c_le ?_ ?_ (fun h2 => ?_) (fun h2 => ?_) | refine c_eq ?_ ?_ (fun h2 => ?_) (fun h2 => ?_) | refine c_ne ?_ ?_ (fun h2 => ?_) (fun h2 => ?_)
    · omega
    · omega
    · refine zX5_isHeard_27 (zX5_isHeard_28 ⟨zb0, ?_⟩)
      rw [pI_f (by omega)] at k; exact k
    · refine zX5_isHeard_28 ⟨zb1, ?_⟩
      rw [pI_t (by omega)] at k; exact k
/-- the best of the rates below n: of a coin, heard in time, the latest, the nearest, the last -/
def rtC (rc lg rd : Nat → Int) (coin day : Int) (r : Nat) : Prop := rc r = coin ∧ ¬ lg r = -1 ∧ rd r + lg r ≤ day
def rtB (rc lg rd : Nat → Int) (coin day : Int) (lo n : Nat) (b : Int) : Prop :=
  (b = -1 ∧ ∀ r, lo ≤ r → r < n → ¬ rtC rc lg rd coin day r) ∨ ∃ j : Nat, b = (j : Int) ∧ lo ≤ j ∧ j < n ∧ rtC rc lg rd coin day j ∧ ∀ r, lo ≤ r → r < n → rtC rc lg rd coin day r → rd r < rd j ∨ (rd r = rd j ∧ (lg j < lg r ∨ (lg j = lg r ∧ r ≤ j)))
theorem rtB_one {rc lg rd : Nat → Int} {coin day : Int} {lo n : Nat} {b b' : Int} (h : rtB rc lg rd coin day lo n b) (h' : rtB rc lg rd coin day lo n b') : b = b' := by
  rcases h with ⟨e, h⟩ | ⟨j, e, l, u, c, h⟩
  · rcases h' with ⟨e', h'⟩ | ⟨j', e', l', u', c', h'⟩
    · rw [e, e']
    · exact absurd c' (h j' l' u')
  · rcases h' with ⟨e', h'⟩ | ⟨j', e', l', u', c', h'⟩
    · exact absurd c (h' j l u)
    · have h1 := h j' l' u' c'
      have h2 := h' j l u c
      have : j = j' := by omega
      rw [e, e', this]
/-- what rateHeard gives: over the class's cells -/
def rtV (ro : Nat → Int) (b : Int) : Int := if b = -1 then 100 else ro b.toNat
theorem sX5_rateHeard_at {T : Nat × (Nat → Int32)} {d : Nat} {Q : mz_K} {X : mz_X} {g : mz_S} {u : Nat × Nat} {t c dy : Int} {n : Nat} {lg : Nat → Int} (hn : n ≤ 150) (ht : 0 ≤ t ∧ t < 8) (hc : 1 ≤ c ∧ c < 4) (hd : 0 ≤ dy ∧ dy ≤ 999)
    (hT : ∀ r, r < n → 0 ≤ g 5 r ∧ g 5 r < 8) (hC : ∀ r, r < n → 0 ≤ g 6 r ∧ g 6 r < 4) (hD : ∀ r, r < n → 0 ≤ g 4 r ∧ g 4 r ≤ 999) (hL : ∀ r, r < n → g 3 (g 5 r * 8 + t).toNat = lg r ∧ -1 ≤ lg r ∧ lg r ≤ 1000000)
    (hS : ∀ r s, r ≤ s → s < n → g 4 r ≤ g 4 s) (k : ∀ b, rtB (g 6) lg (g 4) c dy 0 n b → Q (rtV (g 7) b) g) :
    ∀ (m : Nat) (b l : Int) (o7 o8 : Option mx_v), m ≤ n → rtB (g 6) lg (g 4) c dy m n b → (¬ b = -1 → l = lg b.toNat) → R32 l → aX5_rateHeard T d Q X 14 [some (mx_R 1), some (mx_I t), some (mx_I c), some (mx_I dy), some (mx_I b), some (mx_I l), some (mx_I ((m : Int) - 1)), o7, o8] [] g u := by
  have fin : ∀ (b l : Int) (m : Int) (o7 o8 : Option mx_v), rtB (g 6) lg (g 4) c dy 0 n b → aX5_rateHeard T d Q X 138 [some (mx_R 1), some (mx_I t), some (mx_I c), some (mx_I dy), some (mx_I b), some (mx_I l), some (mx_I m), o7, o8] [] g u := by
    intro b l m o7 o8 hb
    have kb := k b hb
    have hbr : -1 ≤ b ∧ b < n := by
      rcases hb with ⟨e, -⟩ | ⟨j, e, -, h, -⟩ <;> omega
    refine zX5_rateHeard_138 ?_
    first | refine c_lt ?_ ?_ (fun h => ?_) (fun h => ?_) | refine c_le ?_ ?_ (fun h => ?_) (fun h => ?_) | refine c_eq ?_ ?_ (fun h => ?_) (fun h => ?_) | refine c_ne ?_ ?_ (fun h => ?_) (fun h => ?_)
    · omega
    · omega
    · refine s_in ?_ (fun ea => ?_)
      · omega
      try simp only [ea]
      clear ea
      refine zX5_rateHeard_156 ?_
      unfold rtV at kb
      rw [if_neg h] at kb; exact kb
    · refine zX5_rateHeard_156 ?_
      unfold rtV at kb
      rw [if_pos h] at kb; exact kb
  intro m
  induction m with
  | zero =>
    intro b l o7 o8 _ hb _ hl
    refine zX5_rateHeard_14 ?_
    first | refine c_lt ?_ ?_ (fun h => ?_) (fun h => ?_) | refine c_le ?_ ?_ (fun h => ?_) (fun h => ?_) | refine c_eq ?_ ?_ (fun h => ?_) (fun h => ?_) | refine c_ne ?_ ?_ (fun h => ?_) (fun h => ?_)
    · omega
    · omega
    · exact fin _ _ _ _ _ hb
    · omega
  | succ m ih =>
    intro b l o7 o8 hm hb hbl hl
    have e1 : (((m + 1 : Nat) : Int) - 1) = (m : Int) := by omega
    rw [e1]
    have hbr : -1 ≤ b ∧ b < n := by
      rcases hb with ⟨e, -⟩ | ⟨j, e, -, h, -⟩ <;> omega
    have hDm := hD m (by omega)
    have hTm := hT m (by omega)
    have hCm := hC m (by omega)
    have hLm := hL m (by omega)
    -- behind the look at rate m
    have go : ∀ (b' l' : Int) (o7 o8 : Option mx_v), rtB (g 6) lg (g 4) c dy m n b' → (¬ b' = -1 → l' = lg b'.toNat) → R32 l' → aX5_rateHeard T d Q X 14 [some (mx_R 1), some (mx_I t), some (mx_I c), some (mx_I dy), some (mx_I b'), some (mx_I l'), some (mx_I ((m : Int) + (-1))), o7, o8] [] g u := by
      intro b' l' o7 o8 h1 h2 h3
      have := ih b' l' o7 o8 (by omega) h1 h2 h3
      rw [show (m : Int) - 1 = (m : Int) + (-1) by omega] at this
      exact this
    -- the rate is no candidate, or no better
    have same : (rtC (g 6) lg (g 4) c dy m → ¬ b = -1 ∧ lg b.toNat ≤ lg m) → (¬ b = -1 → g 4 m = g 4 b.toNat ∨ g 4 m < g 4 b.toNat) → rtB (g 6) lg (g 4) c dy m n b := by
      intro hc1 hc2
      rcases hb with ⟨e, h⟩ | ⟨j, e, lj, uj, cj, h⟩
      · refine Or.inl ⟨e, fun r h1 h2 h3 => ?_⟩
        rcases Nat.lt_or_ge m r with h4 | h4
        · exact h r h4 h2 h3
        · have : r = m := by omega
          subst this
          exact (hc1 h3).1 e
      · refine Or.inr ⟨j, e, by omega, uj, cj, fun r h1 h2 h3 => ?_⟩
        rcases Nat.lt_or_ge m r with h4 | h4
        · exact h r h4 h2 h3
        · have : r = m := by omega
          subst this
          have h5 := hc1 h3
          have h6 := hc2 (by omega)
          rw [show b.toNat = j by omega] at h5 h6
          omega
    have look : (¬ b = -1 → g 4 m = g 4 b.toNat) → ∀ (o7 o8 : Option mx_v), aX5_rateHeard T d Q X 49 [some (mx_R 1), some (mx_I t), some (mx_I c), some (mx_I dy), some (mx_I b), some (mx_I l), some (mx_I (m : Int)), o7, o8] [] g u := by
      intro hsame o7 o8
      have no : ∀ (o8 : Option mx_v), ¬ rtC (g 6) lg (g 4) c dy m → aX5_rateHeard T d Q X 103 [some (mx_R 1), some (mx_I t), some (mx_I c), some (mx_I dy), some (mx_I b), some (mx_I l), some (mx_I (m : Int)), some (mx_I (lg m)), o8] [] g u := by
        intro o8 hno
        refine zX5_rateHeard_103 (zX5_rateHeard_104 ⟨fun _ => ?_, fun h => absurd rfl h⟩)
        refine zX5_rateHeard_132 (go _ _ _ _ (same (fun z => absurd z hno) (fun z => Or.inl (hsame z))) hbl hl)
      refine zX5_rateHeard_49 ?_
      refine s_inN ?_ (fun ea => ?_)
      · omega
      try simp only [ea]
      clear ea
      refine s_in ?_ (fun ea => ?_)
      · omega
      try simp only [ea]
      clear ea
      rw [hLm.1]
      refine s_inN ?_ (fun ea => ?_)
      · omega
      try simp only [ea]
      clear ea
      first | refine c_lt ?_ ?_ (fun h1 => ?_) (fun h1 => ?_) | refine c_le ?_ ?_ (fun h1 => ?_) (fun h1 => ?_) | refine c_eq ?_ ?_ (fun h1 => ?_) (fun h1 => ?_) | refine c_ne ?_ ?_ (fun h1 => ?_) (fun h1 => ?_)
      · omega
      · omega
      · exact no _ (fun z => h1 z.1)
      · first | refine c_lt ?_ ?_ (fun h2 => ?_) (fun h2 => ?_) | refine c_le ?_ ?_ (fun h2 => ?_) (fun h2 => ?_) | refine c_eq ?_ ?_ (fun h2 => ?_) (fun h2 => ?_) | refine c_ne ?_ ?_ (fun h2 => ?_) (fun h2 => ?_)
        · omega
        · omega
        · exact no _ (fun z => z.2.1 h2)
        · refine s_inN ?_ (fun ea => ?_)
          · omega
          try simp only [ea]
          clear ea
          first | refine c_lt ?_ ?_ (fun h3 => ?_) (fun h3 => ?_) | refine c_le ?_ ?_ (fun h3 => ?_) (fun h3 => ?_) | refine c_eq ?_ ?_ (fun h3 => ?_) (fun h3 => ?_) | refine c_ne ?_ ?_ (fun h3 => ?_) (fun h3 => ?_)
          · omega
          · omega
          · exact no _ (fun z => by have := z.2.2; omega)
          · have hcm : rtC (g 6) lg (g 4) c dy m := ⟨h1, h2, by omega⟩
            have new : (¬ b = -1 → lg m < lg b.toNat) → rtB (g 6) lg (g 4) c dy m n m := by
              intro hl2
              refine Or.inr ⟨m, rfl, Nat.le_refl _, by omega, hcm, fun r h4 h5 h6 => ?_⟩
              rcases Nat.lt_or_ge m r with h7 | h7
              · rcases hb with ⟨e, h⟩ | ⟨j, e, lj, uj, cj, h⟩
                · exact absurd h6 (h r h7 h5)
                · have h8 := h r h7 h5 h6
                  have h9 := hl2 (by omega)
                  have h10 := hsame (by omega)
                  rw [show b.toNat = j by omega] at h9 h10
                  omega
              · have : r = m := by omega
                subst this
                omega
            refine zX5_rateHeard_104 ⟨fun z => absurd z (by decide), fun _ => ?_⟩
            first | refine c_lt ?_ ?_ (fun h4 => ?_) (fun h4 => ?_) | refine c_le ?_ ?_ (fun h4 => ?_) (fun h4 => ?_) | refine c_eq ?_ ?_ (fun h4 => ?_) (fun h4 => ?_) | refine c_ne ?_ ?_ (fun h4 => ?_) (fun h4 => ?_)
            · omega
            · omega
            · refine zX5_rateHeard_124 (zX5_rateHeard_132 (go _ _ _ _ (new (fun z => absurd h4 z)) (fun _ => rfl) (by omega)))
            · have hbl2 := hbl h4
              first | refine c_lt ?_ ?_ (fun h5 => ?_) (fun h5 => ?_) | refine c_le ?_ ?_ (fun h5 => ?_) (fun h5 => ?_) | refine c_eq ?_ ?_ (fun h5 => ?_) (fun h5 => ?_) | refine c_ne ?_ ?_ (fun h5 => ?_) (fun h5 => ?_)
              · omega
              · omega
              · refine zX5_rateHeard_132 (go _ _ _ _ (same (fun _ => ⟨h4, by omega⟩) (fun z => Or.inl (hsame z))) hbl hl)
              · refine zX5_rateHeard_124 (zX5_rateHeard_132 (go _ _ _ _ (new (fun _ => by omega)) (fun _ => rfl) (by omega)))
    refine zX5_rateHeard_14 ?_
    first | refine c_lt ?_ ?_ (fun h => ?_) (fun h => ?_) | refine c_le ?_ ?_ (fun h => ?_) (fun h => ?_) | refine c_eq ?_ ?_ (fun h => ?_) (fun h => ?_) | refine c_ne ?_ ?_ (fun h => ?_) (fun h => ?_)
    · omega
    · omega
    · omega
    · first | refine c_lt ?_ ?_ (fun h2 => ?_) (fun h2 => ?_) | refine c_le ?_ ?_ (fun h2 => ?_) (fun h2 => ?_) | refine c_eq ?_ ?_ (fun h2 => ?_) (fun h2 => ?_) | refine c_ne ?_ ?_ (fun h2 => ?_) (fun h2 => ?_)
      · omega
      · omega
      · omega
      · first | refine c_lt ?_ ?_ (fun h3 => ?_) (fun h3 => ?_) | refine c_le ?_ ?_ (fun h3 => ?_) (fun h3 => ?_) | refine c_eq ?_ ?_ (fun h3 => ?_) (fun h3 => ?_) | refine c_ne ?_ ?_ (fun h3 => ?_) (fun h3 => ?_)
        · omega
        · omega
        · exact look (fun z => absurd h3 z) _ _
        · refine s_inN ?_ (fun ea => ?_)
          · omega
          try simp only [ea]
          clear ea
          refine s_in ?_ (fun ea => ?_)
          · omega
          try simp only [ea]
          clear ea
          have hDb := hD b.toNat (by omega)
          have hSb := hS m b.toNat (by
            rcases hb with ⟨e, -⟩ | ⟨j, e, hj, -⟩ <;> omega) (by omega)
          first | refine c_lt ?_ ?_ (fun h4 => ?_) (fun h4 => ?_) | refine c_le ?_ ?_ (fun h4 => ?_) (fun h4 => ?_) | refine c_eq ?_ ?_ (fun h4 => ?_) (fun h4 => ?_) | refine c_ne ?_ ?_ (fun h4 => ?_) (fun h4 => ?_)
          · omega
          · omega
          · exact look (fun _ => by omega) _ _
          · refine fin _ _ _ _ _ ?_
            rcases hb with ⟨e, -⟩ | ⟨j, e, lj, uj, cj, h⟩
            · omega
            · refine Or.inr ⟨j, e, by omega, uj, cj, fun r h5 h6 h7 => ?_⟩
              rcases Nat.lt_or_ge m r with h8 | h8
              · exact h r h8 h6 h7
              · have := hS r m h8 (by omega)
                rw [show b.toNat = j by omega] at h4
                omega
