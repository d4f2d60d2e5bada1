/-! the reference: small members, lags, rates, worth (c: the class's cells, of which the reference's are a copy) -/
theorem sX12_fails {T : Nat × (Nat → Int32)} {d : Nat} {Q : mz_K} {X : mz_X} {g : mz_S} {x : Int} (k : Q 0 (mx_up g 99 0 x)) : zC T (d + 1) 209 [mx_R 99, mx_I x] g Q X := by
  refine zX12_fails ?_
  rintro _ rfl
  exact k
theorem sX12_within {T : Nat × (Nat → Int32)} {d : Nat} {Q : mz_K} {X : mz_X} {g : mz_S} {x lo hi : Int} (hx : R64 x) (hl : R64 lo) (hh : R64 hi) (k : Q (pI (lo ≤ x ∧ x ≤ hi)) g) : zC T (d + 1) 210 [mx_J x, mx_J lo, mx_J hi] g Q X := by
  refine zX12_within ?_
  first | with_reducible refine l_gt ?_ ?_ (fun h => ?_) (fun h => ?_) | with_reducible refine l_lt ?_ ?_ (fun h => ?_) (fun h => ?_) | with_reducible refine l_ge ?_ ?_ (fun h => ?_) (fun h => ?_) | with_reducible refine l_le ?_ ?_ (fun h => ?_) (fun h => ?_) | with_reducible refine l_eq ?_ ?_ (fun h => ?_) (fun h => ?_) | with_reducible refine l_ne ?_ ?_ (fun h => ?_) (fun h => ?_)
  · omega
  · omega
  · refine zX12_within_17 (zX12_within_18 ⟨zb0, ?_⟩)
    rw [pI_f (by omega)] at k; exact k
  · first | with_reducible refine l_gt ?_ ?_ (fun h2 => ?_) (fun h2 => ?_) | with_reducible refine l_lt ?_ ?_ (fun h2 => ?_) (fun h2 => ?_) | with_reducible refine l_ge ?_ ?_ (fun h2 => ?_) (fun h2 => ?_) | with_reducible refine l_le ?_ ?_ (fun h2 => ?_) (fun h2 => ?_) | with_reducible refine l_eq ?_ ?_ (fun h2 => ?_) (fun h2 => ?_) | with_reducible refine l_ne ?_ ?_ (fun h2 => ?_) (fun h2 => ?_)
    · omega
    · omega
    · refine zX12_within_17 (zX12_within_18 ⟨zb0, ?_⟩)
      rw [pI_f (by omega)] at k; exact k
    · refine zX12_within_18 ⟨zb1, ?_⟩
      rw [pI_t (by omega)] at k; exact k
theorem sX12_isTown {T : Nat × (Nat → Int32)} {d : Nat} {Q : mz_K} {X : mz_X} {g : mz_S} {x : Int} (hx : R32 x) (ht : 0 ≤ g 99 2 ∧ g 99 2 ≤ 8) (k : Q (pI (0 ≤ x ∧ x ≤ g 99 2 - 1)) g) : zC T (d + 2) 214 [mx_R 99, mx_I x] g Q X := by
  refine zX12_isTown ?_
  rw [w32_of hx.1 hx.2, w32_of (by omega) (by omega)]
  exact sX12_within (by omega) (by omega) (by omega) ⟨pI_01 _, k⟩
theorem sX12_isBroker {T : Nat × (Nat → Int32)} {d : Nat} {Q : mz_K} {X : mz_X} {g : mz_S} {x : Int} (hx : R32 x) (ht : 0 ≤ g 99 10 ∧ g 99 10 ≤ 12) (k : Q (pI (0 ≤ x ∧ x ≤ g 99 10 - 1)) g) : zC T (d + 2) 226 [mx_R 99, mx_I x] g Q X := by
  refine zX12_isBroker ?_
  rw [w32_of hx.1 hx.2, w32_of (by omega) (by omega)]
  exact sX12_within (by omega) (by omega) (by omega) ⟨pI_01 _, k⟩
theorem sX12_isCoin {T : Nat × (Nat → Int32)} {d : Nat} {Q : mz_K} {X : mz_X} {g : mz_S} {x : Int} (hx : R32 x) (k : Q (pI (0 ≤ x ∧ x ≤ 3)) g) : zC T (d + 2) 219 [mx_I x] g Q X := by
  refine zX12_isCoin ?_
  rw [w32_of hx.1 hx.2]
  exact sX12_within (by omega) (by omega) (by omega) ⟨pI_01 _, k⟩
theorem sX12_isDay {T : Nat × (Nat → Int32)} {d : Nat} {Q : mz_K} {X : mz_X} {g : mz_S} {x : Int} (hx : R32 x) (k : Q (pI (0 ≤ x ∧ x ≤ 999)) g) : zC T (d + 2) 220 [mx_I x] g Q X := by
  refine zX12_isDay ?_
  rw [w32_of hx.1 hx.2]
  exact sX12_within (by omega) (by omega) (by omega) ⟨pI_01 _, k⟩
/-- Land's cells, and the reference's that hold the same -/
def ReL (c r : mz_S) : Prop := r 99 1 = c 1 0 ∧ r 99 2 = c 1 1 ∧ r 99 3 = c 1 4 ∧ (∀ i, i < 64 → r 101 i = encF (c 3) i) ∧ (∀ k, k < 150 → r 102 k = c 5 k ∧ r 103 k = c 6 k ∧ r 104 k = c 7 k ∧ r 105 k = c 4 k)
theorem encF_v {l : Nat → Int} {i : Nat} (hi : i < 64) (h : -1 ≤ l i ∧ l i ≤ 9999) : (l i = -1 ∧ encF l i = 1000000) ∨ (0 ≤ l i ∧ l i ≤ 9999 ∧ encF l i = l i) := by
  unfold encF
  by_cases e : l i = -1
  · rw [if_pos ⟨hi, e⟩]; exact Or.inl ⟨e, rfl⟩
  · rw [if_neg (fun z => e z.2)]; exact Or.inr ⟨by omega, by omega, rfl⟩
theorem ReL.lag {c r : mz_S} (h : ReL c r) (w : WfL0 c) {i : Nat} (hi : i < 64) : (c 3 i = -1 ∧ r 101 i = 1000000) ∨ (0 ≤ c 3 i ∧ c 3 i ≤ 9999 ∧ r 101 i = c 3 i) := by
  rw [h.2.2.2.1 i hi]
  exact encF_v hi (w.2.2.2.1 i hi)
theorem sX12_lagOf {T : Nat × (Nat → Int32)} {d : Nat} {Q : mz_K} {X : mz_X} {g : mz_S} {c : mz_S} {a b : Int} (w : WfL0 c) (h : ReL c g) (ha : 0 ≤ a ∧ a < 8) (hb : 0 ≤ b ∧ b < 8) (k : Q (c 3 (a * 8 + b).toNat) g) : zC T (d + 1) 216 [mx_R 99, mx_I a, mx_I b] g Q X := by
  have hl := h.lag w (i := (a * 8 + b).toNat) (by omega)
  have e : 8 * a + b = a * 8 + b := by omega
  refine zX12_lagOf ?_
  rw [e]
  refine s_in ?_ (fun ea => ?_)
  · omega
  try simp only [ea]
  clear ea
  first | with_reducible refine c_lt ?_ ?_ (fun h1 => ?_) (fun h1 => ?_) | with_reducible refine c_le ?_ ?_ (fun h1 => ?_) (fun h1 => ?_) | with_reducible refine c_eq ?_ ?_ (fun h1 => ?_) (fun h1 => ?_) | with_reducible refine c_ne ?_ ?_ (fun h1 => ?_) (fun h1 => ?_)
  · omega
  · omega
  · refine zX12_lagOf_32 ?_
    rw [show c 3 (a * 8 + b).toNat = -1 by omega] at k; exact k
  · refine s_in ?_ (fun ea => ?_)
    · omega
    try simp only [ea]
    clear ea
    refine zX12_lagOf_32 ?_
    rw [show g 101 (a * 8 + b).toNat = c 3 (a * 8 + b).toNat by omega]; exact k
theorem sX12_heardOn {T : Nat × (Nat → Int32)} {d : Nat} {Q : mz_K} {X : mz_X} {g : mz_S} {a o b : Int} (ha : 0 ≤ a ∧ a < 8) (hb : 0 ≤ b ∧ b < 8) (k : Q (o + g 101 (a * 8 + b).toNat) g) : zC T (d + 1) 218 [mx_R 99, mx_I a, mx_I o, mx_I b] g Q X := by
  have e : 8 * a + b = a * 8 + b := by omega
  refine zX12_heardOn ?_
  rw [e]
  refine s_in ?_ (fun ea => ?_)
  · omega
  try simp only [ea]
  clear ea
  exact k
theorem sX12_rateOf {T : Nat × (Nat → Int32)} {d : Nat} {Q : mz_K} {X : mz_X} {g : mz_S} {c : mz_S} {t co dy : Int} (w : WfL0 c) (h : ReL c g) (ht : 0 ≤ t ∧ t < 8) (hc : 0 ≤ co ∧ co < 4) (hd : 0 ≤ dy ∧ dy ≤ 999) (k : Q (rateC c t co dy) g) : zC T (d + 2) 222 [mx_R 99, mx_I t, mx_I co, mx_I dy] g Q X := by
  obtain ⟨e1, e2, e3, e4, e5⟩ := h
  have h : ReL c g := ⟨e1, e2, e3, e4, e5⟩
  have w3 := w.2.2.1
  have w5 := w.2.2.2.2.1
  have hh : ∀ i : Nat, i ≤ (c 1 4).toNat → aX12_rateOf T (d + 1) Q X 6 [some (mx_R 99), some (mx_I t), some (mx_I co), some (mx_I dy), some (mx_I (rtF (c 6) (lgC c t) (c 4) co dy i)), some (mx_I (i : Int))] [] g (0, 0) := by
    refine upto ?_ (fun i hi ih => ?_)
    · have hb := rtF_B (c 6) (lgC c t) (c 4) co dy (c 1 4).toNat
      unfold rateC at k
      generalize rtF (c 6) (lgC c t) (c 4) co dy (c 1 4).toNat = b at hb k ⊢
      have hbr : -1 ≤ b ∧ b < (c 1 4).toNat := by
        rcases hb with ⟨e, -⟩ | ⟨j, e, -, h, -⟩ <;> omega
      refine zX12_rateOf_6 ?_
      rw [e3]
      first | with_reducible refine c_lt ?_ ?_ (fun h1 => ?_) (fun h1 => ?_) | with_reducible refine c_le ?_ ?_ (fun h1 => ?_) (fun h1 => ?_) | with_reducible refine c_eq ?_ ?_ (fun h1 => ?_) (fun h1 => ?_) | with_reducible refine c_ne ?_ ?_ (fun h1 => ?_) (fun h1 => ?_)
      · omega
      · omega
      · unfold rtV at k
        first | with_reducible refine c_lt ?_ ?_ (fun h2 => ?_) (fun h2 => ?_) | with_reducible refine c_le ?_ ?_ (fun h2 => ?_) (fun h2 => ?_) | with_reducible refine c_eq ?_ ?_ (fun h2 => ?_) (fun h2 => ?_) | with_reducible refine c_ne ?_ ?_ (fun h2 => ?_) (fun h2 => ?_)
        · omega
        · omega
        · refine s_in ?_ (fun ea => ?_)
          · omega
          try simp only [ea]
          clear ea
          refine zX12_rateOf_147 ?_
          rw [if_neg h2] at k
          rw [(e5 b.toNat (by omega)).2.2.1]; exact k
        · refine zX12_rateOf_147 ?_
          rw [if_pos h2] at k; exact k
      · omega
    · have hb := rtF_B (c 6) (lgC c t) (c 4) co dy i
      have hs : rtF (c 6) (lgC c t) (c 4) co dy (i + 1) = if rtCd (c 6) (lgC c t) (c 4) co dy i ∧ (rtF (c 6) (lgC c t) (c 4) co dy i = -1 ∨ c 4 (rtF (c 6) (lgC c t) (c 4) co dy i).toNat < c 4 i ∨ (c 4 i = c 4 (rtF (c 6) (lgC c t) (c 4) co dy i).toNat ∧ lgC c t i ≤ lgC c t (rtF (c 6) (lgC c t) (c 4) co dy i).toNat)) then (i : Int) else rtF (c 6) (lgC c t) (c 4) co dy i := rfl
      rw [hs] at ih
      clear hs
      generalize rtF (c 6) (lgC c t) (c 4) co dy i = b at hb ih ⊢
      have hbr : -1 ≤ b ∧ b < i := by
        rcases hb with ⟨e, -⟩ | ⟨j, e, -, h, -⟩ <;> omega
      have w5i := w5 i hi
      have e5i := e5 i (by omega)
      have hli := h.lag w (i := (c 5 i * 8 + t).toNat) (by omega)
      have no : ¬ (rtCd (c 6) (lgC c t) (c 4) co dy i ∧ (b = -1 ∨ c 4 b.toNat < c 4 i ∨ (c 4 i = c 4 b.toNat ∧ lgC c t i ≤ lgC c t b.toNat))) → aX12_rateOf T (d + 1) Q X 123 [some (mx_R 99), some (mx_I t), some (mx_I co), some (mx_I dy), some (mx_I b), some (mx_I (i : Int))] [] g (0, 0) := by
        intro z
        rw [if_neg z] at ih
        exact zX12_rateOf_123 ih
      have yes : (rtCd (c 6) (lgC c t) (c 4) co dy i ∧ (b = -1 ∨ c 4 b.toNat < c 4 i ∨ (c 4 i = c 4 b.toNat ∧ lgC c t i ≤ lgC c t b.toNat))) → aX12_rateOf T (d + 1) Q X 119 [some (mx_R 99), some (mx_I t), some (mx_I co), some (mx_I dy), some (mx_I b), some (mx_I (i : Int))] [] g (0, 0) := by
        intro z
        rw [if_pos z] at ih
        exact zX12_rateOf_119 (zX12_rateOf_123 ih)
      refine zX12_rateOf_6 ?_
      rw [e3]
      first | with_reducible refine c_lt ?_ ?_ (fun h1 => ?_) (fun h1 => ?_) | with_reducible refine c_le ?_ ?_ (fun h1 => ?_) (fun h1 => ?_) | with_reducible refine c_eq ?_ ?_ (fun h1 => ?_) (fun h1 => ?_) | with_reducible refine c_ne ?_ ?_ (fun h1 => ?_) (fun h1 => ?_)
      · omega
      · omega
      · omega
      · refine s_inN ?_ (fun ea => ?_)
        · omega
        try simp only [ea]
        clear ea
        rw [e5i.2.1]
        first | with_reducible refine c_lt ?_ ?_ (fun h2 => ?_) (fun h2 => ?_) | with_reducible refine c_le ?_ ?_ (fun h2 => ?_) (fun h2 => ?_) | with_reducible refine c_eq ?_ ?_ (fun h2 => ?_) (fun h2 => ?_) | with_reducible refine c_ne ?_ ?_ (fun h2 => ?_) (fun h2 => ?_)
        · omega
        · omega
        · exact no (fun z => h2 z.1.1)
        · refine s_inN ?_ (fun ea => ?_)
          · omega
          try simp only [ea]
          clear ea
          refine s_inN ?_ (fun ea => ?_)
          · omega
          try simp only [ea]
          clear ea
          rw [e5i.1, e5i.2.2.2]
          refine sX12_heardOn (by omega) ht ?_
          first | with_reducible refine c_lt ?_ ?_ (fun h3 => ?_) (fun h3 => ?_) | with_reducible refine c_le ?_ ?_ (fun h3 => ?_) (fun h3 => ?_) | with_reducible refine c_eq ?_ ?_ (fun h3 => ?_) (fun h3 => ?_) | with_reducible refine c_ne ?_ ?_ (fun h3 => ?_) (fun h3 => ?_)
          · omega
          · omega
          · have hcd : rtCd (c 6) (lgC c t) (c 4) co dy i := ⟨h2, by unfold lgC; omega, by unfold lgC; omega⟩
            first | with_reducible refine c_lt ?_ ?_ (fun h4 => ?_) (fun h4 => ?_) | with_reducible refine c_le ?_ ?_ (fun h4 => ?_) (fun h4 => ?_) | with_reducible refine c_eq ?_ ?_ (fun h4 => ?_) (fun h4 => ?_) | with_reducible refine c_ne ?_ ?_ (fun h4 => ?_) (fun h4 => ?_)
            · omega
            · omega
            · exact yes ⟨hcd, Or.inl h4⟩
            · have e5b := e5 b.toNat (by omega)
              have w5b := w5 b.toNat (by omega)
              have hlb := h.lag w (i := (c 5 b.toNat * 8 + t).toNat) (by omega)
              refine s_inN ?_ (fun ea => ?_)
              · omega
              try simp only [ea]
              clear ea
              refine s_in ?_ (fun ea => ?_)
              · omega
              try simp only [ea]
              clear ea
              rw [e5i.2.2.2, e5b.2.2.2]
              first | with_reducible refine c_lt ?_ ?_ (fun h5 => ?_) (fun h5 => ?_) | with_reducible refine c_le ?_ ?_ (fun h5 => ?_) (fun h5 => ?_) | with_reducible refine c_eq ?_ ?_ (fun h5 => ?_) (fun h5 => ?_) | with_reducible refine c_ne ?_ ?_ (fun h5 => ?_) (fun h5 => ?_)
              · omega
              · omega
              · exact yes ⟨hcd, Or.inr (Or.inl h5)⟩
              · refine s_inN ?_ (fun ea => ?_)
                · omega
                try simp only [ea]
                clear ea
                refine s_in ?_ (fun ea => ?_)
                · omega
                try simp only [ea]
                clear ea
                first | with_reducible refine c_lt ?_ ?_ (fun h6 => ?_) (fun h6 => ?_) | with_reducible refine c_le ?_ ?_ (fun h6 => ?_) (fun h6 => ?_) | with_reducible refine c_eq ?_ ?_ (fun h6 => ?_) (fun h6 => ?_) | with_reducible refine c_ne ?_ ?_ (fun h6 => ?_) (fun h6 => ?_)
                · omega
                · omega
                · exact no (fun z => by rcases z.2 with z | z | z <;> omega)
                · refine s_inN ?_ (fun ea => ?_)
                  · omega
                  try simp only [ea]
                  clear ea
                  rw [e5i.1]
                  refine sX12_lagOf w h (by omega) ht ?_
                  refine s_in ?_ (fun ea => ?_)
                  · omega
                  try simp only [ea]
                  clear ea
                  rw [e5b.1]
                  refine sX12_lagOf w h (by omega) ht ?_
                  first | with_reducible refine c_lt ?_ ?_ (fun h7 => ?_) (fun h7 => ?_) | with_reducible refine c_le ?_ ?_ (fun h7 => ?_) (fun h7 => ?_) | with_reducible refine c_eq ?_ ?_ (fun h7 => ?_) (fun h7 => ?_) | with_reducible refine c_ne ?_ ?_ (fun h7 => ?_) (fun h7 => ?_)
                  · omega
                  · omega
                  · exact no (fun z => by have z2 := z.2; unfold lgC at z2; omega)
                  · exact yes ⟨hcd, Or.inr (Or.inr ⟨by omega, by unfold lgC; omega⟩)⟩
          · exact no (fun z => by have := z.1.2; unfold lgC at this; omega)
  exact zX12_rateOf (hh 0 (by omega))
theorem sX12_worth {T : Nat × (Nat → Int32)} {d : Nat} {Q : mz_K} {X : mz_X} {g : mz_S} {c : mz_S} {n co t : Int} (w : WfL0 c) (h : ReL c g) (hn : -9000000000000000 ≤ n ∧ n ≤ 9000000000000000) (hc : 0 ≤ co ∧ co < 4) (ht : 0 ≤ t ∧ t < 8) (k : Q (worthC c n co t) g) : zC T (d + 3) 224 [mx_R 99, mx_J n, mx_I co, mx_I t, mx_I (c 1 0)] g Q X := by
  have hr := rateC_rng w t co (c 1 0)
  refine zX12_worth (sX12_rateOf w h ht hc w.1 ?_)
  rw [w32_of (by omega) (by omega)]
  have hb := mul_bnd (B := 9000000000000000) (by omega) hn (r := rateC c t co (c 1 0)) (by omega)
  exact sJ9_floorDiv (by omega) k
