/-! the reference asks -/
def LRx (g : mz_S) (cn : Nat → pA) (M : Nat) : Prop := ∀ p, p < M → ∃ t k a : Nat, t < 6 ∧ k < 24 ∧ g 130 p = ((24 * t + k : Nat) : Int) ∧ LnR g t (24 * t + k) (cn p) a ∧ a + lenR (sumR (cn p)) + lenR (cn p).2.2.2.2 ≤ 700
theorem lenR_none {l : List (Int × Int)} (h : lenR l = 0) : l = [] := by
  have := offR_mono (l := l) (i := 0) (j := l.length) (Nat.zero_le _) (Nat.le_refl _)
  refine List.eq_nil_of_length_eq_zero ?_
  unfold lenR at h
  omega
theorem div24 {t k : Nat} (ht : t < 6) (hk : k < 24) : mx_idiv ((24 * t + k : Nat) : Int) 24 = (t : Int) := by
  have : ∀ t, t < 6 → ∀ k, k < 24 → mx_idiv ((24 * t + k : Nat) : Int) 24 = (t : Int) := by decide +kernel
  exact this t ht k hk
theorem cv_78 {s : Nat} {v : Int} (hs : s = 7 ∨ s = 8) (hv : v = 0 ∨ v = 1) : cv s v = v := by
  rcases hs with z | z <;> rcases hv with y | y <;> subst z <;> subst y <;> decide
theorem LnR.sm {g g' : mz_S} {S : List Nat} {F : List Nat} {tt l a : Nat} {al : pA} (h : LnR g tt l al a) (c : Ch S F g g') (hS : ∀ q ∈ [123, 124, 125, 126, 127, 128, 129], q ∉ S) : LnR g' tt l al a := h.same (fun q hq => c.1 q (hS q hq) (by intro z; subst z; revert hq; decide))
theorem asks_R {T : Nat × (Nat → Int32)} {d : Nat} {Q : mz_K} {X : mz_X} {g : mz_S} {cn : Nat → pA} {M : Nat} {x1 x2 x3 x5 : Int} (hw : LnP cn M) (hl : LR g cn M) (hx : LRx g cn M) (h0 : ∀ s, s < 9 → g 133 s = mx_uns.getD s 0) (k : ∀ g', Ch [132, 133] [54] g g' → (∀ s, s < 9 → g' 133 s = askP (g 131) cn M s M) → Q 0 g') : aX12_asks T (d + 4) Q X 207 [some (mx_R 99), some (mx_I x1), some (mx_I x2), some (mx_J x3), none, some (mx_I x5), some (mx_I 0), none, none, none, none, none] [] g (0, 0) := by
  have hM := hw.1
  have main : ∀ n p : Nat, p + n = M → ∀ G, Ch [132, 133] [54] g G → (∀ s, s < 9 → G 133 s = askP (g 131) cn M s p) → ∀ o7 o8 o9 o10, aX12_asks T (d + 4) Q X 207 [some (mx_R 99), some (mx_I x1), some (mx_I x2), some (mx_J x3), none, some (mx_I x5), some (mx_I (p : Int)), o7, o8, o9, o10, none] [] G (0, 0) := by
    intro n
    induction n with
    | zero =>
      intro p hp G hG hv o7 o8 o9 o10
      refine zX12_asks_207 ?_
      rw [hG.2 50 (by decide), hl.1]
      first | with_reducible refine c_lt ?_ ?_ (fun z => ?_) (fun z => ?_) | with_reducible refine c_le ?_ ?_ (fun z => ?_) (fun z => ?_) | with_reducible refine c_eq ?_ ?_ (fun z => ?_) (fun z => ?_) | with_reducible refine c_ne ?_ ?_ (fun z => ?_) (fun z => ?_)
      · omega
      · omega
      · exact k G hG (fun s hs => by rw [hv s hs, show p = M by omega])
      · omega
    | succ n ih =>
      intro p hp G hG hv o7 o8 o9 o10
      have hpM : p < M := by omega
      have awf := hw.2 p hpM
      obtain ⟨t, kk, a, ht, hkk, e130, ln, la⟩ := hx p hpM
      have sr : 0 ≤ (cn p).2.1 ∧ (cn p).2.1 ≤ 9 := awf.1
      have aS : ∀ s, askP (g 131) cn M s (p + 1) = if (cn p).2.1 = (s : Int) ∧ ¬ vd cn M p ∧ spk (g 131) (cn p) then cv s (spv (g 131) (cn p)) else askP (g 131) cn M s p := fun s => rfl
      have lG : ∀ G', Ch [132, 133] [54] g G' → LR G' cn M := fun G' c => by
        refine ⟨by rw [c.2 50 (by decide)]; exact hl.1, fun p hp => ?_⟩
        rw [c.1 130 (by decide) (by decide), c.1 124 (by decide) (by decide), c.1 125 (by decide) (by decide), c.1 126 (by decide) (by decide)]
        exact hl.2 p hp
      have no : ∀ G' (x7 x8 : Int) p9 p10, Ch [132, 133] [54] g G' → (∀ s, s < 9 → G' 133 s = askP (g 131) cn M s p) → ((cn p).2.1 ≤ 8 → ¬ (¬ vd cn M p ∧ spk (g 131) (cn p))) → aX12_asks T (d + 4) Q X 415 [some (mx_R 99), some (mx_I x1), some (mx_I x2), some (mx_J x3), none, some (mx_I x5), some (mx_I (p : Int)), some (mx_I x7), some (mx_I x8), p9, p10, none] [] G' (0, 0) := by
        intro G' x7 x8 p9 p10 c hv' hn
        refine zX12_asks_415 ?_
        rw [show (p : Int) + 1 = ((p + 1 : Nat) : Int) by omega]
        refine ih (p + 1) (by omega) G' c (fun s hs => ?_) _ _ _ _
        rw [hv' s hs, aS, if_neg (fun y => hn (by omega) y.2)]
      refine zX12_asks_207 ?_
      have q50 : G 99 50 = (M : Int) := (lG G hG).1
      have q130 : G 130 p = ((24 * t + kk : Nat) : Int) := by rw [hG.1 130 (by decide) (by decide)]; exact e130
      rw [q50]
      first | with_reducible refine c_lt ?_ ?_ (fun z => ?_) (fun z => ?_) | with_reducible refine c_le ?_ ?_ (fun z => ?_) (fun z => ?_) | with_reducible refine c_eq ?_ ?_ (fun z => ?_) (fun z => ?_) | with_reducible refine c_ne ?_ ?_ (fun z => ?_) (fun z => ?_)
      · omega
      · omega
      · omega
      · refine s_inN ?_ (fun ea => ?_)
        · omega
        try simp only [ea]
        clear ea
        rw [q130]
        refine s_inN ?_ (fun ea => ?_)
        · omega
        try simp only [ea]
        clear ea
        have q124 : G 124 (24 * t + kk) = (cn p).2.1 := by rw [hG.1 124 (by decide) (by decide)]; exact ln.2.2.2.2.1
        rw [q124]
        first | with_reducible refine c_lt ?_ ?_ (fun z1 => ?_) (fun z1 => ?_) | with_reducible refine c_le ?_ ?_ (fun z1 => ?_) (fun z1 => ?_) | with_reducible refine c_eq ?_ ?_ (fun z1 => ?_) (fun z1 => ?_) | with_reducible refine c_ne ?_ ?_ (fun z1 => ?_) (fun z1 => ?_)
        · omega
        · omega
        · exact no G _ _ _ _ hG hv (fun y => by omega)
        · refine sX12_isVoid (d := d + 3) hw (lG G hG) hpM ?_
          obtain ⟨s, es⟩ := Int.eq_ofNat_of_zero_le sr.1
          have hs8 : s ≤ 8 := by omega
          rw [es]
          first | with_reducible refine b_eq (fun z2 => ?_) (fun z2 => ?_) | with_reducible refine b_ne (fun z2 => ?_) (fun z2 => ?_)
          · refine ⟨by decide, ?_⟩
            intro g2 e2
            have c2 : Ch [132, 133] [54] g g2 := by rw [e2]; exact hG.up9 (by decide)
            have v2 : ∀ s, s < 9 → g2 133 s = askP (g 131) cn M s p := fun s hs => by rw [e2, up_q (by decide)]; exact hv s hs
            have b54 : g2 99 54 = 0 := by rw [e2, up_s]
            have q131 : ∀ G', Ch [132, 133] [54] g G' → G' 131 = g 131 := fun G' c => c.1 131 (by decide) (by decide)
            have lnG : ∀ G', Ch [132, 133] [54] g G' → LnR G' t (24 * t + kk) (cn p) a := fun G' c => ln.sm c (by decide)
            have put : ∀ G' (x7 x9 x10 v : Int), Ch [132, 133] [54] g G' → (∀ s, s < 9 → G' 133 s = askP (g 131) cn M s p) → spk (g 131) (cn p) → v = cv s (spv (g 131) (cn p)) → aX12_asks T (d + 4) Q X 414 [some (mx_R 99), some (mx_I x1), some (mx_I x2), some (mx_J x3), none, some (mx_I x5), some (mx_I (p : Int)), some (mx_I x7), some (mx_I (s : Int)), some (mx_I x9), some (mx_J x10), none] [mx_J v, mx_I (s : Int), mx_R 133] G' (0, 0) := by
              intro G' x7 x9 x10 v c hv' hsp hvv
              refine zX12_asks_414 ?_
              refine s_inN ?_ (fun ea => ?_)
              · omega
              try simp only [ea]
              clear ea
              intro g3 e3
              refine zX12_asks_415 ?_
              rw [show (p : Int) + 1 = ((p + 1 : Nat) : Int) by omega]
              refine ih (p + 1) (by omega) g3 (by rw [e3]; exact c.up (by decide) (by decide)) (fun s' hs' => ?_) _ _ _ _
              rw [aS]
              by_cases y : s' = s
              · subst y
                rw [if_pos ⟨es, z2, hsp⟩, e3, up_s, hvv]
              · rw [if_neg (fun w => y (by omega)), e3, up_i y]
                exact hv' s' hs'
            have sum : ∀ G' (p9 p10 : Option mx_v), Ch [132, 133] [54] g G' → G' 99 54 = 0 → (∀ s, s < 9 → G' 133 s = askP (g 131) cn M s p) → ((cn p).2.2.2.2 = [] ∨ ((vgo (g 131) (cn p).2.2.2.2).1 = false ∧ w64 ((vgo (g 131) (cn p).2.2.2.2).2 0) = 0)) → aX12_asks T (d + 4) Q X 308 [some (mx_R 99), some (mx_I x1), some (mx_I x2), some (mx_J x3), none, some (mx_I x5), some (mx_I (p : Int)), some (mx_I ((24 * t + kk : Nat) : Int)), some (mx_I (s : Int)), p9, p10, none] [mx_I 0] G' (0, 0) := by
              intro G' p9 p10 c h54 hv' htest
              refine zX12_asks_308 ⟨fun y => absurd rfl y, fun _ => ?_⟩
              rw [h54]
              refine ⟨fun _ => ?_, fun y => absurd rfl y⟩
              have l' := lnG G' c
              first | with_reducible refine c_lt ?_ ?_ (fun y7 => ?_) (fun y7 => ?_) | with_reducible refine c_le ?_ ?_ (fun y7 => ?_) (fun y7 => ?_) | with_reducible refine c_eq ?_ ?_ (fun y7 => ?_) (fun y7 => ?_) | with_reducible refine c_ne ?_ ?_ (fun y7 => ?_) (fun y7 => ?_)
              · omega
              · omega
              · have go : ∀ v : Int, v = cv s (spv (g 131) (cn p)) → spk (g 131) (cn p) → aX12_asks T (d + 4) Q X 377 [some (mx_R 99), some (mx_I x1), some (mx_I x2), some (mx_J x3), none, some (mx_I x5), some (mx_I (p : Int)), some (mx_I ((24 * t + kk : Nat) : Int)), some (mx_I (s : Int)), some (mx_I 0), p10, none] [mx_J v] G' (0, 0) := by
                  intro v hvv hsp
                  refine zX12_asks_377 ?_
                  rw [h54]
                  refine ⟨fun _ => ?_, fun y => absurd rfl y⟩
                  first | with_reducible refine c_lt ?_ ?_ (fun w7 => ?_) (fun w7 => ?_) | with_reducible refine c_le ?_ ?_ (fun w7 => ?_) (fun w7 => ?_) | with_reducible refine c_eq ?_ ?_ (fun w7 => ?_) (fun w7 => ?_) | with_reducible refine c_ne ?_ ?_ (fun w7 => ?_) (fun w7 => ?_)
                  · omega
                  · omega
                  · exact put G' _ _ _ v c hv' hsp hvv
                  · omega
                first | with_reducible refine c_lt ?_ ?_ (fun y8 => ?_) (fun y8 => ?_) | with_reducible refine c_le ?_ ?_ (fun y8 => ?_) (fun y8 => ?_) | with_reducible refine c_eq ?_ ?_ (fun y8 => ?_) (fun y8 => ?_) | with_reducible refine c_ne ?_ ?_ (fun y8 => ?_) (fun y8 => ?_)
                · omega
                · omega
                · have s8 : (cn p).2.2.2.1 = [(154, 1)] := awf.2.2.2.2.2.1 (by omega)
                  refine go 1 ?_ ⟨htest, by rw [s8, vgo_one]⟩
                  unfold spv
                  rw [s8, vgo_one, show s = 8 by omega]
                  decide
                · refine s_inN ?_ (fun ea => ?_)
                  · omega
                  try simp only [ea]
                  clear ea
                  have s7 := l'.2.2.2.2.2.2.1 (by omega)
                  have s7' := awf.2.2.2.2.1 (by omega)
                  have v01 : G' 126 (24 * t + kk) = 0 ∨ G' 126 (24 * t + kk) = 1 := by
                    rcases s7' with w | w <;> rw [s7] at w <;> simp at w <;> omega
                  refine go _ ?_ ⟨htest, by rw [s7, vgo_one]⟩
                  unfold spv
                  rw [s7, vgo_one]
                  show _ = cv s (lset (fun _ => 0) 0 (G' 126 (24 * t + kk)) 0)
                  rw [lset_s, cv_78 (by omega) v01, w32_of (by omega) (by omega)]
              · have hsm : sumR (cn p) = (cn p).2.2.2.1 := by unfold sumR; rw [if_pos (by omega)]
                refine ⟨by decide, ?_⟩
                refine s_inN ?_ (fun ea => ?_)
                · omega
                try simp only [ea]
                clear ea
                refine s_inN ?_ (fun ea => ?_)
                · omega
                try simp only [ea]
                clear ea
                rw [div24 ht hkk, l'.1, l'.2.1, hsm]
                rw [hsm] at la
                refine sX12_worked (d := d + 1) (awf.2.2.2.1 (by omega)) ht (by omega) (by have := l'.2.2.2.2.2.2.2.1; rw [hsm] at this; exact this) h54 (fun r g4 h4 => ?_)
                rw [q131 G' c] at h4
                have c4 : Ch [132, 133] [54] g g4 := c.tr (h4.1.sub (by decide) (by decide))
                have v4 : ∀ s, s < 9 → g4 133 s = askP (g 131) cn M s p := fun s hs => by rw [h4.1.1 133 (by decide) (by decide)]; exact hv' s hs
                refine zX12_asks_377 ?_
                cases hb : (vgo (g 131) (cn p).2.2.2.1).1 with
                | true =>
                  rw [h4.2.1 hb]
                  exact ⟨fun y => absurd y (by decide), fun _ => no g4 _ _ _ _ c4 v4 (fun _ y => by rw [y.2.2] at hb; exact absurd hb (by decide))⟩
                | false =>
                  have v := h4.2.2 hb
                  rw [v.1]
                  refine ⟨fun _ => ?_, fun y => absurd rfl y⟩
                  first | with_reducible refine c_lt ?_ ?_ (fun w7 => ?_) (fun w7 => ?_) | with_reducible refine c_le ?_ ?_ (fun w7 => ?_) (fun w7 => ?_) | with_reducible refine c_eq ?_ ?_ (fun w7 => ?_) (fun w7 => ?_) | with_reducible refine c_ne ?_ ?_ (fun w7 => ?_) (fun w7 => ?_)
                  · omega
                  · omega
                  · omega
                  · refine sX12_cut (d := d + 2) (by omega) ?_
                    refine put g4 _ _ _ _ c4 v4 ⟨htest, hb⟩ ?_
                    rw [v.2]; rfl
            have l2 := lnG g2 c2
            refine s_inN ?_ (fun ea => ?_)
            · omega
            try simp only [ea]
            clear ea
            refine s_inN ?_ (fun ea => ?_)
            · omega
            try simp only [ea]
            clear ea
            rw [l2.2.2.1, l2.2.1]
            first | with_reducible refine c_lt ?_ ?_ (fun z3 => ?_) (fun z3 => ?_) | with_reducible refine c_le ?_ ?_ (fun z3 => ?_) (fun z3 => ?_) | with_reducible refine c_eq ?_ ?_ (fun z3 => ?_) (fun z3 => ?_) | with_reducible refine c_ne ?_ ?_ (fun z3 => ?_) (fun z3 => ?_)
            · omega
            · omega
            · refine zX12_asks_307 (sum g2 _ _ c2 b54 v2 (Or.inl (lenR_none (by omega))))
            · have ne : ¬ (cn p).2.2.2.2 = [] := fun y => by rw [y] at z3; exact z3 (Int.le_refl _)
              have ty := awf.2.2.2.2.2.2.resolve_left ne
              refine ⟨by decide, ?_⟩
              refine s_inN ?_ (fun ea => ?_)
              · omega
              try simp only [ea]
              clear ea
              refine s_inN ?_ (fun ea => ?_)
              · omega
              try simp only [ea]
              clear ea
              rw [div24 ht hkk]
              refine sX12_worked (d := d + 1) ty ht (by omega) l2.2.2.2.2.2.2.2.2 b54 (fun r g3 h3 => ?_)
              rw [q131 g2 c2] at h3
              have c3 : Ch [132, 133] [54] g g3 := c2.tr (h3.1.sub (by decide) (by decide))
              have v3 : ∀ s, s < 9 → g3 133 s = askP (g 131) cn M s p := fun s hs => by rw [h3.1.1 133 (by decide) (by decide)]; exact v2 s hs
              rw [lcm_z, w64_00]
              cases hb : (vgo (g 131) (cn p).2.2.2.2).1 with
              | true =>
                have nn : (cn p).2.1 ≤ 8 → ¬ (¬ vd cn M p ∧ spk (g 131) (cn p)) := fun _ y => y.2.1.elim ne (fun w => by rw [w.1] at hb; exact absurd hb (by decide))
                refine ⟨fun _ => zX12_asks_307 (zX12_asks_308 ⟨fun y => absurd rfl y, fun _ => ?_⟩), fun _ => zX12_asks_308 ⟨fun _ => no g3 _ _ _ _ c3 v3 nn, fun y => absurd (by decide) y⟩⟩
                rw [h3.2.1 hb]
                exact ⟨fun y => absurd y (by decide), fun _ => no g3 _ _ _ _ c3 v3 nn⟩
              | false =>
                have v := h3.2.2 hb
                rw [v.2]
                refine ⟨fun y => zX12_asks_307 (sum g3 _ _ c3 v.1 v3 (Or.inr ⟨hb, y⟩)), fun y => zX12_asks_308 ⟨fun _ => no g3 _ _ _ _ c3 v3 (fun _ w => w.2.1.elim ne (fun u => y u.2)), fun y => absurd (by decide) y⟩⟩
          · exact no G _ _ _ _ hG hv (fun _ y => y.1 z2)
  exact main M 0 (by omega) g (Ch.rf g) h0 _ _ _ _
