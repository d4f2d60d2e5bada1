/-! a split: the reference -/
theorem zt1 {b : Bool} {A B : Prop} (h0 : b = false → A) (h1 : b = true → B) : (¬ w32 (bI b) = w32 1 → A) ∧ (¬ (¬ w32 (bI b) = w32 1) → B) := by
  cases b with
  | false => exact ⟨fun _ => h0 rfl, fun z => absurd (by decide) z⟩
  | true => exact ⟨fun z => absurd rfl z, fun _ => h1 rfl⟩
theorem zt0 {b : Bool} {A B : Prop} (h1 : b = true → A) (h0 : b = false → B) : (¬ w32 (bI b) = w32 0 → A) ∧ (¬ (¬ w32 (bI b) = w32 0) → B) := by
  cases b with
  | true => exact ⟨fun _ => h1 rfl, fun z => absurd (by decide) z⟩
  | false => exact ⟨fun z => absurd rfl z, fun _ => h0 rfl⟩
theorem zt2 {b : Bool} {A B : Prop} (h0 : b = false → A) (h1 : b = true → B) : (w32 (bI b) = w32 0 → A) ∧ (¬ (w32 (bI b) = w32 0) → B) := by
  cases b with
  | false => exact ⟨fun _ => h0 rfl, fun z => absurd rfl z⟩
  | true => exact ⟨fun z => absurd z (by decide), fun _ => h1 rfl⟩
theorem sX12_split_i2 {T : Nat × (Nat → Int32)} {d : Nat} {Q : mz_K} {X : mz_X} {g : mz_S} {m : Nat} {st sum : Int} (em : g 99 10 = (m : Int)) (hm : m ≤ 12) (hs : 0 ≤ sum ∧ sum ≤ 400000000) (hw : ∀ x, x < m → zb st x = true → 0 ≤ g 168 x ∧ g 168 x ≤ 20000000000) (k : ∀ g', Ch [169, 173] [] g g' → (∀ x, (x < m ∧ zb st x = true → g' 169 x = if 0 < sG (g 168) (zb st) m then spF sum (g 168) (zb st) m x else 0) ∧ (¬ (x < m ∧ zb st x = true) → g' 169 x = g 169 x)) → Q 0 g') : zC T (d + 1) 309 [mx_R 99, mx_J sum, mx_R 168, mx_I st, mx_R 169] g Q X := by
  have ball := sG_bnd (f := g 168) (G := zb st) (m := m) (B := 20000000000) (by omega) hw
  refine zX12_split_i2 ?_
  obtain ⟨all, hall⟩ : ∃ all, all = sG (g 168) (zb st) m := ⟨_, rfl⟩
  rw [← hall] at ball k
  have ra : R64 all := by omega
  have last : 0 < all → ∀ n : Nat, ∀ (pp rr : Nat → Int) G x10 o11, Ch [169, 173] [] g G → spV m (zb st) all n rr → (∀ x, x < m → zb st x = true → G 173 x = rr x) → (∀ x, (x < m ∧ zb st x = true → G 169 x = pp x) ∧ (¬ (x < m ∧ zb st x = true) → G 169 x = g 169 x)) → (∀ x, x < m → (spI m n (pp, rr)).1 x = spF sum (g 168) (zb st) m x) → n ≤ 400000000 → aX12_split_i2 T d Q X 141 [some (mx_R 99), some (mx_J sum), none, some (mx_R 168), some (mx_I st), some (mx_R 169), some (mx_J all), none, some (mx_J (n : Int)), none, some (mx_I x10), o11] [] G (0, 0) := by
    intro ha n
    induction n with
    | zero =>
      intro pp rr G x10 o11 cG hV hr hp hf hn
      refine zX12_split_i2_141 ?_
      first | with_reducible refine l_gt ?_ ?_ (fun z => ?_) (fun z => ?_) | with_reducible refine l_lt ?_ ?_ (fun z => ?_) (fun z => ?_) | with_reducible refine l_ge ?_ ?_ (fun z => ?_) (fun z => ?_) | with_reducible refine l_le ?_ ?_ (fun z => ?_) (fun z => ?_) | with_reducible refine l_eq ?_ ?_ (fun z => ?_) (fun z => ?_) | with_reducible refine l_ne ?_ ?_ (fun z => ?_) (fun z => ?_)
      · omega
      · omega
      · exact zX12_split_i2_243 (k G cG (fun x => ⟨fun hx => by rw [if_pos ha]; exact ((hp x).1 hx).trans (hf x hx.1), (hp x).2⟩))
      · omega
    | succ n ih =>
      intro pp rr G x10 o11 cG hV hr hp hf hn
      obtain ⟨q1, q2, q3⟩ := spV_pos ha hV
      have emG : G 99 10 = (m : Int) := by rw [cG.2 10 (by decide), em]
      have rng : ∀ x, x < m → zb st x = true → R64 (G 173 x) := fun x hx hz => by rw [hr x hx hz]; have := hV.2.1 x hx; omega
      have scan : ∀ c t : Nat, t + c = m → ∀ x10, (x10 = -1 ∧ (∀ x, x < t → zb st x = false) ∨ ∃ b : Nat, x10 = (b : Int) ∧ b < t ∧ zb st b = true ∧ ∀ x, x < t → zb st x = true → rr x ≤ rr b ∧ (x < b → rr x < rr b)) → aX12_split_i2 T d Q X 161 [some (mx_R 99), some (mx_J sum), none, some (mx_R 168), some (mx_I st), some (mx_R 169), some (mx_J all), none, some (mx_J ((n + 1 : Nat) : Int)), none, some (mx_I x10), some (mx_I (t : Int))] [] G (0, 0) := by
        intro c
        induction c with
        | zero =>
          intro t ht x10 hx
          refine zX12_split_i2_161 ?_
          rw [emG]
          have : t = m := by omega
          subst this
          first | with_reducible refine c_lt ?_ ?_ (fun z => ?_) (fun z => ?_) | with_reducible refine c_le ?_ ?_ (fun z => ?_) (fun z => ?_) | with_reducible refine c_eq ?_ ?_ (fun z => ?_) (fun z => ?_) | with_reducible refine c_ne ?_ ?_ (fun z => ?_) (fun z => ?_)
          · omega
          · omega
          · have eb : x10 = ((bo rr t : Nat) : Int) := by
              rcases hx with ⟨_, h2⟩ | ⟨b, h1, h2, h3, h4⟩
              · rw [h2 _ q3] at q2; exact absurd q2 (by decide)
              · rw [h1, bo_uniq h2 (fun x hx => ?_)]
                by_cases hz : zb st x = true
                · exact h4 x hx hz
                · have e1 := hV.2.2 x hx (by simpa using hz)
                  have e2 := (h4 (bo rr t) q3 q2).1
                  exact ⟨by omega, fun _ => by omega⟩
            rw [eb]
            refine s_inN ?_ (fun ea => ?_)
            · omega
            try simp only [ea]
            clear ea
            refine s_inN ?_ (fun ea => ?_)
            · omega
            try simp only [ea]
            clear ea
            intro G2 e2
            refine s_inN ?_ (fun ea => ?_)
            · omega
            try simp only [ea]
            clear ea
            intro G3 e3
            rw [show ((n + 1 : Nat) : Int) - 1 = ((n : Nat) : Int) by omega]
            refine ih (fun x => if x = bo rr t then pp x + 1 else pp x) (fun x => if x = bo rr t then -1 else rr x) G3 _ _ ?_ (spV_step ha hV) (fun x hx hz => ?_) (fun x => ?_) hf (by omega)
            · rw [e3, e2]; exact (cG.up (by decide) (by decide)).up (by decide) (by decide)
            · show G3 173 x = (if x = bo rr t then -1 else rr x)
              rw [e3]
              by_cases e : x = bo rr t
              · rw [if_pos e, e, up_s]
              · rw [if_neg e, up_i e, e2, up_q (by decide)]
                exact hr x hx hz
            · have e5 : G3 169 x = G2 169 x := by rw [e3, up_q (by decide)]
              rw [e5, e2]
              refine ⟨fun hx => ?_, fun hx => ?_⟩
              · show _ = (if x = bo rr t then pp x + 1 else pp x)
                by_cases e : x = bo rr t
                · rw [if_pos e, ← e, up_s, (hp x).1 hx]
                · rw [if_neg e, up_i e, (hp x).1 hx]
              · rw [up_i (fun e => hx (by rw [e]; exact ⟨q3, q2⟩)), (hp x).2 hx]
          · omega
        | succ c ihc =>
          intro t ht x10 hx
          refine zX12_split_i2_161 ?_
          rw [emG]
          first | with_reducible refine c_lt ?_ ?_ (fun z => ?_) (fun z => ?_) | with_reducible refine c_le ?_ ?_ (fun z => ?_) (fun z => ?_) | with_reducible refine c_eq ?_ ?_ (fun z => ?_) (fun z => ?_) | with_reducible refine c_ne ?_ ?_ (fun z => ?_) (fun z => ?_)
          · omega
          · omega
          · omega
          · rw [zb_holds (by omega)]
            refine zt1 (fun h0 => ?_) (fun h1 => ?_)
            · refine zX12_split_i2_209 ?_
              rw [show (t : Int) + 1 = ((t + 1 : Nat) : Int) by omega]
              refine ihc (t + 1) (by omega) x10 ?_
              rcases hx with ⟨h2, h3⟩ | ⟨b, h2, h3, h4, h5⟩
              · refine Or.inl ⟨h2, fun x hx => ?_⟩
                by_cases e : x = t
                · rw [e]; exact h0
                · exact h3 x (by omega)
              · refine Or.inr ⟨b, h2, by omega, h4, fun x hx hz => ?_⟩
                by_cases e : x = t
                · rw [e, h0] at hz; exact absurd hz (by decide)
                · exact h5 x (by omega) hz
            · rcases hx with ⟨rfl, h3⟩ | ⟨b, rfl, h3, h4, h5⟩
              · refine ⟨fun _ => ?_, fun q => absurd rfl q⟩
                refine zX12_split_i2_205 (zX12_split_i2_209 ?_)
                rw [show (t : Int) + 1 = ((t + 1 : Nat) : Int) by omega]
                refine ihc (t + 1) (by omega) _ (Or.inr ⟨t, rfl, by omega, h1, fun x hx hz => ?_⟩)
                by_cases e : x = t
                · rw [e]; exact ⟨Int.le_refl _, fun q => absurd q (Nat.lt_irrefl t)⟩
                · rw [h3 x (by omega)] at hz; exact absurd hz (by decide)
              · have r1 := rng t (by omega) h1
                have r2 := rng b (by omega) h4
                have g1 := hr t (by omega) h1
                have g2 := hr b (by omega) h4
                first | with_reducible refine c_lt ?_ ?_ (fun y => ?_) (fun y => ?_) | with_reducible refine c_le ?_ ?_ (fun y => ?_) (fun y => ?_) | with_reducible refine c_eq ?_ ?_ (fun y => ?_) (fun y => ?_) | with_reducible refine c_ne ?_ ?_ (fun y => ?_) (fun y => ?_)
                · omega
                · omega
                · omega
                · refine s_inN ?_ (fun ea => ?_)
                  · omega
                  try simp only [ea]
                  clear ea
                  refine s_inN ?_ (fun ea => ?_)
                  · omega
                  try simp only [ea]
                  clear ea
                  first | with_reducible refine l_gt ?_ ?_ (fun w => ?_) (fun w => ?_) | with_reducible refine l_lt ?_ ?_ (fun w => ?_) (fun w => ?_) | with_reducible refine l_ge ?_ ?_ (fun w => ?_) (fun w => ?_) | with_reducible refine l_le ?_ ?_ (fun w => ?_) (fun w => ?_) | with_reducible refine l_eq ?_ ?_ (fun w => ?_) (fun w => ?_) | with_reducible refine l_ne ?_ ?_ (fun w => ?_) (fun w => ?_)
                  · omega
                  · omega
                  · refine zX12_split_i2_209 ?_
                    rw [show (t : Int) + 1 = ((t + 1 : Nat) : Int) by omega]
                    refine ihc (t + 1) (by omega) _ (Or.inr ⟨b, rfl, by omega, h4, fun x hx hz => ?_⟩)
                    by_cases e : x = t
                    · rw [e]; exact ⟨by omega, fun q => by omega⟩
                    · exact h5 x (by omega) hz
                  · refine zX12_split_i2_205 (zX12_split_i2_209 ?_)
                    rw [show (t : Int) + 1 = ((t + 1 : Nat) : Int) by omega]
                    refine ihc (t + 1) (by omega) _ (Or.inr ⟨t, rfl, by omega, h1, fun x hx hz => ?_⟩)
                    by_cases e : x = t
                    · rw [e]; exact ⟨Int.le_refl _, fun q => absurd q (Nat.lt_irrefl t)⟩
                    · have := h5 x (by omega) hz; exact ⟨by omega, fun _ => by omega⟩
      refine zX12_split_i2_141 ?_
      first | with_reducible refine l_gt ?_ ?_ (fun z => ?_) (fun z => ?_) | with_reducible refine l_lt ?_ ?_ (fun z => ?_) (fun z => ?_) | with_reducible refine l_ge ?_ ?_ (fun z => ?_) (fun z => ?_) | with_reducible refine l_le ?_ ?_ (fun z => ?_) (fun z => ?_) | with_reducible refine l_eq ?_ ?_ (fun z => ?_) (fun z => ?_) | with_reducible refine l_ne ?_ ?_ (fun z => ?_) (fun z => ?_)
      · omega
      · omega
      · omega
      · first | with_reducible refine l_gt ?_ ?_ (fun z2 => ?_) (fun z2 => ?_) | with_reducible refine l_lt ?_ ?_ (fun z2 => ?_) (fun z2 => ?_) | with_reducible refine l_ge ?_ ?_ (fun z2 => ?_) (fun z2 => ?_) | with_reducible refine l_le ?_ ?_ (fun z2 => ?_) (fun z2 => ?_) | with_reducible refine l_eq ?_ ?_ (fun z2 => ?_) (fun z2 => ?_) | with_reducible refine l_ne ?_ ?_ (fun z2 => ?_) (fun z2 => ?_)
        · omega
        · omega
        · omega
        · exact scan m 0 (by omega) (-1) (Or.inl ⟨rfl, fun x hx => absurd hx (Nat.not_lt_zero x)⟩)
  -- the parts
  have parts : ∀ n t : Nat, t + n = m → ∀ G left, Ch [169, 173] [] g G → (0 < all → (∀ x, x < t → zb st x = true → G 173 x = spR sum (g 168) (zb st) m x) ∧ (∀ x, (x < t ∧ zb st x = true → G 169 x = spP sum (g 168) (zb st) m x) ∧ (¬ (x < t ∧ zb st x = true) → G 169 x = g 169 x)) ∧ left = sum - sumN (spP sum (g 168) (zb st) m) t) → (all = 0 → (∀ x, (x < t ∧ zb st x = true → G 169 x = 0) ∧ (¬ (x < t ∧ zb st x = true) → G 169 x = g 169 x)) ∧ left = sum) → aX12_split_i2 T d Q X 51 [some (mx_R 99), some (mx_J sum), none, some (mx_R 168), some (mx_I st), some (mx_R 169), some (mx_J all), none, some (mx_J left), none, some (mx_I (t : Int)), none] [] G (0, 0) := by
    intro n
    induction n with
    | zero =>
      intro t ht G left cG h1 h0
      refine zX12_split_i2_51 ?_
      rw [cG.2 10 (by decide), em]
      have : t = m := by omega
      subst this
      first | with_reducible refine c_lt ?_ ?_ (fun z => ?_) (fun z => ?_) | with_reducible refine c_le ?_ ?_ (fun z => ?_) (fun z => ?_) | with_reducible refine c_eq ?_ ?_ (fun z => ?_) (fun z => ?_) | with_reducible refine c_ne ?_ ?_ (fun z => ?_) (fun z => ?_)
      · omega
      · omega
      · by_cases ha : 0 < all
        · have v0 := spV_0 (sum := sum) (w := g 168) (G := zb st) (m := t) (by omega)
          obtain ⟨hr, hp, hl⟩ := h1 ha
          have en : left = ((spN sum (g 168) (zb st) t : Nat) : Int) := by
            have := v0.2
            unfold spN
            omega
          have pz : 0 ≤ sumN (spP sum (g 168) (zb st) t) t := sumN_pos (fun x hx => by
            show 0 ≤ (if zb st x = true then sum * g 168 x / sG (g 168) (zb st) t else 0)
            split
            · rename_i zz
              exact Int.ediv_nonneg (Int.mul_nonneg hs.1 (hw x hx zz).1) (by omega)
            · omega)
          rw [en]
          refine last ha (spN sum (g 168) (zb st) t) (spP sum (g 168) (zb st) t) (spR sum (g 168) (zb st) t) G _ _ cG ?_ hr hp (fun x hx => rfl) (by omega)
          have := v0.1
          rw [← hall] at this
          exact this
        · obtain ⟨hp, hl⟩ := h0 (by omega)
          have kk := k G cG (fun x => ⟨fun hx => by rw [if_neg ha]; exact (hp x).1 hx, (hp x).2⟩)
          rw [hl]
          refine zX12_split_i2_141 ?_
          first | with_reducible refine l_gt ?_ ?_ (fun z3 => ?_) (fun z3 => ?_) | with_reducible refine l_lt ?_ ?_ (fun z3 => ?_) (fun z3 => ?_) | with_reducible refine l_ge ?_ ?_ (fun z3 => ?_) (fun z3 => ?_) | with_reducible refine l_le ?_ ?_ (fun z3 => ?_) (fun z3 => ?_) | with_reducible refine l_eq ?_ ?_ (fun z3 => ?_) (fun z3 => ?_) | with_reducible refine l_ne ?_ ?_ (fun z3 => ?_) (fun z3 => ?_)
          · omega
          · omega
          · exact zX12_split_i2_243 kk
          · first | with_reducible refine l_gt ?_ ?_ (fun z4 => ?_) (fun z4 => ?_) | with_reducible refine l_lt ?_ ?_ (fun z4 => ?_) (fun z4 => ?_) | with_reducible refine l_ge ?_ ?_ (fun z4 => ?_) (fun z4 => ?_) | with_reducible refine l_le ?_ ?_ (fun z4 => ?_) (fun z4 => ?_) | with_reducible refine l_eq ?_ ?_ (fun z4 => ?_) (fun z4 => ?_) | with_reducible refine l_ne ?_ ?_ (fun z4 => ?_) (fun z4 => ?_)
            · omega
            · omega
            · exact zX12_split_i2_243 kk
            · omega
      · omega
    | succ n ih =>
      intro t ht G left cG h1 h0
      have ep : sumN (spP sum (g 168) (zb st) m) (t + 1) = sumN (spP sum (g 168) (zb st) m) t + spP sum (g 168) (zb st) m t := rfl
      refine zX12_split_i2_51 ?_
      rw [cG.2 10 (by decide), em]
      first | with_reducible refine c_lt ?_ ?_ (fun z => ?_) (fun z => ?_) | with_reducible refine c_le ?_ ?_ (fun z => ?_) (fun z => ?_) | with_reducible refine c_eq ?_ ?_ (fun z => ?_) (fun z => ?_) | with_reducible refine c_ne ?_ ?_ (fun z => ?_) (fun z => ?_)
      · omega
      · omega
      · omega
      · rw [zb_holds (by omega)]
        refine zt0 (fun hz => ?_) (fun hz => ?_)
        · have bw := hw t (by omega) hz
          have pb : 0 ≤ sum * g 168 t := Int.mul_nonneg hs.1 bw.1
          have pb2 : sum * g 168 t ≤ 400000000 * 20000000000 := Int.mul_le_mul hs.2 bw.2 bw.1 (by omega)
          -- what is given, what rests
          have go : ∀ v r, (0 < all → v = spP sum (g 168) (zb st) m t ∧ r = spR sum (g 168) (zb st) m t) → (all = 0 → v = 0) → ∀ G2, G2 = mx_up G 169 t v → ∀ G3, G3 = mx_up G2 173 t r → aX12_split_i2 T d Q X 135 [some (mx_R 99), some (mx_J sum), none, some (mx_R 168), some (mx_I st), some (mx_R 169), some (mx_J all), none, some (mx_J (left - v)), none, some (mx_I (t : Int)), none] [] G3 (0, 0) := by
            intro v r hv1 hv0 G2 e2 G3 e3
            refine zX12_split_i2_135 ?_
            rw [show (t : Int) + 1 = ((t + 1 : Nat) : Int) by omega]
            have pS : ∀ x, x ≠ t → G3 169 x = G 169 x := fun x hx => by rw [e3, up_q (by decide), e2, up_i hx]
            have pT : G3 169 t = v := by rw [e3, up_q (by decide), e2, up_s]
            refine ih (t + 1) (by omega) G3 _ (by rw [e3, e2]; exact (cG.up (by decide) (by decide)).up (by decide) (by decide)) (fun ha => ?_) (fun ha => ?_)
            · obtain ⟨hr, hp, hl⟩ := h1 ha
              obtain ⟨rfl, rfl⟩ := hv1 ha
              refine ⟨fun x hx hzx => ?_, fun x => ?_, by rw [ep, hl]; omega⟩
              · rw [e3]
                by_cases e : x = t
                · rw [e, up_s]
                · rw [up_i e, e2, up_q (by decide)]; exact hr x (by omega) hzx
              · by_cases e : x = t
                · rw [e]; exact ⟨fun _ => pT, fun q => absurd ⟨by omega, hz⟩ q⟩
                · rw [pS x e]
                  exact ⟨fun q => (hp x).1 ⟨by omega, q.2⟩, fun q => (hp x).2 (fun y => q ⟨by omega, y.2⟩)⟩
            · obtain ⟨hp, hl⟩ := h0 ha
              have v0 := hv0 ha
              refine ⟨fun x => ?_, by omega⟩
              by_cases e : x = t
              · rw [e]; exact ⟨fun _ => by rw [pT, v0], fun q => absurd ⟨by omega, hz⟩ q⟩
              · rw [pS x e]
                exact ⟨fun q => (hp x).1 ⟨by omega, q.2⟩, fun q => (hp x).2 (fun y => q ⟨by omega, y.2⟩)⟩
          first | with_reducible refine l_gt ?_ ?_ (fun ha => ?_) (fun ha => ?_) | with_reducible refine l_lt ?_ ?_ (fun ha => ?_) (fun ha => ?_) | with_reducible refine l_ge ?_ ?_ (fun ha => ?_) (fun ha => ?_) | with_reducible refine l_le ?_ ?_ (fun ha => ?_) (fun ha => ?_) | with_reducible refine l_eq ?_ ?_ (fun ha => ?_) (fun ha => ?_) | with_reducible refine l_ne ?_ ?_ (fun ha => ?_) (fun ha => ?_)
          · omega
          · omega
          · have nz : ¬ w64 all = 0 := by rw [w64_of ra.1 ra.2]; omega
            have eA : G 168 t = g 168 t := by rw [cG.1 168 (by decide) (by decide)]
            have dv : mx_ldiv (sum * G 168 t) all = spP sum (g 168) (zb st) m t := by
              rw [eA, ldiv_of (by omega) ra (by omega), Int.tdiv_eq_ediv_of_nonneg pb]
              unfold spP
              rw [if_pos hz, hall]
            refine s_inN ?_ (fun ea => ?_)
            · omega
            try simp only [ea]
            clear ea
            refine ⟨nz, ?_⟩
            refine zX12_split_i2_97 ?_
            refine s_inN ?_ (fun ea => ?_)
            · omega
            try simp only [ea]
            clear ea
            intro G2 e2
            have rv : mx_lrem (sum * G2 168 t) all = spR sum (g 168) (zb st) m t := by
              rw [e2, up_q (by decide), eA, lrem_of (by omega) (by omega)]
              unfold spR
              rw [if_pos hz, hall]
            first | with_reducible refine l_gt ?_ ?_ (fun ha2 => ?_) (fun ha2 => ?_) | with_reducible refine l_lt ?_ ?_ (fun ha2 => ?_) (fun ha2 => ?_) | with_reducible refine l_ge ?_ ?_ (fun ha2 => ?_) (fun ha2 => ?_) | with_reducible refine l_le ?_ ?_ (fun ha2 => ?_) (fun ha2 => ?_) | with_reducible refine l_eq ?_ ?_ (fun ha2 => ?_) (fun ha2 => ?_) | with_reducible refine l_ne ?_ ?_ (fun ha2 => ?_) (fun ha2 => ?_)
            · omega
            · omega
            · refine s_inN ?_ (fun ea => ?_)
              · omega
              try simp only [ea]
              clear ea
              refine ⟨nz, ?_⟩
              refine zX12_split_i2_124 ?_
              refine s_inN ?_ (fun ea => ?_)
              · omega
              try simp only [ea]
              clear ea
              intro G3 e3
              refine s_inN ?_ (fun ea => ?_)
              · omega
              try simp only [ea]
              clear ea
              have e4 : G3 169 t = mx_ldiv (sum * G 168 t) all := by rw [e3, up_q (by decide), e2, up_s]
              have := go (mx_ldiv (sum * G 168 t) all) (mx_lrem (sum * G2 168 t) all) (fun _ => ⟨dv, rv⟩) (fun q => by omega) G2 e2 G3 e3
              rw [e4]
              exact this
            · omega
          · refine zX12_split_i2_97 ?_
            refine s_inN ?_ (fun ea => ?_)
            · omega
            try simp only [ea]
            clear ea
            intro G2 e2
            first | with_reducible refine l_gt ?_ ?_ (fun ha2 => ?_) (fun ha2 => ?_) | with_reducible refine l_lt ?_ ?_ (fun ha2 => ?_) (fun ha2 => ?_) | with_reducible refine l_ge ?_ ?_ (fun ha2 => ?_) (fun ha2 => ?_) | with_reducible refine l_le ?_ ?_ (fun ha2 => ?_) (fun ha2 => ?_) | with_reducible refine l_eq ?_ ?_ (fun ha2 => ?_) (fun ha2 => ?_) | with_reducible refine l_ne ?_ ?_ (fun ha2 => ?_) (fun ha2 => ?_)
            · omega
            · omega
            · omega
            · refine zX12_split_i2_124 ?_
              refine s_inN ?_ (fun ea => ?_)
              · omega
              try simp only [ea]
              clear ea
              intro G3 e3
              refine s_inN ?_ (fun ea => ?_)
              · omega
              try simp only [ea]
              clear ea
              have e4 : G3 169 t = 0 := by rw [e3, up_q (by decide), e2, up_s]
              have := go 0 0 (fun q => by omega) (fun _ => rfl) G2 e2 G3 e3
              rw [e4]
              exact this
        · refine zX12_split_i2_135 ?_
          rw [show (t : Int) + 1 = ((t + 1 : Nat) : Int) by omega]
          refine ih (t + 1) (by omega) G left cG (fun ha => ?_) (fun ha => ?_)
          · obtain ⟨hr, hp, hl⟩ := h1 ha
            refine ⟨fun x hx hzx => ?_, fun x => ⟨fun q => ?_, fun q => (hp x).2 (fun y => q ⟨by omega, y.2⟩)⟩, ?_⟩
            · by_cases e : x = t
              · rw [e, hz] at hzx; exact absurd hzx (by decide)
              · exact hr x (by omega) hzx
            · by_cases e : x = t
              · rw [e, hz] at q; exact absurd q.2 (by decide)
              · exact (hp x).1 ⟨by omega, q.2⟩
            · rw [ep, hl]
              have : spP sum (g 168) (zb st) m t = 0 := by unfold spP; rw [if_neg (by rw [hz]; decide)]
              omega
          · obtain ⟨hp, hl⟩ := h0 ha
            refine ⟨fun x => ⟨fun q => ?_, fun q => (hp x).2 (fun y => q ⟨by omega, y.2⟩)⟩, hl⟩
            by_cases e : x = t
            · rw [e, hz] at q; exact absurd q.2 (by decide)
            · exact (hp x).1 ⟨by omega, q.2⟩
  have sums : ∀ n t : Nat, t + n = m → aX12_split_i2 T d Q X 9 [some (mx_R 99), some (mx_J sum), none, some (mx_R 168), some (mx_I st), some (mx_R 169), some (mx_J (sG (g 168) (zb st) t)), none, some (mx_J sum), none, some (mx_I (t : Int)), none] [] g (0, 0) := by
    intro n
    induction n with
    | zero =>
      intro t ht
      refine zX12_split_i2_9 ?_
      rw [em]
      have : t = m := by omega
      subst this
      first | with_reducible refine c_lt ?_ ?_ (fun z => ?_) (fun z => ?_) | with_reducible refine c_le ?_ ?_ (fun z => ?_) (fun z => ?_) | with_reducible refine c_eq ?_ ?_ (fun z => ?_) (fun z => ?_) | with_reducible refine c_ne ?_ ?_ (fun z => ?_) (fun z => ?_)
      · omega
      · omega
      · rw [← hall, show (0 : Int) = ((0 : Nat) : Int) from rfl]
        refine parts t 0 (by omega) g sum (Ch.rf g) (fun _ => ⟨fun x hx => absurd hx (Nat.not_lt_zero x), fun x => ⟨fun q => absurd q.1 (Nat.not_lt_zero x), fun _ => rfl⟩, ?_⟩) (fun _ => ⟨fun x => ⟨fun q => absurd q.1 (Nat.not_lt_zero x), fun _ => rfl⟩, rfl⟩)
        show sum = sum - 0
        omega
      · omega
    | succ n ih =>
      intro t ht
      have nx := ih (t + 1) (by omega)
      rw [sG_s] at nx
      refine zX12_split_i2_9 ?_
      rw [em]
      first | with_reducible refine c_lt ?_ ?_ (fun z => ?_) (fun z => ?_) | with_reducible refine c_le ?_ ?_ (fun z => ?_) (fun z => ?_) | with_reducible refine c_eq ?_ ?_ (fun z => ?_) (fun z => ?_) | with_reducible refine c_ne ?_ ?_ (fun z => ?_) (fun z => ?_)
      · omega
      · omega
      · omega
      · rw [zb_holds (by omega)]
        refine zt1 (fun hz => ?_) (fun hz => ?_)
        · refine zX12_split_i2_39 ?_
          rw [show (t : Int) + 1 = ((t + 1 : Nat) : Int) by omega]
          rw [if_neg (by rw [hz]; decide)] at nx
          exact nx
        · refine s_inN ?_ (fun ea => ?_)
          · omega
          try simp only [ea]
          clear ea
          refine zX12_split_i2_39 ?_
          rw [show (t : Int) + 1 = ((t + 1 : Nat) : Int) by omega]
          rw [if_pos hz] at nx
          exact nx
  exact sums m 0 (by omega)
