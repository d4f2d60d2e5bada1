/-! a split: the class, into the shares -/
theorem sX4_split_i2 {T : Nat × (Nat → Int32)} {d : Nat} {Q : mz_K} {X : mz_X} {g : mz_S} {m : Nat} {st sum : Int} (em : g 9 1 = (m : Int)) (hm : m ≤ 12) (hs : 0 ≤ sum ∧ sum ≤ 400000000) (hw : ∀ x, x < m → zb st x = true → 0 ≤ g 89 x ∧ g 89 x ≤ 20000000000) (k0 : sG (g 89) (zb st) m ≤ 0 → Q 0 g) (k : 0 < sG (g 89) (zb st) m → ∀ g', Ch [90, 91] [] g g' → (∀ x, (x < m ∧ zb st x = true → g' 91 x = spF sum (g 89) (zb st) m x) ∧ (¬ (x < m ∧ zb st x = true) → g' 91 x = g 91 x)) → Q sum g') : zC T (d + 3) 58 [mx_R 86, mx_J sum, mx_I st, mx_R 91] g Q X := by
  refine zX4_split_i2 (sX4_weightOf (d := d) em hm ?_)
  have ball := sG_bnd (f := g 89) (G := zb st) (m := m) (B := 20000000000) (by omega) hw
  generalize hall : sG (g 89) (zb st) m = all at *
  first | with_reducible refine l_gt ?_ ?_ (fun ha => ?_) (fun ha => ?_) | with_reducible refine l_lt ?_ ?_ (fun ha => ?_) (fun ha => ?_) | with_reducible refine l_ge ?_ ?_ (fun ha => ?_) (fun ha => ?_) | with_reducible refine l_le ?_ ?_ (fun ha => ?_) (fun ha => ?_) | with_reducible refine l_eq ?_ ?_ (fun ha => ?_) (fun ha => ?_) | with_reducible refine l_ne ?_ ?_ (fun ha => ?_) (fun ha => ?_)
  · omega
  · omega
  · have ra : R64 all := by omega
    have last : ∀ n : Nat, ∀ (pp rr : Nat → Int) G x9, Ch [90, 91] [] g G → spV m (zb st) all n rr → (∀ x, x < m → G 90 x = rr x) → (∀ x, (x < m ∧ zb st x = true → G 91 x = pp x) ∧ (¬ (x < m ∧ zb st x = true) → G 91 x = g 91 x)) → (∀ x, x < m → (spI m n (pp, rr)).1 x = spF sum (g 89) (zb st) m x) → n ≤ 400000000 → aX4_split_i2 T (d + 2) Q X 105 [some (mx_R 86), some (mx_J sum), none, some (mx_I st), some (mx_R 91), some (mx_J all), none, some (mx_J (n : Int)), none, some (mx_I x9)] [] G (0, 0) := by
      intro n
      induction n with
      | zero =>
        intro pp rr G x9 cG hV hr hp hf hn
        refine zX4_split_i2_105 ?_
        first | with_reducible refine l_gt ?_ ?_ (fun z => ?_) (fun z => ?_) | with_reducible refine l_lt ?_ ?_ (fun z => ?_) (fun z => ?_) | with_reducible refine l_ge ?_ ?_ (fun z => ?_) (fun z => ?_) | with_reducible refine l_le ?_ ?_ (fun z => ?_) (fun z => ?_) | with_reducible refine l_eq ?_ ?_ (fun z => ?_) (fun z => ?_) | with_reducible refine l_ne ?_ ?_ (fun z => ?_) (fun z => ?_)
        · omega
        · omega
        · exact k ha G cG (fun x => ⟨fun hx => (hp x).1 hx |>.trans (hf x hx.1), (hp x).2⟩)
        · omega
      | succ n ih =>
        intro pp rr G x9 cG hV hr hp hf hn
        obtain ⟨q1, q2, q3⟩ := spV_pos ha hV
        have eb : bo (G 90) m = bo rr m := bo_cg hr
        refine zX4_split_i2_105 ?_
        first | with_reducible refine l_gt ?_ ?_ (fun z => ?_) (fun z => ?_) | with_reducible refine l_lt ?_ ?_ (fun z => ?_) (fun z => ?_) | with_reducible refine l_ge ?_ ?_ (fun z => ?_) (fun z => ?_) | with_reducible refine l_le ?_ ?_ (fun z => ?_) (fun z => ?_) | with_reducible refine l_eq ?_ ?_ (fun z => ?_) (fun z => ?_) | with_reducible refine l_ne ?_ ?_ (fun z => ?_) (fun z => ?_)
        · omega
        · omega
        · omega
        · refine sX4_greatestRest (d := d + 1) ((congrFun (cG.1 9 (by decide) (by decide)) 1).trans em) hm (fun x hx => by rw [hr x hx]; have := hV.2.1 x hx; omega) ?_
          rw [eb]
          refine s_inN ?_ (fun ea => ?_)
          · omega
          try simp only [ea]
          clear ea
          refine s_inN ?_ (fun ea => ?_)
          · omega
          try simp only [ea]
          clear ea
          intro G2 e2
          refine s_inN ?_ (fun ea => ?_)
          · omega
          try simp only [ea]
          clear ea
          intro G3 e3
          rw [show ((n + 1 : Nat) : Int) - 1 = ((n : Nat) : Int) by omega]
          refine ih (fun x => if x = bo rr m then pp x + 1 else pp x) (fun x => if x = bo rr m then -1 else rr x) G3 _ ?_ (spV_step ha hV) (fun x hx => ?_) (fun x => ?_) hf (by omega)
          · rw [e3, e2]; exact (cG.up (by decide) (by decide)).up (by decide) (by decide)
          · show G3 90 x = (if x = bo rr m then -1 else rr x)
            rw [e3]
            by_cases e : x = bo rr m
            · rw [if_pos e, e, up_s]
            · rw [if_neg e, up_i e, e2, up_q (by decide)]
              exact hr x hx
          · have e5 : G3 91 x = G2 91 x := by rw [e3, up_q (by decide)]
            rw [e5, e2]
            refine ⟨fun hx => ?_, fun hx => ?_⟩
            · show _ = (if x = bo rr m then pp x + 1 else pp x)
              by_cases e : x = bo rr m
              · rw [if_pos e, ← e, up_s, (hp x).1 hx]
              · rw [if_neg e, up_i e, (hp x).1 hx]
            · rw [up_i (fun e => hx (by rw [e]; exact ⟨q3, q2⟩)), (hp x).2 hx]
    have v0 := spV_0 (sum := sum) (w := g 89) (G := zb st) (m := m) (by omega)
    have main : ∀ n t : Nat, t + n = m → ∀ G left, Ch [90, 91] [] g G → (∀ x, x < t → G 90 x = spR sum (g 89) (zb st) m x) → (∀ x, (x < t ∧ zb st x = true → G 91 x = spP sum (g 89) (zb st) m x) ∧ (¬ (x < t ∧ zb st x = true) → G 91 x = g 91 x)) → left = sum - sumN (spP sum (g 89) (zb st) m) t → aX4_split_i2 T (d + 2) Q X 22 [some (mx_R 86), some (mx_J sum), none, some (mx_I st), some (mx_R 91), some (mx_J all), none, some (mx_J left), none, some (mx_I (t : Int))] [] G (0, 0) := by
      intro n
      induction n with
      | zero =>
        intro t ht G left cG hr hp hl
        refine zX4_split_i2_22 ?_
        rw [cG.1 9 (by decide) (by decide), em]
        have : t = m := by omega
        subst this
        first | with_reducible refine c_lt ?_ ?_ (fun z => ?_) (fun z => ?_) | with_reducible refine c_le ?_ ?_ (fun z => ?_) (fun z => ?_) | with_reducible refine c_eq ?_ ?_ (fun z => ?_) (fun z => ?_) | with_reducible refine c_ne ?_ ?_ (fun z => ?_) (fun z => ?_)
        · omega
        · omega
        · have en : left = ((spN sum (g 89) (zb st) t : Nat) : Int) := by
            have := v0.2
            unfold spN
            omega
          rw [en]
          have pz : 0 ≤ sumN (spP sum (g 89) (zb st) t) t := sumN_pos (fun x hx => by
            show 0 ≤ (if zb st x = true then sum * g 89 x / sG (g 89) (zb st) t else 0)
            split
            · rename_i zz
              exact Int.ediv_nonneg (Int.mul_nonneg hs.1 (hw x hx zz).1) (by omega)
            · omega)
          refine last (spN sum (g 89) (zb st) t) (spP sum (g 89) (zb st) t) (spR sum (g 89) (zb st) t) G _ cG ?_ hr hp (fun x hx => rfl) (by omega)
          have := v0.1
          rw [hall] at this
          exact this
        · omega
      | succ n ih =>
        intro t ht G left cG hr hp hl
        refine zX4_split_i2_22 ?_
        rw [cG.1 9 (by decide) (by decide), em]
        first | with_reducible refine c_lt ?_ ?_ (fun z => ?_) (fun z => ?_) | with_reducible refine c_le ?_ ?_ (fun z => ?_) (fun z => ?_) | with_reducible refine c_eq ?_ ?_ (fun z => ?_) (fun z => ?_) | with_reducible refine c_ne ?_ ?_ (fun z => ?_) (fun z => ?_)
        · omega
        · omega
        · omega
        · refine s_inN ?_ (fun ea => ?_)
          · omega
          try simp only [ea]
          clear ea
          intro G2 e2
          have c2 : Ch [90, 91] [] g G2 := by rw [e2]; exact cG.up (by decide) (by decide)
          have ep : sumN (spP sum (g 89) (zb st) m) (t + 1) = sumN (spP sum (g 89) (zb st) m) t + spP sum (g 89) (zb st) m t := rfl
          refine sX11_holds (by omega) ?_
          first | with_reducible refine b_eq (fun h => ?_) (fun h => ?_) | with_reducible refine b_ne (fun h => ?_) (fun h => ?_)
          · refine zX4_split_i2_99 ?_
            rw [show (t : Int) + 1 = ((t + 1 : Nat) : Int) by omega]
            refine ih (t + 1) (by omega) G2 left c2 (fun x hx => ?_) (fun x => ?_) ?_
            · rw [e2]
              by_cases e : x = t
              · rw [e, up_s]
                unfold spR
                rw [if_neg h]
              · rw [up_i e]; exact hr x (by omega)
            · rw [e2, up_q (by decide)]
              refine ⟨fun hx => (hp x).1 ⟨?_, hx.2⟩, fun hx => (hp x).2 (fun y => hx ⟨by omega, y.2⟩)⟩
              by_cases e : x = t
              · rw [e] at hx; exact absurd hx.2 h
              · omega
            · rw [ep, hl]
              have : spP sum (g 89) (zb st) m t = 0 := by unfold spP; rw [if_neg h]
              omega
          · have bw := hw t (by omega) h
            have pb : 0 ≤ sum * g 89 t := Int.mul_nonneg hs.1 bw.1
            have pb2 : sum * g 89 t ≤ 400000000 * 20000000000 := Int.mul_le_mul hs.2 bw.2 bw.1 (by omega)
            have e89 : G2 89 t = g 89 t := by rw [c2.1 89 (by decide) (by decide)]
            have nz : ¬ w64 all = 0 := by rw [w64_of ra.1 ra.2]; omega
            have dv : mx_ldiv (sum * g 89 t) all = spP sum (g 89) (zb st) m t := by
              rw [ldiv_of (by omega) ra (by omega), Int.tdiv_eq_ediv_of_nonneg pb]
              unfold spP
              rw [if_pos h, hall]
            have rv : mx_lrem (sum * g 89 t) all = spR sum (g 89) (zb st) m t := by
              rw [lrem_of (by omega) (by omega)]
              unfold spR
              rw [if_pos h, hall]
            refine s_inN ?_ (fun ea => ?_)
            · omega
            try simp only [ea]
            clear ea
            refine ⟨nz, ?_⟩
            refine s_inN ?_ (fun ea => ?_)
            · omega
            try simp only [ea]
            clear ea
            intro G3 e3
            have c3 : Ch [90, 91] [] g G3 := by rw [e3]; exact c2.up (by decide) (by decide)
            refine s_inN ?_ (fun ea => ?_)
            · omega
            try simp only [ea]
            clear ea
            refine ⟨nz, ?_⟩
            refine s_inN ?_ (fun ea => ?_)
            · omega
            try simp only [ea]
            clear ea
            intro G4 e4
            have c4 : Ch [90, 91] [] g G4 := by rw [e4]; exact c3.up (by decide) (by decide)
            rw [e89, dv] at e3
            rw [show G3 89 t = g 89 t by rw [c3.1 89 (by decide) (by decide)], rv] at e4
            refine s_inN ?_ (fun ea => ?_)
            · omega
            try simp only [ea]
            clear ea
            refine zX4_split_i2_99 ?_
            rw [show (t : Int) + 1 = ((t + 1 : Nat) : Int) by omega]
            have v4 : G4 91 t = spP sum (g 89) (zb st) m t := by rw [e4, up_q (by decide), e3, up_s]
            refine ih (t + 1) (by omega) G4 _ c4 (fun x hx => ?_) (fun x => ?_) ?_
            · rw [e4]
              by_cases e : x = t
              · rw [e, up_s]
              · rw [up_i e, e3, up_q (by decide), e2, up_i e]; exact hr x (by omega)
            · by_cases e : x = t
              · rw [e]
                exact ⟨fun _ => v4, fun y => absurd ⟨by omega, h⟩ y⟩
              · have : G4 91 x = G 91 x := by rw [e4, up_q (by decide), e3, up_i e, e2, up_q (by decide)]
                rw [this]
                exact ⟨fun hx => (hp x).1 ⟨by omega, hx.2⟩, fun hx => (hp x).2 (fun y => hx ⟨by omega, y.2⟩)⟩
            · rw [ep, hl, v4]
              omega
    refine main m 0 (by omega) g sum (Ch.rf g) (fun x hx => absurd hx (Nat.not_lt_zero x)) (fun x => ⟨fun hx => absurd hx.1 (Nat.not_lt_zero x), fun _ => rfl⟩) ?_
    show sum = sum - 0
    omega
  · exact k0 (by omega)
