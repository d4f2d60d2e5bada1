/-! plans: the reference -/
def DbR (g : mz_S) (c : mz_S) (co : Nat) (x : Int) (n : Nat) : Prop := ∀ j, j < n → g 163 j = (dF x j : Nat) ∧ g 164 j = (dT x j : Nat) ∧ g 167 j = dA c co x j
theorem DbR.fr {S F : List Nat} {g g' c : mz_S} {co n : Nat} {x : Int} (h : DbR g c co x n) (e : Ch S F g g') (hS : ∀ q ∈ [163, 164, 167], q ∉ S) : DbR g' c co x n := by
  unfold DbR at h ⊢
  rw [e.1 163 (hS 163 (by decide)) (by decide), e.1 164 (hS 164 (by decide)) (by decide), e.1 167 (hS 167 (by decide)) (by decide)]
  exact h
def WkR (g : mz_S) (n : Nat) (W : Nat → Nat) : Prop := ∀ k, k < n → g 165 k = (W k : Nat)
def PlR (g : mz_S) (n wks : Nat) (b : Int × Int × Nat) : Prop := ¬ b.1 = -1 → ∀ d, d < n → g 166 d = (wkV n wks b.2.2 d : Nat)
theorem sX12_isRight {T : Nat × (Nat → Int32)} {d : Nat} {Q : mz_K} {X : mz_X} {g : mz_S} {c : mz_S} {co m n wks : Nat} {x : Int} {W : Nat → Nat} (wl : WfL0 c) (wb : WfB c) (wx : WfX c) (we : IE c) (em : c 9 1 = (m : Int)) (h10 : g 99 10 = (m : Int)) (hm : m ≤ 12) (hn : n ≤ 6) (hco : co < 4) (hw : wks ≤ 4) (ok : okB c co x m n = true) (h : DbR g c co x n) (hW : WkR g n W) (hW4 : ∀ k, k < n → W k ≤ 4) (r1 : g 99 1 = c 1 0) (r110 : ∀ i, i < 48 → w32 (g 110 i) = w32 (c 14 i)) (rx : ReX c g) (k : Q (pI (rgtB c co x m n wks W = true)) g) : zC T (d + 2) 307 [mx_R 99, mx_I (co : Int), mx_I (n : Int), mx_I (wks : Int)] g Q X := by
  have w0 := wl.1
  have okp := okB_iff.mp ok
  refine zX12_isRight ?_
  have main : ∀ cc w : Nat, w + cc = wks + 1 → 1 ≤ w → (∀ v, v + 1 < w → fitB c co x m n (v + 1) (fun k => decide (W k ≤ v + 1)) = true) → ∀ o5 o6 o8, aX12_isRight T (d + 1) Q X 3 [some (mx_R 99), some (mx_I (co : Int)), some (mx_I (n : Int)), some (mx_I (wks : Int)), some (mx_I (w : Int)), o5, o6, none, o8] [] g (0, 0) := by
    intro cc
    induction cc with
    | zero =>
      intro w hw1 hw2 hv o5 o6 o8
      refine zX12_isRight_3 ?_
      first | with_reducible refine c_lt ?_ ?_ (fun z => ?_) (fun z => ?_) | with_reducible refine c_le ?_ ?_ (fun z => ?_) (fun z => ?_) | with_reducible refine c_eq ?_ ?_ (fun z => ?_) (fun z => ?_) | with_reducible refine c_ne ?_ ?_ (fun z => ?_) (fun z => ?_)
      · omega
      · omega
      · refine ⟨zb1, ?_⟩
        rw [pI_t (rgtB_iff.mpr (fun v hv2 => hv v (by omega)))] at k
        exact k
      · omega
    | succ cc ih =>
      intro w hw1 hw2 hv o5 o6 o8
      refine zX12_isRight_3 ?_
      first | with_reducible refine c_lt ?_ ?_ (fun z => ?_) (fun z => ?_) | with_reducible refine c_le ?_ ?_ (fun z => ?_) (fun z => ?_) | with_reducible refine c_eq ?_ ?_ (fun z => ?_) (fun z => ?_) | with_reducible refine c_ne ?_ ?_ (fun z => ?_) (fun z => ?_)
      · omega
      · omega
      · omega
      · have bro : ∀ c2 b : Nat, b + c2 = m → (∀ y, y < b → 0 ≤ hasV c co y w + dlt c co x n (fun k => decide (W k ≤ w)) y) → ∀ o6 o8, aX12_isRight T (d + 1) Q X 12 [some (mx_R 99), some (mx_I (co : Int)), some (mx_I (n : Int)), some (mx_I (wks : Int)), some (mx_I (w : Int)), some (mx_I (b : Int)), o6, none, o8] [] g (0, 0) := by
          intro c2
          induction c2 with
          | zero =>
            intro b hb hy o6 o8
            refine zX12_isRight_12 ?_
            rw [h10]
            first | with_reducible refine c_lt ?_ ?_ (fun z2 => ?_) (fun z2 => ?_) | with_reducible refine c_le ?_ ?_ (fun z2 => ?_) (fun z2 => ?_) | with_reducible refine c_eq ?_ ?_ (fun z2 => ?_) (fun z2 => ?_) | with_reducible refine c_ne ?_ ?_ (fun z2 => ?_) (fun z2 => ?_)
            · omega
            · omega
            · rw [show (w : Int) + 1 = ((w + 1 : Nat) : Int) by omega]
              refine ih (w + 1) (by omega) (by omega) (fun v hv2 => ?_) _ _ _
              by_cases y : v + 1 = w
              · rw [y]
                exact fitB_iff.mpr (fun b' hb' => hy b' (by omega))
              · exact hv v (by omega)
            · omega
          | succ c2 ih2 =>
            intro b hb hy o6 o8
            refine zX12_isRight_12 ?_
            rw [h10]
            first | with_reducible refine c_lt ?_ ?_ (fun z2 => ?_) (fun z2 => ?_) | with_reducible refine c_le ?_ ?_ (fun z2 => ?_) (fun z2 => ?_) | with_reducible refine c_eq ?_ ?_ (fun z2 => ?_) (fun z2 => ?_) | with_reducible refine c_ne ?_ ?_ (fun z2 => ?_) (fun z2 => ?_)
            · omega
            · omega
            · omega
            · rw [r1, show c 1 0 + 7 * (w : Int) = (((c 1 0).toNat + 7 * w : Nat) : Int) by omega]
              refine sX12_has (d := d) (c := c) wl wb wx r1 r110 rx (by omega) (by omega) (by omega) ?_
              rw [show ((b : Int) * 4 + (co : Int)).toNat = b * 4 + co by omega]
              have hv0 : c 14 (b * 4 + co) + sumN (eX c (b : Int) (co : Int) 0 ((c 1 0).toNat + 7 * w + 1)) (c 72 4).toNat = hasV c co b w := rfl
              rw [hv0]
              have hvb := hasV_bnd wb wx (co := co) (b := b) hco (by omega) w
              have deb : ∀ c3 i : Nat, i + c3 = n → ∀ v, v = hasV c co b w + dlt c co x i (fun k => decide (W k ≤ w)) b → aX12_isRight T (d + 1) Q X 44 [some (mx_R 99), some (mx_I (co : Int)), some (mx_I (n : Int)), some (mx_I (wks : Int)), some (mx_I (w : Int)), some (mx_I (b : Int)), some (mx_J v), none, some (mx_I (i : Int))] [] g (0, 0) := by
                intro c3
                induction c3 with
                | zero =>
                  intro i hi v hv2
                  have e : i = n := by omega
                  subst e
                  have db := dlt_bnd we.1 hm hn hco ok (fun k => decide (W k ≤ w)) b
                  subst hv2
                  refine zX12_isRight_44 ?_
                  first | with_reducible refine c_lt ?_ ?_ (fun z3 => ?_) (fun z3 => ?_) | with_reducible refine c_le ?_ ?_ (fun z3 => ?_) (fun z3 => ?_) | with_reducible refine c_eq ?_ ?_ (fun z3 => ?_) (fun z3 => ?_) | with_reducible refine c_ne ?_ ?_ (fun z3 => ?_) (fun z3 => ?_)
                  · omega
                  · omega
                  · first | with_reducible refine l_gt ?_ ?_ (fun z4 => ?_) (fun z4 => ?_) | with_reducible refine l_lt ?_ ?_ (fun z4 => ?_) (fun z4 => ?_) | with_reducible refine l_ge ?_ ?_ (fun z4 => ?_) (fun z4 => ?_) | with_reducible refine l_le ?_ ?_ (fun z4 => ?_) (fun z4 => ?_) | with_reducible refine l_eq ?_ ?_ (fun z4 => ?_) (fun z4 => ?_) | with_reducible refine l_ne ?_ ?_ (fun z4 => ?_) (fun z4 => ?_)
                    · omega
                    · omega
                    · rw [show (b : Int) + 1 = ((b + 1 : Nat) : Int) by omega]
                      refine ih2 (b + 1) (by omega) (fun y hy2 => ?_) _ _
                      by_cases e2 : y = b
                      · subst e2; exact z4
                      · exact hy y (by omega)
                    · refine ⟨zb0, ?_⟩
                      rw [pI_f (fun q => by
                        have := rgtB_iff.mp q (w - 1) (by omega)
                        rw [show w - 1 + 1 = w by omega] at this
                        have := fitB_iff.mp this b (by omega)
                        omega)] at k
                      exact k
                  · omega
                | succ c3 ih3 =>
                  intro i hi v hv2
                  obtain ⟨o1, o2, o3, o4⟩ := okp i (by omega)
                  obtain ⟨e1, e2, e3⟩ := h i (by omega)
                  have b4 := hW4 i (by omega)
                  have ne : dF x i ≠ dT x i := fun e => by
                    have : dA c co x i = 0 := by unfold dA; rw [e]; exact net_self we (by omega) hco
                    omega
                  have ds : dlt c co x (i + 1) (fun k => decide (W k ≤ w)) b = dlt c co x i (fun k => decide (W k ≤ w)) b + (if decide (W i ≤ w) = true then (if dT x i = b then dA c co x i else 0) - (if dF x i = b then dA c co x i else 0) else 0) := rfl
                  have nx : ∀ v2, v2 = hasV c co b w + dlt c co x (i + 1) (fun k => decide (W k ≤ w)) b → aX12_isRight T (d + 1) Q X 113 [some (mx_R 99), some (mx_I (co : Int)), some (mx_I (n : Int)), some (mx_I (wks : Int)), some (mx_I (w : Int)), some (mx_I (b : Int)), some (mx_J v2), none, some (mx_I (i : Int))] [] g (0, 0) := by
                    intro v2 h2
                    refine zX12_isRight_113 ?_
                    rw [show (i : Int) + 1 = ((i + 1 : Nat) : Int) by omega]
                    exact ih3 (i + 1) (by omega) v2 h2
                  refine zX12_isRight_44 ?_
                  first | with_reducible refine c_lt ?_ ?_ (fun z3 => ?_) (fun z3 => ?_) | with_reducible refine c_le ?_ ?_ (fun z3 => ?_) (fun z3 => ?_) | with_reducible refine c_eq ?_ ?_ (fun z3 => ?_) (fun z3 => ?_) | with_reducible refine c_ne ?_ ?_ (fun z3 => ?_) (fun z3 => ?_)
                  · omega
                  · omega
                  · omega
                  · refine s_inN ?_ (fun ea => ?_)
                    · omega
                    try simp only [ea]
                    clear ea
                    rw [hW i (by omega)]
                    first | with_reducible refine c_lt ?_ ?_ (fun z4 => ?_) (fun z4 => ?_) | with_reducible refine c_le ?_ ?_ (fun z4 => ?_) (fun z4 => ?_) | with_reducible refine c_eq ?_ ?_ (fun z4 => ?_) (fun z4 => ?_) | with_reducible refine c_ne ?_ ?_ (fun z4 => ?_) (fun z4 => ?_)
                    · omega
                    · omega
                    · refine nx v ?_
                      rw [ds, if_neg (by rw [decide_eq_true_iff]; omega), hv2]
                      omega
                    · have dd : decide (W i ≤ w) = true := decide_eq_true (by omega)
                      rw [if_pos dd] at ds
                      refine s_inN ?_ (fun ea => ?_)
                      · omega
                      try simp only [ea]
                      clear ea
                      rw [e2]
                      first | with_reducible refine c_lt ?_ ?_ (fun z5 => ?_) (fun z5 => ?_) | with_reducible refine c_le ?_ ?_ (fun z5 => ?_) (fun z5 => ?_) | with_reducible refine c_eq ?_ ?_ (fun z5 => ?_) (fun z5 => ?_) | with_reducible refine c_ne ?_ ?_ (fun z5 => ?_) (fun z5 => ?_)
                      · omega
                      · omega
                      · refine s_inN ?_ (fun ea => ?_)
                        · omega
                        try simp only [ea]
                        clear ea
                        rw [e1]
                        first | with_reducible refine c_lt ?_ ?_ (fun z6 => ?_) (fun z6 => ?_) | with_reducible refine c_le ?_ ?_ (fun z6 => ?_) (fun z6 => ?_) | with_reducible refine c_eq ?_ ?_ (fun z6 => ?_) (fun z6 => ?_) | with_reducible refine c_ne ?_ ?_ (fun z6 => ?_) (fun z6 => ?_)
                        · omega
                        · omega
                        · refine zX12_isRight_110 (nx _ ?_)
                          rw [ds, if_neg (by omega), if_neg (by omega), hv2]
                          omega
                        · refine s_inN ?_ (fun ea => ?_)
                          · omega
                          try simp only [ea]
                          clear ea
                          rw [e3]
                          refine zX12_isRight_110 (nx _ ?_)
                          rw [ds, if_neg (by omega), if_pos (by omega), hv2]
                          omega
                      · refine s_inN ?_ (fun ea => ?_)
                        · omega
                        try simp only [ea]
                        clear ea
                        rw [e3]
                        refine zX12_isRight_110 (nx _ ?_)
                        rw [ds, if_pos (by omega), if_neg (by omega), hv2]
                        omega
              exact deb n 0 (by omega) _ (by show hasV c co b w = hasV c co b w + 0; omega)
        exact bro m 0 (by omega) (fun y hy => absurd hy (Nat.not_lt_zero _)) _ _
  exact main wks 1 (by omega) (by omega) (fun v hv => by omega) none none none
/-- weeks, latest and sum of a plan -/
theorem sX12_plan_309 {T : Nat × (Nat → Int32)} {d : Nat} {Q : mz_K} {X : mz_X} {g : mz_S} {n wks q : Nat} {x1 x2 x6 x7 x8 x9 x10 : Int} (hn : 1 ≤ n ∧ n ≤ 6) (hw : 1 ≤ wks ∧ wks ≤ 4) (hq : q < wks ^ n) (k : ∀ g' x11 x14, Ch [165] [] g g' → WkR g' n (wkV n wks q) → x14 = -1 → (w32 x8 = w32 (-1) → aX12_plan T (d + 1) Q X 394 [some (mx_R 99), some (mx_I x1), some (mx_J x2), none, some (mx_I (n : Int)), some (mx_I (wks : Int)), some (mx_I x6), some (mx_I x7), some (mx_I x8), some (mx_I x9), some (mx_I x10), some (mx_I x11), some (mx_I (mxN (wkV n wks q) n : Nat)), some (mx_I (smN (wkV n wks q) n : Nat)), some (mx_I x14)] [] g' (0, 0)) ∧ (¬ (w32 x8 = w32 (-1)) → (w32 x8 < w32 ((mxN (wkV n wks q) n : Nat) : Int) → aX12_plan T (d + 1) Q X 447 [some (mx_R 99), some (mx_I x1), some (mx_J x2), none, some (mx_I (n : Int)), some (mx_I (wks : Int)), some (mx_I x6), some (mx_I x7), some (mx_I x8), some (mx_I x9), some (mx_I x10), some (mx_I x11), some (mx_I (mxN (wkV n wks q) n : Nat)), some (mx_I (smN (wkV n wks q) n : Nat)), some (mx_I x14)] [] g' (0, 0)) ∧ (¬ (w32 x8 < w32 ((mxN (wkV n wks q) n : Nat) : Int)) → (¬ w32 ((mxN (wkV n wks q) n : Nat) : Int) = w32 x8 → aX12_plan T (d + 1) Q X 394 [some (mx_R 99), some (mx_I x1), some (mx_J x2), none, some (mx_I (n : Int)), some (mx_I (wks : Int)), some (mx_I x6), some (mx_I x7), some (mx_I x8), some (mx_I x9), some (mx_I x10), some (mx_I x11), some (mx_I (mxN (wkV n wks q) n : Nat)), some (mx_I (smN (wkV n wks q) n : Nat)), some (mx_I x14)] [] g' (0, 0)) ∧ (¬ (¬ w32 ((mxN (wkV n wks q) n : Nat) : Int) = w32 x8) → (w32 x9 ≤ w32 ((smN (wkV n wks q) n : Nat) : Int) → aX12_plan T (d + 1) Q X 447 [some (mx_R 99), some (mx_I x1), some (mx_J x2), none, some (mx_I (n : Int)), some (mx_I (wks : Int)), some (mx_I x6), some (mx_I x7), some (mx_I x8), some (mx_I x9), some (mx_I x10), some (mx_I x11), some (mx_I (mxN (wkV n wks q) n : Nat)), some (mx_I (smN (wkV n wks q) n : Nat)), some (mx_I x14)] [] g' (0, 0)) ∧ (¬ (w32 x9 ≤ w32 ((smN (wkV n wks q) n : Nat) : Int)) → aX12_plan T (d + 1) Q X 394 [some (mx_R 99), some (mx_I x1), some (mx_J x2), none, some (mx_I (n : Int)), some (mx_I (wks : Int)), some (mx_I x6), some (mx_I x7), some (mx_I x8), some (mx_I x9), some (mx_I x10), some (mx_I x11), some (mx_I (mxN (wkV n wks q) n : Nat)), some (mx_I (smN (wkV n wks q) n : Nat)), some (mx_I x14)] [] g' (0, 0)))))) : aX12_plan T (d + 1) Q X 309 [some (mx_R 99), some (mx_I x1), some (mx_J x2), none, some (mx_I (n : Int)), some (mx_I (wks : Int)), some (mx_I x6), some (mx_I x7), some (mx_I x8), some (mx_I x9), some (mx_I x10), some (mx_I (q : Int)), some (mx_I 0), some (mx_I 0), some (mx_I ((n : Int) - 1))] [] g (0, 0) := by
  have pw := wk_pow n (by omega) wks (by omega)
  obtain ⟨W, eW⟩ : ∃ W, W = wkV n wks q := ⟨_, rfl⟩
  have wr : ∀ j, j < n → W j ≤ 4 := fun j _ => by rw [eW]; have := wkV_rng (n := n) (wks := wks) (q := q) (d := j) hw.1; omega
  have mono : ∀ a, mxN W a ≤ mxN W (a + 1) := fun a => by show _ ≤ max _ _; omega
  have main : ∀ t : Nat, t ≤ n → ∀ G (last sum : Nat), Ch [165] [] g G → (∀ j, t ≤ j → j < n → G 165 j = (W j : Nat)) → max last (mxN W t) = mxN W n → sum + smN W t = smN W n → last ≤ 4 → sum ≤ 24 → aX12_plan T (d + 1) Q X 309 [some (mx_R 99), some (mx_I x1), some (mx_J x2), none, some (mx_I (n : Int)), some (mx_I (wks : Int)), some (mx_I x6), some (mx_I x7), some (mx_I x8), some (mx_I x9), some (mx_I x10), some (mx_I ((q / wks ^ (n - t) : Nat) : Int)), some (mx_I (last : Int)), some (mx_I (sum : Int)), some (mx_I ((t : Int) - 1))] [] G (0, 0) := by
    intro t
    induction t with
    | zero =>
      intro ht G last sum cG hG hl hs l4 s24
      refine zX12_plan_309 ?_
      have e1 : last = mxN W n := by have : max last 0 = mxN W n := hl; omega
      have e2 : sum = smN W n := by have : sum + 0 = smN W n := hs; omega
      subst e1 e2
      first | with_reducible refine c_lt ?_ ?_ (fun z => ?_) (fun z => ?_) | with_reducible refine c_le ?_ ?_ (fun z => ?_) (fun z => ?_) | with_reducible refine c_eq ?_ ?_ (fun z => ?_) (fun z => ?_) | with_reducible refine c_ne ?_ ?_ (fun z => ?_) (fun z => ?_)
      · omega
      · omega
      · have := k G ((q / wks ^ (n - 0) : Nat) : Int) (((0 : Nat) : Int) - 1) cG (fun j hj => by rw [← eW]; exact hG j (by omega) hj) (by omega)
        rw [← eW] at this
        exact this
      · omega
    | succ t ih =>
      intro ht G last sum cG hG hl hs l4 s24
      have w4 := wr t (by omega)
      refine zX12_plan_309 ?_
      have hle : q / wks ^ (n - (t + 1)) ≤ q := Nat.div_le_self _ _
      obtain ⟨Z, eZ⟩ : ∃ Z, Z = q / wks ^ (n - (t + 1)) := ⟨_, rfl⟩
      rw [← eZ] at hle ⊢
      rw [show ((t + 1 : Nat) : Int) - 1 = (t : Int) by omega]
      first | with_reducible refine c_lt ?_ ?_ (fun z => ?_) (fun z => ?_) | with_reducible refine c_le ?_ ?_ (fun z => ?_) (fun z => ?_) | with_reducible refine c_eq ?_ ?_ (fun z => ?_) (fun z => ?_) | with_reducible refine c_ne ?_ ?_ (fun z => ?_) (fun z => ?_)
      · omega
      · omega
      · omega
      · refine ⟨by rw [w32_of (by omega) (by omega)]; omega, ?_⟩
        have eD : ((1 : Int) + mx_irem (Z : Int) (wks : Int)) = (W t : Nat) := by
          rw [irem_of (by omega) (by omega), ← Int.natCast_emod, eW]
          unfold wkV
          rw [show n - 1 - t = n - (t + 1) by omega, ← eZ]
          omega
        have eQ : mx_idiv (Z : Int) (wks : Int) = ((q / wks ^ (n - t) : Nat) : Int) := by
          rw [idiv_of (by omega) (by omega), ← Int.natCast_ediv, eZ, Nat.div_div_eq_div_mul, show n - t = (n - (t + 1)) + 1 by omega, Nat.pow_succ]
        rw [eD]
        refine s_inN ?_ (fun ea => ?_)
        · omega
        try simp only [ea]
        clear ea
        intro G2 e2
        refine ⟨by rw [w32_of (by omega) (by omega)]; omega, ?_⟩
        refine s_inN ?_ (fun ea => ?_)
        · omega
        try simp only [ea]
        clear ea
        rw [show G2 165 t = (W t : Nat) by rw [e2, up_s]]
        refine sJ9_max (by omega) (by omega) ?_
        refine s_inN ?_ (fun ea => ?_)
        · omega
        try simp only [ea]
        clear ea
        rw [show G2 165 t = (W t : Nat) by rw [e2, up_s], eQ, show (t : Int) + -1 = (t : Int) - 1 by omega, show max (last : Int) ((W t : Nat) : Int) = ((max last (W t) : Nat) : Int) by omega, show (sum : Int) + ((W t : Nat) : Int) = ((sum + W t : Nat) : Int) by omega]
        have hl : max last (max (mxN W t) (W t)) = mxN W n := hl
        have hs : sum + (smN W t + W t) = smN W n := hs
        have sb := smN_le (f := W) (B := 4) n wr
        refine ih (by omega) G2 _ _ (by rw [e2]; exact cG.up (by decide) (by decide)) (fun j h1 h2 => ?_) (by omega) (by omega) (by omega) (by omega)
        rw [e2]
        by_cases y : j = t
        · subst y; rw [up_s]
        · rw [up_i y]; exact hG j (by omega) h2
  have := main n (Nat.le_refl _) g 0 0 (Ch.rf g) (fun j h1 h2 => by omega) (by omega) (by omega) (by omega) (by omega)
  rw [show q / wks ^ (n - n) = q by rw [Nat.sub_self, Nat.pow_zero, Nat.div_one]] at this
  exact this
