/-! wealth: the class -/
theorem claim_le {c : mz_S} (wl : WfL0 c) (w : IE c) {a b : Nat} (ha : a < 12) (hb : b < 12) : 0 ≤ claimC c a b ∧ claimC c a b ≤ 20000000000 := by
  have h15 := w.1.1
  have h : ∀ co : Nat, co < 4 → worthC c (netC c a b co) co (c 10 a) ≤ (if co = 0 then 16400000000 else 400000000) := by
    intro co hco
    have n := w.2.2.2.1 a b co ha hb hco
    unfold nbB at n
    by_cases z : co = 0
    · rw [if_pos z]
      have := worthC_bnd (c := (co : Int)) (t := c 10 a) wl (n := netC c a b co) (B := 1640000000) (by omega) (by split at n <;> omega)
      omega
    · rw [if_neg z]
      rw [if_neg (fun q => z q.1)] at n
      have := worthC_bnd (c := (co : Int)) (t := c 10 a) wl (n := netC c a b co) (B := 40000000) (by omega) (by omega)
      omega
  have h0 := h 0 (by omega)
  have h1 := h 1 (by omega)
  have h2 := h 2 (by omega)
  have h3 := h 3 (by omega)
  simp only [if_pos, if_neg (show ¬ (1 : Nat) = 0 by decide), if_neg (show ¬ (2 : Nat) = 0 by decide), if_neg (show ¬ (3 : Nat) = 0 by decide)] at h0 h1 h2 h3
  unfold claimC debtC
  rw [sum4]
  omega
/-- who may claim: those of dn are down -/
def crB (c : mz_S) (m : Nat) (dn : Nat → Bool) (y x : Nat) : Bool := decide (x < m) && (!dn x && decide (0 < claimC c y x))
theorem crB_iff {c : mz_S} {m : Nat} {dn : Nat → Bool} {y x : Nat} : crB c m dn y x = true ↔ x < m ∧ dn x = false ∧ 0 < claimC c y x := by
  unfold crB
  rw [Bool.and_eq_true, Bool.and_eq_true, decide_eq_true_iff, decide_eq_true_iff, Bool.not_eq_true']
def shC (c : mz_S) (nt : Nat) (al : Nat → List pA) (m : Nat) (dn : Nat → Bool) (y : Nat) : Nat → Int := shF (claimC c y) (rkF c nt al y) m 12 (dworthC c y) (crB c m dn y)
def weT (c : mz_S) (nt : Nat) (al : Nat → List pA) (m : Nat) (dn : Nat → Bool) (x y : Nat) : Int := if y = x then 0 else if dn y = true ∧ 0 < debtC c y x (c 10 x) then shC c nt al m dn y x else debtC c y x (c 10 x)
def weF (c : mz_S) (nt : Nat) (al : Nat → List pA) (m : Nat) (dn : Nat → Bool) (x : Nat) : Int := dworthC c x + sumN (weT c nt al m dn x) m
/-- one debtor's shares -/
theorem sX4_shares {T : Nat × (Nat → Int32)} {d : Nat} {Q : mz_K} {X : mz_X} {g : mz_S} {c : mz_S} {nt m y : Nat} {al : Nat → List pA} {W am : Int} {dn : Nat → Bool} (wlc : WfL0 c) (wb : WfB c) (ie : IE c) (em : c 9 1 = (m : Int)) (hy : y < m) (es : ES c W g) (kr : KaR c nt al m g y) (hdn : ∀ x, x < m → zb am x = !dn x) (k : ∀ g' v, ES c W g' → Ch [8, 89, 90, 91] [] g g' → zb v = crB c m dn y → (∀ x, x < 12 → g' 89 x = g 87 (y * 12 + x)) → (∀ x, x < m → g' 91 x = shC c nt al m dn y x) → (∀ x, m ≤ x → x < 12 → g' 91 x = 0) → Q v g') : zC T (d + 4) 54 [mx_R 86, mx_I (y : Int), mx_I am] g (fun r g2 => zC T (d + 4) 55 [mx_R 86, mx_I (y : Int), mx_I r] g2 (fun _ g3 => Q r g3) X) X := by
  have hw := wb.1
  have emG : g 9 1 = (m : Int) := by rw [es.em, em]
  have bn : ∀ x, x < m → 0 ≤ claimC c y x ∧ claimC c y x ≤ 20000000000 := fun x hx => claim_le wlc ie (by omega) (by omega)
  refine sX4_creditorsOf (d := d + 2) emG (by omega) (by omega) (fun x hx => by rw [(kr x hx).1]; have := bn x hx; omega) (fun v hv => ?_)
  have ev : zb v = crB c m dn y := by
    funext i
    refine Bool.eq_iff_iff.mpr ?_
    rw [crB_iff]
    by_cases hi : i < 32
    · rw [hv i hi]
      constructor
      · rintro ⟨h1, h2, h3⟩
        rw [(kr i h1).1] at h3
        rw [hdn i h1] at h2
        exact ⟨h1, by simpa using h2, h3⟩
      · rintro ⟨h1, h2, h3⟩
        exact ⟨h1, by rw [hdn i h1, h2]; rfl, by rw [(kr i h1).1]; exact h3⟩
    · rw [zb_big (by omega)]
      exact ⟨fun q => absurd q (by decide), fun q => absurd q.1 (by omega)⟩
  have mem : ∀ x, zb v x = true → x < m ∧ dn x = false ∧ 0 < claimC c y x := fun x hx => by rw [ev] at hx; exact crB_iff.mp hx
  refine sX4_shareOut (d := d) es.2.1 (es.wb wb) emG (by omega) (fun x hx hz => by rw [(kr x hx).1]; have := bn x hx; have := (mem x hz).2.2; omega) (fun x hz => (mem x hz).1) (fun G cG wlG h89 h91 h91' => ?_)
  refine k G v (es.st cG (by decide) wlG (by rw [cG.1 39 (by decide) (by decide)]) (es.2.2.2.fr cG (by decide))) cG ev h89 (fun x hx => ?_) h91'
  rw [h91 x hx, ev, es.dw]
  exact shF_cg 12 (fun _ _ => rfl) (fun x hx hz => ⟨(kr x hx).1, (kr x hx).2 (crB_iff.mp hz).2.2⟩) x hx
theorem sX4_measureWealth {T : Nat × (Nat → Int32)} {d : Nat} {Q : mz_K} {X : mz_X} {g : mz_S} {c : mz_S} {nt m : Nat} {al : Nat → List pA} {W D : Int} (wlc : WfL0 c) (wb : WfB c) (ie : IE c) (tw : TxW c nt al) (em : c 9 1 = (m : Int)) (es : ES c W g) (ca : CaE c nt al m g) (hD : g 86 15 = D) (hW : 0 ≤ W ∧ W < 2147480000) (k : ∀ g', ES c (W + 144) g' → CaE c nt al m g' → (∀ f, f ≠ 5 → g' 86 f = g 86 f) → (∀ x, x < m → g' 94 x = weF c nt al m (zb D) x) → Q 0 g') : zC T (d + 8) 67 [mx_R 86] g Q X := by
  have hw := wb.1
  have wg := ie.1
  refine zX4_measureWealth ?_
  -- debtors
  have outer : ∀ n t : Nat, t + n = m → ∀ G o2 o3 o4, ES c (W + 12 * (t : Int)) G → CaE c nt al m G → (∀ f, f ≠ 5 → G 86 f = g 86 f) → (∀ x, x < m → G 94 x = dworthC c x + sumN (weT c nt al m (zb D) x) t) → aX4_measureWealth T (d + 7) Q X 35 [some (mx_R 86), some (mx_I (t : Int)), o2, o3, o4, none] [] G (0, 0) := by
    intro n
    induction n with
    | zero =>
      intro t ht G o2 o3 o4 esG caG h86 h94
      refine zX4_measureWealth_35 ?_
      rw [esG.em, em]
      have : t = m := by omega
      subst this
      first | with_reducible refine c_lt ?_ ?_ (fun z => ?_) (fun z => ?_) | with_reducible refine c_le ?_ ?_ (fun z => ?_) (fun z => ?_) | with_reducible refine c_eq ?_ ?_ (fun z => ?_) (fun z => ?_) | with_reducible refine c_ne ?_ ?_ (fun z => ?_) (fun z => ?_)
      · omega
      · omega
      · exact k G (esG.wk (by omega)) caG h86 h94
      · omega
    | succ n ih =>
      intro t ht G o2 o3 o4 esG caG h86 h94
      have inner : ∀ b s : Nat, s + b = m → ∀ G2 o4, ES c (W + 12 * ((t + 1 : Nat) : Int)) G2 → CaE c nt al m G2 → (∀ f, f ≠ 5 → G2 86 f = g 86 f) → (zb D t = true → ∀ x, x < m → G2 91 x = shC c nt al m (zb D) t x) → (∀ x, x < s → G2 94 x = dworthC c x + sumN (weT c nt al m (zb D) x) (t + 1)) → (∀ x, s ≤ x → x < m → G2 94 x = dworthC c x + sumN (weT c nt al m (zb D) x) t) → aX4_measureWealth T (d + 7) Q X 82 [some (mx_R 86), some (mx_I (t : Int)), some (mx_I (pI (zb D t = true))), some (mx_I (s : Int)), o4, none] [] G2 (0, 0) := by
        intro b
        induction b with
        | zero =>
          intro s hs G2 o4 es2 ca2 f86 hsh hlo hhi
          refine zX4_measureWealth_82 ?_
          rw [es2.em, em]
          first | with_reducible refine c_lt ?_ ?_ (fun z => ?_) (fun z => ?_) | with_reducible refine c_le ?_ ?_ (fun z => ?_) (fun z => ?_) | with_reducible refine c_eq ?_ ?_ (fun z => ?_) (fun z => ?_) | with_reducible refine c_ne ?_ ?_ (fun z => ?_) (fun z => ?_)
          · omega
          · omega
          · rw [show (t : Int) + 1 = ((t + 1 : Nat) : Int) by omega]
            exact ih (t + 1) (by omega) G2 _ _ _ es2 ca2 f86 (fun x hx => hlo x (by omega))
          · omega
        | succ b ihb =>
          intro s hs G2 o4 es2 ca2 f86 hsh hlo hhi
          have fin : ∀ v G3, ES c (W + 12 * ((t + 1 : Nat) : Int)) G3 → CaE c nt al m G3 → (∀ f, f ≠ 5 → G3 86 f = g 86 f) → G3 91 = G2 91 → G3 94 = G2 94 → v = weT c nt al m (zb D) s t → ∀ x4, aX4_measureWealth T (d + 7) Q X 151 [some (mx_R 86), some (mx_I (t : Int)), some (mx_I (pI (zb D t = true))), some (mx_I (s : Int)), some (mx_J x4), none] [mx_J v, mx_J (G3 94 s), mx_I (s : Int), mx_R 94] G3 (0, 0) := by
            intro v G3 es3 ca3 h3 e91 e94 hv x4
            refine zX4_measureWealth_151 ?_
            refine s_inN ?_ (fun ea => ?_)
            · omega
            try simp only [ea]
            clear ea
            intro G4 e4
            rw [show (s : Int) + 1 = ((s + 1 : Nat) : Int) by omega]
            refine ihb (s + 1) (by omega) G4 _ (by rw [e4]; exact es3.up (by decide)) (fun z hz hb => ?_) (fun f hf => by rw [e4, up_q (by decide)]; exact h3 f hf) (fun hz x hx => by rw [e4, up_q (by decide), e91]; exact hsh hz x hx) (fun x hx => ?_) (fun x hx hx2 => ?_)
            · have q86 : G4 86 5 = G3 86 5 := by rw [e4, up_q (by decide)]
              rw [q86] at hb
              intro x hx
              have := ca3 z hz hb x hx
              rw [e4, up_q (by decide), up_q (by decide)]
              exact this
            · rw [e4]
              by_cases e : x = s
              · rw [e, up_s, hv, e94, hhi s (Nat.le_refl _) (by omega)]
                show _ = dworthC c s + (sumN (weT c nt al m (zb D) s) t + weT c nt al m (zb D) s t)
                omega
              · rw [up_i e, e94]; exact hlo x (by omega)
            · rw [e4, up_i (by omega), e94]; exact hhi x (by omega) hx2
          have bd := debtC_bnd (t := c 10 s) wlc wg (a := t) (b := s) (by omega) (by omega)
          have mid : ∀ w G3, ES c (W + 12 * ((t + 1 : Nat) : Int)) G3 → CaE c nt al m G3 → (∀ f, f ≠ 5 → G3 86 f = g 86 f) → G3 91 = G2 91 → G3 94 = G2 94 → (t = s → w = 0) → (t ≠ s → w = debtC c t s (c 10 s)) → aX4_measureWealth T (d + 7) Q X 120 [some (mx_R 86), some (mx_I (t : Int)), some (mx_I (pI (zb D t = true))), some (mx_I (s : Int)), o4, none] [mx_J w] G3 (0, 0) := by
            intro w G3 es3 ca3 h3 e91 e94 w0 w1
            have rw' : R64 w := by
              by_cases q : t = s
              · rw [w0 q]; omega
              · rw [w1 q]; omega
            refine zX4_measureWealth_120 ?_
            refine s_inN ?_ (fun ea => ?_)
            · omega
            try simp only [ea]
            clear ea
            first | with_reducible refine b_eq (fun hd => ?_) (fun hd => ?_) | with_reducible refine b_ne (fun hd => ?_) (fun hd => ?_)
            · refine zX4_measureWealth_149 (fin w G3 es3 ca3 h3 e91 e94 ?_ w)
              unfold weT
              by_cases q : t = s
              · rw [if_pos q, w0 q]
              · rw [if_neg q, if_neg (fun z => hd z.1), w1 q]
            · first | with_reducible refine l_gt ?_ ?_ (fun h2 => ?_) (fun h2 => ?_) | with_reducible refine l_lt ?_ ?_ (fun h2 => ?_) (fun h2 => ?_) | with_reducible refine l_ge ?_ ?_ (fun h2 => ?_) (fun h2 => ?_) | with_reducible refine l_le ?_ ?_ (fun h2 => ?_) (fun h2 => ?_) | with_reducible refine l_eq ?_ ?_ (fun h2 => ?_) (fun h2 => ?_) | with_reducible refine l_ne ?_ ?_ (fun h2 => ?_) (fun h2 => ?_)
              · omega
              · omega
              · refine zX4_measureWealth_149 (fin w G3 es3 ca3 h3 e91 e94 ?_ w)
                unfold weT
                by_cases q : t = s
                · rw [if_pos q, w0 q]
                · rw [if_neg q, if_neg (fun z => by have := w1 q; have := z.2; omega), w1 q]
              · refine s_inN ?_ (fun ea => ?_)
                · omega
                try simp only [ea]
                clear ea
                refine fin _ G3 es3 ca3 h3 e91 e94 ?_ w
                unfold weT
                by_cases q : t = s
                · have := w0 q; omega
                · rw [if_neg q, if_pos ⟨hd, by have := w1 q; omega⟩, e91]
                  exact hsh hd s (by omega)
          refine zX4_measureWealth_82 ?_
          rw [es2.em, em]
          first | with_reducible refine c_lt ?_ ?_ (fun z => ?_) (fun z => ?_) | with_reducible refine c_le ?_ ?_ (fun z => ?_) (fun z => ?_) | with_reducible refine c_eq ?_ ?_ (fun z => ?_) (fun z => ?_) | with_reducible refine c_ne ?_ ?_ (fun z => ?_) (fun z => ?_)
          · omega
          · omega
          · omega
          · first | with_reducible refine c_lt ?_ ?_ (fun z2 => ?_) (fun z2 => ?_) | with_reducible refine c_le ?_ ?_ (fun z2 => ?_) (fun z2 => ?_) | with_reducible refine c_eq ?_ ?_ (fun z2 => ?_) (fun z2 => ?_) | with_reducible refine c_ne ?_ ?_ (fun z2 => ?_) (fun z2 => ?_)
            · omega
            · omega
            · have rs := wb.2.1 s (by omega)
              refine s_inN ?_ (fun ea => ?_)
              · omega
              try simp only [ea]
              clear ea
              refine sX6_netWorth (d := d + 4) es2.2.1 (es2.wg wg) (by omega) (by omega) (by rw [es2.1.1 10 (by decide) (by decide)]; omega) (fun G3 s3 wl3 => ?_)
              rw [debtC_ch es2.1 (by decide), es2.1.1 10 (by decide) (by decide)]
              refine mid _ G3 (es2.sm s3 wl3) (fun z hz hb => ?_) (fun f hf => by rw [s3 86 (by decide)]; exact f86 f hf) (s3 91 (by decide)) (s3 94 (by decide)) (fun q => absurd (by omega) z2) (fun _ => rfl)
              rw [s3 86 (by decide)] at hb
              intro x hx
              rw [s3 87 (by decide), s3 88 (by decide)]
              exact ca2 z hz hb x hx
            · exact mid 0 G2 es2 ca2 f86 rfl rfl (fun _ => rfl) (fun q => absurd (by omega) q)
      refine zX4_measureWealth_35 ?_
      rw [esG.em, em]
      first | with_reducible refine c_lt ?_ ?_ (fun z => ?_) (fun z => ?_) | with_reducible refine c_le ?_ ?_ (fun z => ?_) (fun z => ?_) | with_reducible refine c_eq ?_ ?_ (fun z => ?_) (fun z => ?_) | with_reducible refine c_ne ?_ ?_ (fun z => ?_) (fun z => ?_)
      · omega
      · omega
      · omega
      · have e15 : G 86 15 = D := by rw [h86 15 (by decide), hD]
        rw [e15]
        refine sX11_holds (by omega) ?_
        first | with_reducible refine b_eq (fun h => ?_) (fun h => ?_) | with_reducible refine b_ne (fun h => ?_) (fun h => ?_)
        · refine zX4_measureWealth_80 ?_
          rw [show (0 : Int) = ((0 : Nat) : Int) from rfl]
          exact inner m 0 (by omega) G _ (esG.wk (by omega)) caG h86 (fun z => absurd z h) (fun x hx => absurd hx (Nat.not_lt_zero x)) (fun x _ hx => h94 x hx)
        · refine sX4_weigh (d := d) wlc wb wg tw em (by omega) esG caG (by omega) (fun G2 es2 c2 g86 ca2 hz => ?_)
          have e152 : G2 86 15 = D := by rw [g86 15 (by decide), e15]
          rw [e152]
          refine sX4_shares (d := d + 3) (dn := zb D) wlc wb ie em (by omega) es2 (ca2 t (by omega) hz) (fun x hx => zb_not (by omega)) (fun G3 v es3 c3 hv h89 h91 h91' => ?_)
          refine zX4_measureWealth_80 ?_
          rw [show (0 : Int) = ((0 : Nat) : Int) from rfl]
          refine inner m 0 (by omega) G3 _ (es3.wk (by omega)) (fun z hz hb => ?_) (fun f hf => ?_) (fun _ => h91) (fun x hx => absurd hx (Nat.not_lt_zero x)) (fun x _ hx => ?_)
          · rw [c3.1 86 (by decide) (by decide)] at hb
            intro x hx
            rw [c3.1 87 (by decide) (by decide), c3.1 88 (by decide) (by decide)]
            exact ca2 z hz hb x hx
          · rw [c3.1 86 (by decide) (by decide), g86 f hf]; exact h86 f hf
          · rw [c3.1 94 (by decide) (by decide), c2.1 94 (by decide) (by decide)]; exact h94 x hx
  have first : ∀ n t : Nat, t + n = m → ∀ G, ES c W G → CaE c nt al m G → (∀ f, G 86 f = g 86 f) → (∀ x, x < t → G 94 x = dworthC c x) → aX4_measureWealth T (d + 7) Q X 2 [some (mx_R 86), some (mx_I (t : Int)), none, none, none, none] [] G (0, 0) := by
    intro n
    induction n with
    | zero =>
      intro t ht G esG caG h86 h94
      refine zX4_measureWealth_2 ?_
      rw [esG.em, em]
      have : t = m := by omega
      subst this
      first | with_reducible refine c_lt ?_ ?_ (fun z => ?_) (fun z => ?_) | with_reducible refine c_le ?_ ?_ (fun z => ?_) (fun z => ?_) | with_reducible refine c_eq ?_ ?_ (fun z => ?_) (fun z => ?_) | with_reducible refine c_ne ?_ ?_ (fun z => ?_) (fun z => ?_)
      · omega
      · omega
      · rw [show (0 : Int) = ((0 : Nat) : Int) from rfl]
        exact outer t 0 (by omega) G none none none (esG.wk (by omega)) caG (fun f _ => h86 f) (fun x hx => by rw [h94 x hx]; show _ = _ + 0; omega)
      · omega
    | succ n ih =>
      intro t ht G esG caG h86 h94
      refine zX4_measureWealth_2 ?_
      rw [esG.em, em]
      first | with_reducible refine c_lt ?_ ?_ (fun z => ?_) (fun z => ?_) | with_reducible refine c_le ?_ ?_ (fun z => ?_) (fun z => ?_) | with_reducible refine c_eq ?_ ?_ (fun z => ?_) (fun z => ?_) | with_reducible refine c_ne ?_ ?_ (fun z => ?_) (fun z => ?_)
      · omega
      · omega
      · omega
      · refine sX0_drawerWorth (d := d + 4) esG.2.1 (esG.wb wb) (by omega) (fun G2 s2 wl2 => ?_)
        rw [esG.dw]
        refine s_inN ?_ (fun ea => ?_)
        · omega
        try simp only [ea]
        clear ea
        intro G3 e3
        rw [show (t : Int) + 1 = ((t + 1 : Nat) : Int) by omega]
        have es3 : ES c W G3 := by rw [e3]; exact (esG.sm s2 wl2).up (by decide)
        have q : ∀ p, p ≠ 94 → p ≠ 8 → G3 p = G p := fun p hp hp8 => by
          funext j
          rw [e3, up_q hp, s2 p hp8]
        refine ih (t + 1) (by omega) G3 es3 (fun z hz hb => ?_) (fun f => by rw [q 86 (by decide) (by decide)]; exact h86 f) (fun x hx => ?_)
        · rw [q 86 (by decide) (by decide)] at hb
          intro x hx
          rw [q 87 (by decide) (by decide), q 88 (by decide) (by decide)]
          exact caG z hz hb x hx
        · rw [e3]
          by_cases e : x = t
          · rw [e, up_s]
          · rw [up_i e, s2 94 (by decide)]; exact h94 x (by omega)
  rw [show (0 : Int) = ((0 : Nat) : Int) from rfl]
  exact first m 0 (by omega) g es ca (fun _ => rfl) (fun x hx => absurd hx (Nat.not_lt_zero x))
