/-! a fall foreseen: the class, whole -/
theorem sumN_mem {f : Nat → Int} {m x : Nat} (h : ∀ x, x < m → 0 ≤ f x) (hx : x < m) : f x ≤ sumN f m := by
  have e2 := sumN_one (f := fun _ => (0 : Int)) (f' := fun y => if y = x then - f x else 0) (b := x) hx (fun y _ hne => if_neg hne)
  have e0 : sumN (fun _ => (0 : Int)) m = 0 := sumN_zero (fun _ _ => rfl)
  have := sumN_pos (f := fun y => f y + (if y = x then - f x else 0)) (n := m) (fun y hy => by
    show 0 ≤ f y + (if y = x then - f x else 0)
    by_cases q : y = x
    · subst q; rw [if_pos rfl]; omega
    · rw [if_neg q]; have := h y hy; omega)
  rw [sumN_add] at this
  simp only [if_pos] at e2
  omega
theorem faA_bnd {c : mz_S} {nt m y : Nat} {al : Nat → List pA} (wl : WfL0 c) (wb : WfB c) (ie : IE c) (em : c 9 1 = (m : Int)) (hy : y < m) : ∀ x, x < m → 0 ≤ faA c nt al m y x ∧ faA c nt al m y x ≤ 120000000 := by
  obtain ⟨bS, bM, bT, bH, bP, bB, bU⟩ := fa_bnd (nt := nt) (al := al) wl wb ie em hy
  intro x hx
  unfold faA
  split
  · rename_i h
    have p := spF_pos (sum := faU c nt al m y) (w := faM c nt al m y) (G := crB c m (dnF c m) y) (m := m) bU.1 (fun x hx _ => (bM x hx).1) h.2
    have s := spF_sum (sum := faU c nt al m y) h.2
    have := sumN_mem p hx
    have := p x hx
    omega
  · omega
theorem crB_out {c : mz_S} {m y x : Nat} {dn : Nat → Bool} (h : m ≤ x) : crB c m dn y x = false := by
  cases q : crB c m dn y x with
  | false => rfl
  | true => exact absurd (crB_iff.mp q).1 (by omega)
theorem sX4_foresee {T : Nat × (Nat → Int32)} {d : Nat} {Q : mz_K} {X : mz_X} {g : mz_S} {c : mz_S} {nt m y : Nat} {al : Nat → List pA} {W : Int} (wlc : WfL0 c) (wb : WfB c) (ie : IE c) (tw : TxW c nt al) (em : c 9 1 = (m : Int)) (hy : y < m) (es : ES c W g) (hW : 0 ≤ W ∧ W < 2147470000) (k : ∀ g', ES c (W + 13) g' → (∀ x, x < m → g' 91 x = faS c nt al m y x ∧ g' 92 x = faB c nt al m y x ∧ g' 93 x = faA c nt al m y x) → g' 86 14 = faT c nt al m y → Q (faN c nt al m y) g') : zC T (d + 8) 60 [mx_R 86, mx_I (y : Int)] g Q X := by
  have hw := wb.1
  obtain ⟨bS, bM, bT, bH, bP, bB, bU⟩ := fa_bnd (nt := nt) (al := al) wlc wb ie em hy
  have bA := faA_bnd (nt := nt) (al := al) wlc wb ie em hy
  refine zX4_foresee ?_
  intro g1 e1
  have es1 : ES c W g1 := by rw [e1]; exact es.up (by decide)
  refine sX4_weigh (d := d) (nt := nt) (m := m) (al := al) wlc wb ie.1 tw em hy es1 (CaE.zero (by rw [e1, up_s])) (by omega) (fun G2 es2 c2 g86 ca2 hz => ?_)
  refine sX4_standing (d := d + 4) (m := m) (es2.wb wb) (by rw [es2.em, em]) (fun sv hsv => ?_)
  have hdn : ∀ x, x < m → zb sv x = !dnF c m x := fun x hx => by
    refine Bool.eq_iff_iff.mpr ((hsv x (by omega)).trans ?_)
    rw [es2.1.1 13 (by decide) (by decide)]
    unfold dnF
    rw [Bool.not_eq_true', decide_eq_false_iff_not]
    constructor
    · rintro ⟨_, h⟩ q; exact q.2 h
    · intro q
      refine ⟨hx, ?_⟩
      exact Classical.byContradiction (fun z => q ⟨hx, z⟩)
  refine sX4_shares (d := d + 3) (nt := nt) (al := al) (dn := dnF c m) wlc wb ie em hy es2 (ca2 y hy hz) hdn (fun G3 v es3 c3 hv h89 h91 h91' => ?_)
  intro G4 e4
  have es4 : ES c (W + 12) G4 := by rw [e4]; exact es3.up (by decide)
  have row : ∀ x, x < m → G2 87 (y * 12 + x) = claimC c y x := fun x hx => (ca2 y hy hz x hx).1
  have loop : ∀ b t : Nat, t + b = 12 → ∀ G, ES c (W + 12) G → (∀ x, x < 12 → G 91 x = G3 91 x) → (∀ x, x < t → G 89 x = faM c nt al m y x) → (∀ x, t ≤ x → x < 12 → G 89 x = G2 87 (y * 12 + x)) → G 86 14 = sumN (faM c nt al m y) t → aX4_foresee T (d + 7) Q X 33 [some (mx_R 86), some (mx_I (y : Int)), some (mx_I v), some (mx_I (t : Int)), none] [] G (0, 0) := by
    intro b
    induction b with
    | zero =>
      intro t ht G esG h91G hlo hhi h14
      have : t = 12 := by omega
      subst this
      refine zX4_foresee_33 ?_
      first | with_reducible refine c_lt ?_ ?_ (fun z => ?_) (fun z => ?_) | with_reducible refine c_le ?_ ?_ (fun z => ?_) (fun z => ?_) | with_reducible refine c_eq ?_ ?_ (fun z => ?_) (fun z => ?_) | with_reducible refine c_ne ?_ ?_ (fun z => ?_) (fun z => ?_)
      · omega
      · omega
      · refine sJ7_fill_d0a16_i2 (d := d + 6) ?_
        have esf : ES c (W + 12) (fillS G 93 12 0) := esG.fl (by decide)
        have cf : Ch [93] [] G (fillS G 93 12 0) := (Ch.rf G).fill (by decide) (by decide)
        have z93 : ∀ x, x < 12 → fillS G 93 12 0 93 x = 0 := fun x hx => by rw [fillS_at, if_pos rfl]; exact if_pos hx
        have eT : sumN (faM c nt al m y) 12 = faT c nt al m y := sumN_ext (by omega) (fun x hx => by unfold faM; rw [if_neg (by rw [crB_out hx]; decide)])
        refine sX4_bear (d := d) wlc wb ie tw em hy esf (by omega) (by rw [cf.1 86 (by decide) (by decide), h14, eT]) (fun x hx => by rw [cf.1 91 (by decide) (by decide), h91G x (by omega), h91 x hx]; rfl) (fun G5 es5 c5 h92 => ?_)
        have c5' : Ch [39, 45, 46, 47, 92, 93] [] G G5 := (cf.sub (by decide) (fun f hf => hf)).tr (c5.sub (by decide) (fun f hf => hf))
        have e89 : G5 89 = G 89 := c5'.1 89 (by decide) (by decide)
        have e91 : G5 91 = G 91 := c5'.1 91 (by decide) (by decide)
        have e86 : G5 86 = G 86 := c5'.1 86 (by decide) (by decide)
        have z93' : ∀ x, x < 12 → G5 93 x = 0 := fun x hx => by rw [c5.1 93 (by decide) (by decide)]; exact z93 x hx
        have eSG : sG (G5 89) (zb v) m = sG (faM c nt al m y) (crB c m (dnF c m) y) m := by
          rw [hv]
          exact sG_cg (fun _ _ => rfl) (fun x hx _ => by rw [e89]; exact hlo x (by omega))
        -- counting
        have cnt : ∀ G6, ES c (W + 13) G6 → (∀ x, x < m → G6 91 x = faS c nt al m y x ∧ G6 92 x = faB c nt al m y x ∧ G6 93 x = faA c nt al m y x) → G6 86 14 = faT c nt al m y → ∀ b t : Nat, t + b = m → aX4_foresee T (d + 7) Q X 119 [some (mx_R 86), some (mx_I (y : Int)), some (mx_I v), some (mx_I (sumN (fun x => (if 0 < faS c nt al m y x then 1 else 0) + (if 0 < faA c nt al m y x then 1 else 0)) t)), some (mx_I (t : Int))] [] G6 (0, 0) := by
          intro G6 es6 h6 h14' b
          induction b with
          | zero =>
            intro t ht
            refine zX4_foresee_119 ?_
            rw [es6.em, em]
            have : t = m := by omega
            subst this
            first | with_reducible refine c_lt ?_ ?_ (fun z3 => ?_) (fun z3 => ?_) | with_reducible refine c_le ?_ ?_ (fun z3 => ?_) (fun z3 => ?_) | with_reducible refine c_eq ?_ ?_ (fun z3 => ?_) (fun z3 => ?_) | with_reducible refine c_ne ?_ ?_ (fun z3 => ?_) (fun z3 => ?_)
            · omega
            · omega
            · exact k G6 es6 h6 h14'
            · omega
          | succ b ihb =>
            intro t ht
            have nx := ihb (t + 1) (by omega)
            have et : sumN (fun x => (if 0 < faS c nt al m y x then (1 : Int) else 0) + (if 0 < faA c nt al m y x then 1 else 0)) (t + 1) = sumN (fun x => (if 0 < faS c nt al m y x then 1 else 0) + (if 0 < faA c nt al m y x then 1 else 0)) t + ((if 0 < faS c nt al m y t then 1 else 0) + (if 0 < faA c nt al m y t then 1 else 0)) := rfl
            rw [et] at nx
            have s := bS t (by omega)
            have a := bA t (by omega)
            have second : ∀ p : Int, (if 0 < faS c nt al m y t then (1 : Int) else 0) = p → aX4_foresee T (d + 7) Q X 149 [some (mx_R 86), some (mx_I (y : Int)), some (mx_I v), some (mx_I (sumN (fun x => (if 0 < faS c nt al m y x then 1 else 0) + (if 0 < faA c nt al m y x then 1 else 0)) t)), some (mx_I (t : Int))] [mx_I p, mx_I (sumN (fun x => (if 0 < faS c nt al m y x then 1 else 0) + (if 0 < faA c nt al m y x then 1 else 0)) t)] G6 (0, 0) := by
              intro p hp
              rw [hp] at nx
              refine zX4_foresee_149 ?_
              refine s_inN ?_ (fun ea => ?_)
              · omega
              try simp only [ea]
              clear ea
              rw [(h6 t (by omega)).2.2]
              first | with_reducible refine l_gt ?_ ?_ (fun q => ?_) (fun q => ?_) | with_reducible refine l_lt ?_ ?_ (fun q => ?_) (fun q => ?_) | with_reducible refine l_ge ?_ ?_ (fun q => ?_) (fun q => ?_) | with_reducible refine l_le ?_ ?_ (fun q => ?_) (fun q => ?_) | with_reducible refine l_eq ?_ ?_ (fun q => ?_) (fun q => ?_) | with_reducible refine l_ne ?_ ?_ (fun q => ?_) (fun q => ?_)
              · omega
              · omega
              · refine zX4_foresee_166 ?_
                rw [if_neg (by omega)] at nx
                rw [show (t : Int) + 1 = ((t + 1 : Nat) : Int) by omega]
                exact nx
              · refine zX4_foresee_166 ?_
                rw [if_pos (by omega)] at nx
                rw [show (t : Int) + 1 = ((t + 1 : Nat) : Int) by omega]
                exact nx
            refine zX4_foresee_119 ?_
            rw [es6.em, em]
            first | with_reducible refine c_lt ?_ ?_ (fun z3 => ?_) (fun z3 => ?_) | with_reducible refine c_le ?_ ?_ (fun z3 => ?_) (fun z3 => ?_) | with_reducible refine c_eq ?_ ?_ (fun z3 => ?_) (fun z3 => ?_) | with_reducible refine c_ne ?_ ?_ (fun z3 => ?_) (fun z3 => ?_)
            · omega
            · omega
            · omega
            · refine s_inN ?_ (fun ea => ?_)
              · omega
              try simp only [ea]
              clear ea
              rw [(h6 t (by omega)).1]
              first | with_reducible refine l_gt ?_ ?_ (fun q => ?_) (fun q => ?_) | with_reducible refine l_lt ?_ ?_ (fun q => ?_) (fun q => ?_) | with_reducible refine l_ge ?_ ?_ (fun q => ?_) (fun q => ?_) | with_reducible refine l_le ?_ ?_ (fun q => ?_) (fun q => ?_) | with_reducible refine l_eq ?_ ?_ (fun q => ?_) (fun q => ?_) | with_reducible refine l_ne ?_ ?_ (fun q => ?_) (fun q => ?_)
              · omega
              · omega
              · exact second 0 (if_neg (by omega))
              · exact second 1 (if_pos (by omega))
        refine sX4_split (d := d + 4) (m := m) (by rw [es5.em, em]) (by omega) (by omega) (fun x hx hzx => by rw [e89, hlo x (by omega)]; have := bM x hx; omega) (fun hle => ?_) (fun hpos G6 c6 h93 => ?_)
        · refine cnt G5 (es5.wk (by omega)) (fun x hx => ⟨by rw [e91, h91G x (by omega), h91 x hx]; rfl, h92 x hx, ?_⟩) (by rw [e86, h14, eT]) m 0 (by omega)
          rw [z93' x (by omega)]
          unfold faA
          rw [if_neg (fun q => by rw [eSG] at hle; have := q.2; omega)]
        · have es6 : ES c (W + 13) G6 := (es5.st (W' := W + 12 + 1) c6 (by decide) (es5.2.1.ch c6 (by decide)) (by rw [c6.1 39 (by decide) (by decide)]) (es5.2.2.2.fr c6 (by decide))).wk (by omega)
          refine cnt G6 es6 (fun x hx => ⟨by rw [c6.1 91 (by decide) (by decide), e91, h91G x (by omega), h91 x hx]; rfl, by rw [c6.1 92 (by decide) (by decide)]; exact h92 x hx, ?_⟩) (by rw [c6.1 86 (by decide) (by decide), e86, h14, eT]) m 0 (by omega)
          unfold faA
          by_cases q : crB c m (dnF c m) y x = true
          · rw [(h93 x).1 ⟨hx, by rw [hv]; exact q⟩, if_pos ⟨q, by rw [← eSG]; exact hpos⟩, hv]
            exact spF_cg (fun _ _ => rfl) (fun x hx _ => by rw [e89]; exact hlo x (by omega)) x hx
          · rw [(h93 x).2 (fun r => q (by rw [← hv]; exact r.2)), if_neg (fun r => q r.1)]
            exact z93' x (by omega)
      · omega
    | succ b ih =>
      intro t ht G esG h91G hlo hhi h14
      have et : sumN (faM c nt al m y) (t + 1) = sumN (faM c nt al m y) t + faM c nt al m y t := rfl
      have put : ∀ w, w = faM c nt al m y t → aX4_foresee T (d + 7) Q X 69 [some (mx_R 86), some (mx_I (y : Int)), some (mx_I v), some (mx_I (t : Int)), none] [mx_J w, mx_I (t : Int), mx_R 89] G (0, 0) := by
        intro w hw'
        refine zX4_foresee_69 ?_
        refine s_inN ?_ (fun ea => ?_)
        · omega
        try simp only [ea]
        clear ea
        intro G5 e5
        refine s_inN ?_ (fun ea => ?_)
        · omega
        try simp only [ea]
        clear ea
        intro G6 e6
        rw [show (t : Int) + 1 = ((t + 1 : Nat) : Int) by omega]
        refine ih (t + 1) (by omega) G6 (by rw [e6, e5]; exact (esG.up (by decide)).up (by decide)) (fun x hx => by rw [e6, up_q (by decide), e5, up_q (by decide)]; exact h91G x hx) (fun x hx => ?_) (fun x hx hx2 => ?_) ?_
        · rw [e6, up_q (by decide), e5]
          by_cases e : x = t
          · rw [e, up_s]; exact hw'
          · rw [up_i e]; exact hlo x (by omega)
        · rw [e6, up_q (by decide), e5, up_i (by omega)]; exact hhi x (by omega) hx2
        · rw [e6, up_s, e5, up_s, up_q (by decide), h14, et, hw']
      refine zX4_foresee_33 ?_
      first | with_reducible refine c_lt ?_ ?_ (fun z => ?_) (fun z => ?_) | with_reducible refine c_le ?_ ?_ (fun z => ?_) (fun z => ?_) | with_reducible refine c_eq ?_ ?_ (fun z => ?_) (fun z => ?_) | with_reducible refine c_ne ?_ ?_ (fun z => ?_) (fun z => ?_)
      · omega
      · omega
      · omega
      · refine sX11_holds (by omega) ?_
        rw [hv]
        first | with_reducible refine b_eq (fun h1 => ?_) (fun h1 => ?_) | with_reducible refine b_ne (fun h1 => ?_) (fun h1 => ?_)
        · exact put 0 (by unfold faM; rw [if_neg h1])
        · refine s_inN ?_ (fun ea => ?_)
          · omega
          try simp only [ea]
          clear ea
          refine s_inN ?_ (fun ea => ?_)
          · omega
          try simp only [ea]
          clear ea
          have ht' := (crB_iff.mp h1).1
          refine put _ ?_
          rw [hhi t (Nat.le_refl _) (by omega), h91G t (by omega), row t ht', h91 t ht']
          unfold faM
          rw [if_pos h1]
          rfl
  rw [show (0 : Int) = ((0 : Nat) : Int) from rfl]
  exact loop 12 0 (by omega) G4 es4 (fun x _ => by rw [e4, up_q (by decide)]) (fun x hx => absurd hx (Nat.not_lt_zero x)) (fun x _ hx => by rw [e4, up_q (by decide)]; exact h89 x hx) (by rw [e4, up_s]; rfl)
