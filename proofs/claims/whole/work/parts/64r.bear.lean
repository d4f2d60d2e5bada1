/-! a fall foreseen: the class -/
theorem ES.fl {c g : mz_S} {W : Int} {q n : Nat} {v : Int} (h : ES c W g) (hq : q ∈ [86, 87, 88, 89, 90, 91, 92, 93, 94]) : ES c W (fillS g q n v) := by
  have nq : ∀ p ∈ [1, 3, 4, 5, 6, 7, 8, 39, 46], p ∉ [q] := fun p hp z => by
    rw [List.mem_singleton] at z
    subst z
    revert hq hp
    revert p
    decide
  have hqe : ∀ p ∈ [q], p ∈ esS := fun p hp => by
    rw [List.mem_singleton] at hp
    subst hp
    clear nq
    revert hq
    revert p
    decide
  have c1 : Ch [q] [] g (fillS g q n v) := (Ch.rf g).fill (List.mem_singleton.mpr rfl) (by intro z; subst z; revert hq; decide)
  refine h.st c1 hqe (h.2.1.ch c1 (fun p hp => nq p (by revert hp; revert p; decide))) ?_ (h.2.2.2.fr c1 (fun p hp => nq p (by revert hp; revert p; decide)))
  rw [c1.1 39 (nq 39 (by decide)) (by decide)]
theorem faK_0 {c : mz_S} {m y x : Nat} (h : faH c m y ≤ 0) (hx : x < m) : faK c m y x = false := cnW_0 h x hx
theorem sX4_bear {T : Nat × (Nat → Int32)} {d : Nat} {Q : mz_K} {X : mz_X} {g : mz_S} {c : mz_S} {nt m y : Nat} {al : Nat → List pA} {W : Int} (wlc : WfL0 c) (wb : WfB c) (ie : IE c) (tw : TxW c nt al) (em : c 9 1 = (m : Int)) (hy : y < m) (es : ES c W g) (hW : 0 ≤ W ∧ W < 2147480000) (h14 : g 86 14 = faT c nt al m y) (h91 : ∀ x, x < m → g 91 x = faS c nt al m y x) (k : ∀ g', ES c (W + 1) g' → Ch [39, 45, 46, 47, 92] [] g g' → (∀ x, x < m → g' 92 x = faB c nt al m y x) → Q (faU c nt al m y) g') : zC T (d + 7) 61 [mx_R 86, mx_I (y : Int)] g Q X := by
  have hw := wb.1
  obtain ⟨bS, bM, bT, bH, bP, bB, bU⟩ := fa_bnd (nt := nt) (al := al) wlc wb ie em hy
  refine zX4_bear (sJ7_fill_d0a16_i4 (d := d + 5) ?_)
  have es1 : ES c W (fillS g 92 12 0) := es.fl (by decide)
  have c1 : Ch [39, 45, 46, 47, 92] [] g (fillS g 92 12 0) := (Ch.rf g).fill (by decide) (by decide)
  have z92 : ∀ x, x < 12 → fillS g 92 12 0 92 x = 0 := fun x hx => by rw [fillS_at, if_pos rfl]; exact if_pos hx
  refine sX4_kinOf (d := d + 4) (m := m) (es1.wb wb) (by rw [es1.em, em]) (by omega) (fun v hwv hv => ?_)
  have ev : ∀ i, i < 32 → zb v i = faK c m y i := fun i hi => by
    refine Bool.eq_iff_iff.mpr ((hv i hi).trans ?_)
    unfold faK
    rw [decide_eq_true_iff, es1.1.1 11 (by decide) (by decide), es1.1.1 13 (by decide) (by decide)]
  obtain ⟨n, en, hn, hbits⟩ := zb_set (s := v) 12 (by omega) hwv (fun i hi hi2 => by rw [ev i hi2]; unfold faK; exact decide_eq_false (by omega))
  have hpop : ((popN 12 n : Nat) : Int) = faH c m y := by
    rw [popN_sum]
    have e1 : sumN (fun i => bI (n.testBit i)) 12 = sumN (fun x => if faK c m y x = true then 1 else 0) 12 := sumN_congr (fun i hi => by
      rw [← hbits i, ev i (by omega)]
      rfl)
    rw [e1]
    exact sumN_ext (by omega) (fun x hx => by unfold faK; rw [if_neg (by rw [decide_eq_true_iff]; omega)])
  rw [en]
  refine sJ6_bitCount (d := d + 5) (by omega) ?_
  rw [hpop]
  first | with_reducible refine c_lt ?_ ?_ (fun hz => ?_) (fun hz => ?_) | with_reducible refine c_le ?_ ?_ (fun hz => ?_) (fun hz => ?_) | with_reducible refine c_eq ?_ ?_ (fun hz => ?_) (fun hz => ?_) | with_reducible refine c_ne ?_ ?_ (fun hz => ?_) (fun hz => ?_)
  · omega
  · omega
  · have h14' : fillS g 92 12 0 86 14 = faT c nt al m y := by rw [c1.1 86 (by decide) (by decide), h14]
    rw [h14']
    refine sX3_askG (d := d) (c := c) (nt := nt) (al := al) (s := 6) es1.2.1.1 (es1.wb wb) tw es1.as es1.2.2.2 (by omega) (by omega) (by omega) (by decide) (fun G2 c2 as2 wk2 => ?_)
    have es2 : ES c (W + 1) G2 := es1.st c2 (by decide) (es1.2.1.ch c2 (by decide)) (as2.2.trans es1.as.2.symm) wk2
    have cG2 : Ch [39, 45, 46, 47, 92] [] g G2 := c1.tr (c2.sub (by decide) (fun f hf => hf))
    have wH : w32 (faH c m y) = faH c m y := w32_of (by omega) (by omega)
    have wP : w32 (akF c nt al y y (faT c nt al m y) 0 6) = faP c nt al m y := w32_akF (by decide)
    rw [wH, wP]
    have tp0 : 0 ≤ faT c nt al m y * faP c nt al m y := Int.mul_nonneg bT.1 bP.1
    have tp1 : faT c nt al m y * faP c nt al m y ≤ 240000000000 * 100 := Int.mul_le_mul bT.2 bP.2 bP.1 (by omega)
    have d1 : mx_ldiv (faT c nt al m y * faP c nt al m y) 100 = faT c nt al m y * faP c nt al m y / 100 := by
      rw [ldiv_of (by omega) (by omega) (by omega), Int.tdiv_eq_ediv_of_nonneg tp0]
    have q0 : 0 ≤ faT c nt al m y * faP c nt al m y / 100 := Int.ediv_nonneg tp0 (by omega)
    have q1 : faT c nt al m y * faP c nt al m y / 100 ≤ 240000000000 * 100 := Int.le_trans (Int.ediv_le_self _ tp0) tp1
    have d2 : mx_ldiv (faT c nt al m y * faP c nt al m y / 100) (faH c m y) = faE c nt al m y := by
      rw [ldiv_of (by omega) (by omega) (by omega), Int.tdiv_eq_ediv_of_nonneg q0]
      rfl
    have e0 : 0 ≤ faE c nt al m y := Int.ediv_nonneg q0 bH.1
    have e1 : faE c nt al m y ≤ 240000000000 * 100 := Int.le_trans (Int.ediv_le_self _ q0) q1
    rw [d1, d2]
    refine ⟨by decide, by rw [w64_of (by omega) (by omega)]; omega, ?_⟩
    have main : ∀ b t : Nat, t + b = m → ∀ G, ES c (W + 1) G → Ch [39, 45, 46, 47, 92] [] g G → (∀ x, x < t → G 92 x = faB c nt al m y x) → (∀ x, t ≤ x → x < m → G 92 x = 0) → aX4_bear T (d + 6) Q X 62 [some (mx_R 86), some (mx_I (y : Int)), some (mx_I (n : Int)), some (mx_I (faH c m y)), some (mx_J (faE c nt al m y)), none, some (mx_J (sumN (faB c nt al m y) t)), none, some (mx_I (t : Int))] [] G (0, 0) := by
      intro b
      induction b with
      | zero =>
        intro t ht G esG cG hlo hhi
        refine zX4_bear_62 ?_
        rw [esG.em, em]
        have : t = m := by omega
        subst this
        first | with_reducible refine c_lt ?_ ?_ (fun z => ?_) (fun z => ?_) | with_reducible refine c_le ?_ ?_ (fun z => ?_) (fun z => ?_) | with_reducible refine c_eq ?_ ?_ (fun z => ?_) (fun z => ?_) | with_reducible refine c_ne ?_ ?_ (fun z => ?_) (fun z => ?_)
        · omega
        · omega
        · exact k G esG cG hlo
        · omega
      | succ b ih =>
        intro t ht G esG cG hlo hhi
        have et : sumN (faB c nt al m y) (t + 1) = sumN (faB c nt al m y) t + faB c nt al m y t := rfl
        refine zX4_bear_62 ?_
        rw [esG.em, em]
        first | with_reducible refine c_lt ?_ ?_ (fun z => ?_) (fun z => ?_) | with_reducible refine c_le ?_ ?_ (fun z => ?_) (fun z => ?_) | with_reducible refine c_eq ?_ ?_ (fun z => ?_) (fun z => ?_) | with_reducible refine c_ne ?_ ?_ (fun z => ?_) (fun z => ?_)
        · omega
        · omega
        · omega
        · refine sX11_holds (by omega) ?_
          rw [show zb (n : Int) t = faK c m y t by rw [← en]; exact ev t (by omega)]
          first | with_reducible refine b_eq (fun h1 => ?_) (fun h1 => ?_) | with_reducible refine b_ne (fun h1 => ?_) (fun h1 => ?_)
          · refine zX4_bear_132 ?_
            have b0 : faB c nt al m y t = 0 := by unfold faB; rw [if_neg h1]
            have := ih (t + 1) (by omega) G esG cG (fun x hx => ?_) (fun x hx hx2 => hhi x (by omega) hx2)
            · rw [et, b0, Int.add_zero] at this
              rw [show (t : Int) + 1 = ((t + 1 : Nat) : Int) by omega]
              exact this
            · by_cases e : x = t
              · rw [e, b0]; exact hhi t (Nat.le_refl _) (by omega)
              · exact hlo x (by omega)
          · have o := wb.2.2 (t * 4) (by omega)
            have s := bS t (by omega)
            refine sX0_has (d := d + 5) (by omega) (by omega) ?_
            rw [esG.1.1 14 (by decide) (by decide), show (((t : Int)) * 4 + 0).toNat = t * 4 by omega]
            have w14 : w32 (c 14 (t * 4)) = c 14 (t * 4) := w32_of (by omega) (by omega)
            refine s_inN ?_ (fun ea => ?_)
            · omega
            try simp only [ea]
            clear ea
            rw [cG.1 91 (by decide) (by decide), h91 t (by omega), w14]
            refine sJ9_minL (by omega) (by omega) (sJ9_minL (by omega) (by omega) ?_)
            have eb : min (faE c nt al m y) (min 10000000 (c 14 (t * 4) + faS c nt al m y t)) = faB c nt al m y t := by unfold faB; rw [if_pos h1]
            rw [eb]
            refine s_inN ?_ (fun ea => ?_)
            · omega
            try simp only [ea]
            clear ea
            intro G5 e5
            refine s_inN ?_ (fun ea => ?_)
            · omega
            try simp only [ea]
            clear ea
            refine zX4_bear_132 ?_
            rw [show G5 92 t = faB c nt al m y t by rw [e5, up_s], ← et, show (t : Int) + 1 = ((t + 1 : Nat) : Int) by omega]
            refine ih (t + 1) (by omega) G5 (by rw [e5]; exact esG.up (by decide)) (by rw [e5]; exact cG.up (by decide) (by decide)) (fun x hx => ?_) (fun x hx hx2 => ?_)
            · rw [e5]
              by_cases e : x = t
              · rw [e, up_s]
              · rw [up_i e]; exact hlo x (by omega)
            · rw [e5, up_i (by omega)]; exact hhi x (by omega) hx2
    exact main m 0 (by omega) G2 es2 cG2 (fun x hx => absurd hx (Nat.not_lt_zero x)) (fun x _ hx => by rw [c2.1 92 (by decide) (by decide)]; exact z92 x (by omega))
  · have b0 : ∀ x, x < m → faB c nt al m y x = 0 := fun x hx => by
      unfold faB
      rw [if_neg (by rw [faK_0 (by omega) hx]; decide)]
    have u0 : faU c nt al m y = 0 := sumN_zero (fun x hx => b0 x hx)
    have := k _ (es1.wk (by omega)) c1 (fun x hx => by rw [z92 x (by omega), b0 x hx])
    rw [u0] at this
    exact this
