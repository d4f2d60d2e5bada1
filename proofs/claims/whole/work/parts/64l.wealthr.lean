/-! wealth: the reference -/
theorem sX12_wealthOf {T : Nat × (Nat → Int32)} {d : Nat} {Q : mz_K} {X : mz_X} {g : mz_S} {c : mz_S} {nt m x : Nat} {al : Nat → List pA} {st : Int} (wlc : WfL0 c) (wb : WfB c) (ie : IE c) (tw : TxW c nt al) (rs : RS c nt g) (em : c 9 1 = (m : Int)) (hx : x < m) (k : ∀ g', Ch [130, 131, 132, 133, 168, 169, 172, 173] [50, 54] g g' → Q (weF c nt al m (zb st) x) g') : zC T (d + 9) 318 [mx_R 99, mx_I (x : Int), mx_I st] g Q X := by
  have hw := wb.1
  have wg := ie.1
  refine zX12_wealthOf (sX12_estateOf (d := d + 4) wlc wb rs.1 rs.2.1 (by omega) ?_)
  have main : ∀ n t : Nat, t + n = m → ∀ G o6 o8, Ch [130, 131, 132, 133, 168, 169, 172, 173] [50, 54] g G → aX12_wealthOf T (d + 8) Q X 9 [some (mx_R 99), some (mx_I (x : Int)), some (mx_I st), some (mx_J (dworthC c x + sumN (weT c nt al m (zb st) x) t)), none, some (mx_I (t : Int)), o6, none, o8] [] G (0, 0) := by
    intro n
    induction n with
    | zero =>
      intro t ht G o6 o8 cG
      refine zX12_wealthOf_9 ?_
      rw [cG.2 10 (by decide), rs.2.1.1, em]
      have : t = m := by omega
      subst this
      first | with_reducible refine c_lt ?_ ?_ (fun z => ?_) (fun z => ?_) | with_reducible refine c_le ?_ ?_ (fun z => ?_) (fun z => ?_) | with_reducible refine c_eq ?_ ?_ (fun z => ?_) (fun z => ?_) | with_reducible refine c_ne ?_ ?_ (fun z => ?_) (fun z => ?_)
      · omega
      · omega
      · exact k G cG
      · omega
    | succ n ih =>
      intro t ht G o6 o8 cG
      have es : sumN (weT c nt al m (zb st) x) (t + 1) = sumN (weT c nt al m (zb st) x) t + weT c nt al m (zb st) x t := rfl
      have rsG := rs.fr cG (by decide) (by decide)
      have fin : ∀ v G2 o8, Ch [130, 131, 132, 133, 168, 169, 172, 173] [50, 54] g G2 → v = weT c nt al m (zb st) x t → aX12_wealthOf T (d + 8) Q X 109 [some (mx_R 99), some (mx_I (x : Int)), some (mx_I st), some (mx_J (dworthC c x + sumN (weT c nt al m (zb st) x) t)), none, some (mx_I (t : Int)), some (mx_J v), none, o8] [] G2 (0, 0) := by
        intro v G2 o8 c2 hv
        refine zX12_wealthOf_109 (zX12_wealthOf_114 ?_)
        have := ih (t + 1) (by omega) G2 (some (mx_J v)) o8 c2
        rw [es, ← hv, ← Int.add_assoc] at this
        rw [show (t : Int) + 1 = ((t + 1 : Nat) : Int) by omega]
        exact this
      have bd := debtC_bnd (t := c 10 x) wlc wg (a := t) (b := x) (by omega) (by omega)
      refine zX12_wealthOf_9 ?_
      rw [cG.2 10 (by decide), rs.2.1.1, em]
      first | with_reducible refine c_lt ?_ ?_ (fun z => ?_) (fun z => ?_) | with_reducible refine c_le ?_ ?_ (fun z => ?_) (fun z => ?_) | with_reducible refine c_eq ?_ ?_ (fun z => ?_) (fun z => ?_) | with_reducible refine c_ne ?_ ?_ (fun z => ?_) (fun z => ?_)
      · omega
      · omega
      · omega
      · first | with_reducible refine c_lt ?_ ?_ (fun z2 => ?_) (fun z2 => ?_) | with_reducible refine c_le ?_ ?_ (fun z2 => ?_) (fun z2 => ?_) | with_reducible refine c_eq ?_ ?_ (fun z2 => ?_) (fun z2 => ?_) | with_reducible refine c_ne ?_ ?_ (fun z2 => ?_) (fun z2 => ?_)
        · omega
        · omega
        · refine s_inN ?_ (fun ea => ?_)
          · omega
          try simp only [ea]
          clear ea
          rw [(rsG.2.1.2.1 x (by omega)).1]
          refine sX12_debt (d := d + 4) wlc wg ie.2.1 rsG.1 rsG.2.2.1 (by omega) (by omega) (wb.2.1 x (by omega)).1 ?_
          rw [zb_holds (by omega)]
          refine zt1 (fun hz => ?_) (fun hz => ?_)
          · refine fin _ G _ cG ?_
            unfold weT
            rw [if_neg (by omega), if_neg (fun q => by rw [hz] at q; exact absurd q.1 (by decide))]
          · first | with_reducible refine l_gt ?_ ?_ (fun hp => ?_) (fun hp => ?_) | with_reducible refine l_lt ?_ ?_ (fun hp => ?_) (fun hp => ?_) | with_reducible refine l_ge ?_ ?_ (fun hp => ?_) (fun hp => ?_) | with_reducible refine l_le ?_ ?_ (fun hp => ?_) (fun hp => ?_) | with_reducible refine l_eq ?_ ?_ (fun hp => ?_) (fun hp => ?_) | with_reducible refine l_ne ?_ ?_ (fun hp => ?_) (fun hp => ?_)
            · omega
            · omega
            · refine fin _ G _ cG ?_
              unfold weT
              rw [if_neg (by omega), if_neg (fun q => by have := q.2; omega)]
            · have hs : StP (mx_iand (mx_ixor st (-1)) (mx_ishl 1 (m : Int) - 1)) (fun i => i < m ∧ zb st i = false) := fun i hi => by
                rw [zb_iand, zb_not hi, zb_low m (by omega) i hi, Bool.and_eq_true, decide_eq_true_iff, Bool.not_eq_true']
                exact And.comm
              rw [rsG.2.1.1, em]
              refine sX12_creditors (d := d + 2) wlc wb wg ie.2.1 rsG.1 rsG.2.1 rsG.2.2.1 em (by omega) hs (fun G2 v c2 h168 hv => ?_)
              have rs2 := rsG.fr c2 (by decide) (by decide)
              have mem : ∀ i, zb v i = true ↔ i < m ∧ zb st i = false ∧ 0 < claimC c t i := by
                intro i
                by_cases hi : i < 32
                · rw [hv i hi]
                  constructor
                  · rintro ⟨h1, h2, h3, h4⟩; exact ⟨h1, h3.2, h4⟩
                  · rintro ⟨h1, h2, h4⟩
                    refine ⟨h1, fun e => ?_, ⟨h1, h2⟩, h4⟩
                    rw [e, claim_self ie (by omega)] at h4
                    omega
                · rw [zb_big (by omega)]
                  exact ⟨fun q => absurd q (by decide), fun q => absurd q.1 (by omega)⟩
              have ev : zb v = crB c m (zb st) t := funext (fun i => Bool.eq_iff_iff.mpr ((mem i).trans crB_iff.symm))
              refine sX12_parts (d := d + 1) (c := c) (nt := nt) (m := m) (al := al) wlc wb ie tw rs2 em (by omega) (fun i hi => ?_) (fun G3 c3 h169 => ?_)
              · have h := (mem i).mp hi
                refine ⟨h.1, h.2.2, ((h168 i h.1).1 ⟨fun e => ?_, h.1, h.2.1⟩)⟩
                rw [e, claim_self ie (by omega)] at h
                omega
              · have c4 : Ch [130, 131, 132, 133, 168, 169, 172, 173] [50, 54] g G3 := (cG.tr (c2.sub (by decide) (by decide))).tr (c3.sub (by decide) (by decide))
                have sh : shC c nt al m (zb st) t x = G3 169 x := by
                  rw [h169 x hx, ev]
                  rfl
                have wt : weT c nt al m (zb st) x t = shC c nt al m (zb st) t x := by
                  unfold weT
                  rw [if_neg (by omega), if_pos ⟨hz, by omega⟩]
                rw [zb_holds (by omega)]
                refine zt1 (fun hq => ?_) (fun hq => ?_)
                · refine zX12_wealthOf_107 (fin _ G3 _ c4 ?_)
                  rw [wt]
                  unfold shC
                  rw [shF_out 12 (by rw [← ev]; exact hq)]
                · refine s_inN ?_ (fun ea => ?_)
                  · omega
                  try simp only [ea]
                  clear ea
                  refine zX12_wealthOf_107 (fin _ G3 _ c4 ?_)
                  rw [wt, sh]
        · have := ih (t + 1) (by omega) G o6 o8 cG
          rw [es, show weT c nt al m (zb st) x t = 0 by unfold weT; rw [if_pos (by omega)], Int.add_zero] at this
          refine zX12_wealthOf_114 ?_
          rw [show (t : Int) + 1 = ((t + 1 : Nat) : Int) by omega]
          exact this
  have := main m 0 (by omega) g none none (Ch.rf g)
  rw [show dworthC c x + sumN (weT c nt al m (zb st) x) 0 = dworthC c x from Int.add_zero _] at this
  exact this
