/-! shares: the reference -/
def RS (c : mz_S) (nt : Nat) (g : mz_S) : Prop := ReL c g ∧ ReB c g ∧ ReE c g ∧ g 99 36 = (nt : Int) ∧ ∀ q ∈ [120, 121, 122, 123, 124, 125, 126, 127, 128, 129], g q = c q
theorem RS.fr {S F : List Nat} {c g g' : mz_S} {nt : Nat} (w : RS c nt g) (h : Ch S F g g') (hS : ∀ q ∈ [101, 102, 103, 104, 105, 106, 107, 108, 109, 110, 111, 112, 113, 114, 115, 116, 117, 120, 121, 122, 123, 124, 125, 126, 127, 128, 129], q ∉ S) (hF : ∀ f ∈ [1, 2, 3, 10, 16, 36], f ∉ F) : RS c nt g' :=
  ⟨w.1.fr h (fun q hq => hS q (by revert hq; revert q; decide)) (fun f hf => hF f (by revert hf; revert f; decide)), w.2.1.fr h (fun q hq => hS q (by revert hq; revert q; decide)) (fun f hf => hF f (by revert hf; revert f; decide)), w.2.2.1.fr h (fun q hq => hS q (by revert hq; revert q; decide)) (fun f hf => hF f (by revert hf; revert f; decide)), (h.2 36 (hF 36 (by decide))).trans w.2.2.2.1, fun q hq => (h.1 q (hS q (by revert hq; revert q; decide)) (by intro z; subst z; revert hq; decide)).trans (w.2.2.2.2 q hq)⟩
theorem sX12_parts {T : Nat × (Nat → Int32)} {d : Nat} {Q : mz_K} {X : mz_X} {g : mz_S} {c : mz_S} {nt m y : Nat} {al : Nat → List pA} {st : Int} (wlc : WfL0 c) (wb : WfB c) (ie : IE c) (tw : TxW c nt al) (rs : RS c nt g) (em : c 9 1 = (m : Int)) (hy : y < m) (hst : ∀ x, zb st x = true → x < m ∧ 0 < claimC c y x ∧ g 168 x = claimC c y x) (k : ∀ g', Ch [130, 131, 132, 133, 169, 172, 173] [50, 54] g g' → (∀ x, x < m → g' 169 x = shF (claimC c y) (rkF c nt al y) m 12 (dworthC c y) (zb st) x) → Q 0 g') : zC T (d + 7) 312 [mx_R 99, mx_I (y : Int), mx_I st] g Q X := by
  have hw := wb.1
  have bdw := dworthC_bnd wlc wb (show y < 12 by omega)
  have ecl : ∀ x, x < m → 0 ≤ claimC c y x ∧ claimC c y x ≤ 20000000000 := fun x hx => claim_le wlc ie (by omega) (by omega)
  refine zX12_parts (sX12_estateOf (d := d + 2) wlc wb rs.1 rs.2.1 (by omega) ?_)
  obtain ⟨due, hdue⟩ : ∃ due, due = claimC c y := ⟨_, rfl⟩
  obtain ⟨rk, hrk⟩ : ∃ rk, rk = rkF c nt al y := ⟨_, rfl⟩
  rw [← hdue, ← hrk] at k
  have hd : ∀ x, zb st x = true → x < m ∧ 0 < due x ∧ due x ≤ 20000000000 := fun x hx => by
    have h1 := hst x hx
    have h2 := ecl x h1.1
    rw [hdue]
    exact ⟨h1.1, h1.2.1, h2.2⟩
  -- the groups
  have rounds : ∀ n : Nat, ∀ G left wt o6 o7 o9 o11, Ch [130, 131, 132, 133, 169, 172, 173] [50, 54] g G → (∀ x, zb st x = true → w64 (G 172 x) = rk x) → (0 ≤ left ∧ left ≤ 400000000) → (∀ x, zb wt x = true → zb st x = true) → cnW (zb wt) m ≤ (n : Int) → (∀ g', Ch [130, 131, 132, 133, 169, 172, 173] [50, 54] g g' → (∀ x, (x < m ∧ zb wt x = true → g' 169 x = shF due rk m n left (zb wt) x) ∧ (¬ (x < m ∧ zb wt x = true) → g' 169 x = G 169 x)) → Q 0 g') → aX12_parts T (d + 6) Q X 115 [some (mx_R 99), some (mx_I (y : Int)), some (mx_I st), some (mx_J left), none, some (mx_I wt), o6, o7, none, o9, none, o11] [] G (0, 0) := by
    intro n
    induction n with
    | zero =>
      intro G left wt o6 o7 o9 o11 cG hk hl hwt hcn kk
      have none' : ∀ x, zb wt x = false := fun x => by
        cases hh : zb wt x with
        | false => rfl
        | true => rw [cnW_0 (W := zb wt) (m := m) (by omega) x (hd x (hwt x hh)).1] at hh; exact absurd hh (by decide)
      refine zX12_parts_115 ?_
      have w0 : w32 wt = w32 0 := zb_ext (fun i _ => by rw [none' i, zb_0])
      refine ⟨fun _ => kk G cG (fun x => ⟨fun q => by rw [none' x] at q; exact absurd q.2 (by decide), fun _ => rfl⟩), fun z => absurd w0 z⟩
    | succ n ih =>
      intro G left wt o6 o7 o9 o11 cG hk hl hwt hcn kk
      have emG : G 99 10 = (m : Int) := by rw [cG.2 10 (by decide), rs.2.1.1, em]
      have d168 : ∀ x, zb wt x = true → G 168 x = due x := fun x hx => by rw [cG.1 168 (by decide) (by decide), (hst x (hwt x hx)).2.2, hdue]
      refine zX12_parts_115 ⟨fun w0 => ?_, fun w0 => ?_⟩
      · have none' : ∀ x, zb wt x = false := fun x => by rw [← zb_w, w0, w32_0, zb_0]
        exact kk G cG (fun x => ⟨fun q => by rw [none' x] at q; exact absurd q.2 (by decide), fun _ => rfl⟩)
      · have some' : ∃ x, x < m ∧ zb wt x = true := by
          refine Classical.byContradiction (fun q => w0 (zb_ext (fun i _ => ?_)))
          rw [zb_0]
          cases hh : zb wt i with
          | false => rfl
          | true => exact absurd ⟨i, (hd i (hwt i hh)).1, hh⟩ q
        obtain ⟨a, ha⟩ := grB_some (rk := rk) some'
        have hga := grB_iff.mp ha
        have gd : ∀ x, x < m → grB rk (zb wt) m x = true → 0 < due x ∧ due x ≤ 20000000000 := fun x hx hg => (hd x (hwt x (grB_iff.mp hg).2.1)).2
        have bS := sG_bnd (f := due) (G := grB rk (zb wt) m) (m := m) (B := 20000000000) (by omega) (fun x hx hg => by have := gd x hx hg; omega)
        have pS : 0 < sG due (grB rk (zb wt) m) m := sG_gt hga.1 ha (gd a hga.1 ha).1 (fun x hx hg => by have := gd x hx hg; omega)
        -- behind the group
        have after : ∀ v x7 x11 G2 S, zb v = grB rk (zb wt) m → S = sG due (grB rk (zb wt) m) m → Ch [130, 131, 132, 133, 169, 172, 173] [50, 54] g G2 → G2 172 = G 172 → (∀ x, (x < m ∧ grB rk (zb wt) m x = true → G2 169 x = spF (min left S) due (grB rk (zb wt) m) m x) ∧ (¬ (x < m ∧ grB rk (zb wt) m x = true) → G2 169 x = G 169 x)) → aX12_parts T (d + 6) Q X 307 [some (mx_R 99), some (mx_I (y : Int)), some (mx_I st), some (mx_J left), none, some (mx_I wt), some (mx_I v), some (mx_J x7), none, some (mx_J S), none, some (mx_I x11)] [] G2 (0, 0) := by
          intro v x7 x11 G2 S ev hS c2 e172 h169
          have wt' : ∀ x, x < 32 → zb (mx_iand wt (mx_ixor v (-1))) x = (zb wt x && !grB rk (zb wt) m x) := fun x hx => by
            rw [zb_iand, zb_not hx, ev]
          have hsub : ∀ x, zb (mx_iand wt (mx_ixor v (-1))) x = true → x < 32 ∧ zb wt x = true ∧ grB rk (zb wt) m x = false := fun x hx => by
            by_cases q : x < 32
            · rw [wt' x q, Bool.and_eq_true] at hx
              exact ⟨q, hx.1, by simpa using hx.2⟩
            · rw [zb_big (by omega)] at hx
              exact absurd hx (by decide)
          refine zX12_parts_307 (sJ9_maxL (d := d + 5) (by omega) (by omega) ?_)
          have el : max 0 (left - S) = left - min left S := by omega
          rw [el]
          refine ih G2 _ _ _ _ _ _ c2 (fun x hx => by rw [e172]; exact hk x hx) (by omega) (fun x hx => hwt x (hsub x hx).2.1) ?_ (fun g' cg' hg' => kk g' cg' (fun x => ⟨fun hx => ?_, fun hx => ?_⟩))
          · have := cnW_less (rk := rk) some'
            have e : cnW (zb (mx_iand wt (mx_ixor v (-1)))) m = cnW (fun y => zb wt y && !grB rk (zb wt) m y) m := sumN_congr (fun x hx => by rw [wt' x (by omega)])
            rw [e]
            omega
          · unfold shF
            rw [← hS]
            by_cases q : grB rk (zb wt) m x = true
            · rw [if_pos q, (hg' x).2 (fun r => by rw [(hsub x r.2).2.2] at q; exact absurd q (by decide)), (h169 x).1 ⟨hx.1, q⟩]
            · rw [if_neg q]
              have q' : grB rk (zb wt) m x = false := by simpa using q
              have r : zb (mx_iand wt (mx_ixor v (-1))) x = true := by
                rw [wt' x (by omega), hx.2, q']; rfl
              rw [(hg' x).1 ⟨hx.1, r⟩]
              exact shF_cg n (fun x hx => wt' x (by omega)) (fun x _ _ => ⟨rfl, rfl⟩) x hx.1
          · rw [(hg' x).2 (fun r => hx ⟨r.1, (hsub x r.2).2.1⟩), (h169 x).2 (fun r => hx ⟨r.1, (grB_iff.mp r.2).2.1⟩)]
        -- all that is owed to the group
        have give : ∀ b t : Nat, t + b = m → ∀ v x7 S G2, zb v = grB rk (zb wt) m → S = sG due (grB rk (zb wt) m) m → Ch [130, 131, 132, 133, 169, 172, 173] [50, 54] g G2 → G2 172 = G 172 → (∀ x, (x < t ∧ grB rk (zb wt) m x = true → G2 169 x = due x) ∧ (¬ (x < t ∧ grB rk (zb wt) m x = true) → G2 169 x = G 169 x)) → aX12_parts T (d + 6) Q X 235 [some (mx_R 99), some (mx_I (y : Int)), some (mx_I st), some (mx_J left), none, some (mx_I wt), some (mx_I v), some (mx_J x7), none, some (mx_J S), none, some (mx_I (t : Int))] [] G2 (0, 0) := by
          intro b
          induction b with
          | zero =>
            intro t ht v x7 S G2 ev hS c2 e172 h169
            refine zX12_parts_235 ?_
            rw [c2.2 10 (by decide), rs.2.1.1, em]
            have : t = m := by omega
            subst this
            first | with_reducible refine c_lt ?_ ?_ (fun z => ?_) (fun z => ?_) | with_reducible refine c_le ?_ ?_ (fun z => ?_) (fun z => ?_) | with_reducible refine c_eq ?_ ?_ (fun z => ?_) (fun z => ?_) | with_reducible refine c_ne ?_ ?_ (fun z => ?_) (fun z => ?_)
            · omega
            · omega
            · first | with_reducible refine l_gt ?_ ?_ (fun z2 => ?_) (fun z2 => ?_) | with_reducible refine l_lt ?_ ?_ (fun z2 => ?_) (fun z2 => ?_) | with_reducible refine l_ge ?_ ?_ (fun z2 => ?_) (fun z2 => ?_) | with_reducible refine l_le ?_ ?_ (fun z2 => ?_) (fun z2 => ?_) | with_reducible refine l_eq ?_ ?_ (fun z2 => ?_) (fun z2 => ?_) | with_reducible refine l_ne ?_ ?_ (fun z2 => ?_) (fun z2 => ?_)
              · omega
              · omega
              · refine after v x7 _ G2 S ev hS c2 e172 (fun x => ⟨fun q => ?_, (h169 x).2⟩)
                rw [(h169 x).1 q, show min left S = S by omega, hS]
                exact (spF_full pS q.2).symm
              · have d2 : ∀ x, x < t → zb v x = true → G2 168 x = due x := fun x hx hz => by
                  rw [ev] at hz
                  rw [c2.1 168 (by decide) (by decide), (hst x (hwt x (grB_iff.mp hz).2.1)).2.2, hdue]
                have eS : sG (G2 168) (zb v) t = sG due (grB rk (zb wt) t) t := by
                  rw [← ev]
                  exact sG_cg (fun _ _ => rfl) d2
                refine sX12_split_i2 (d := d + 5) (m := t) (by rw [c2.2 10 (by decide), rs.2.1.1, em]) (by omega) hl (fun x hx hz => ?_) (fun G3 c3 h3 => ?_)
                · rw [d2 x hx hz]
                  rw [ev] at hz
                  have := gd x hx hz
                  omega
                · refine after v x7 _ G3 S ev hS (c2.tr (c3.sub (by decide) (by decide))) ((c3.1 172 (by decide) (by decide)).trans e172) (fun x => ⟨fun q => ?_, fun q => ?_⟩)
                  · rw [(h3 x).1 (by rw [ev]; exact q), if_pos (by rw [eS]; exact pS), show min left S = left by omega, ← ev]
                    exact spF_cg (fun _ _ => rfl) d2 x q.1
                  · rw [(h3 x).2 (by rw [ev]; exact q)]
                    exact (h169 x).2 q
            · omega
          | succ b ihb =>
            intro t ht v x7 S G2 ev hS c2 e172 h169
            have put : ∀ w, (grB rk (zb wt) m t = true → w = due t) → (grB rk (zb wt) m t = false → w = G 169 t) → aX12_parts T (d + 6) Q X 278 [some (mx_R 99), some (mx_I (y : Int)), some (mx_I st), some (mx_J left), none, some (mx_I wt), some (mx_I v), some (mx_J x7), none, some (mx_J S), none, some (mx_I (t : Int))] [mx_J w, mx_I (t : Int), mx_R 169] G2 (0, 0) := by
              intro w w1 w0
              refine zX12_parts_278 ?_
              refine s_inN ?_ (fun ea => ?_)
              · omega
              try simp only [ea]
              clear ea
              intro G3 e3
              rw [show (t : Int) + 1 = ((t + 1 : Nat) : Int) by omega]
              refine ihb (t + 1) (by omega) v x7 S G3 ev hS (by rw [e3]; exact c2.up (by decide) (by decide)) ?_ (fun x => ?_)
              · rw [← e172, e3]
                funext p
                rw [up_q (by decide)]
              · rw [e3]
                by_cases e : x = t
                · rw [e, up_s]
                  refine ⟨fun q => w1 q.2, fun q => w0 ?_⟩
                  cases hh : grB rk (zb wt) m t with
                  | false => rfl
                  | true => exact absurd ⟨by omega, hh⟩ q
                · rw [up_i e]
                  exact ⟨fun q => (h169 x).1 ⟨by omega, q.2⟩, fun q => (h169 x).2 (fun r => q ⟨by omega, r.2⟩)⟩
            refine zX12_parts_235 ?_
            rw [c2.2 10 (by decide), rs.2.1.1, em]
            first | with_reducible refine c_lt ?_ ?_ (fun z => ?_) (fun z => ?_) | with_reducible refine c_le ?_ ?_ (fun z => ?_) (fun z => ?_) | with_reducible refine c_eq ?_ ?_ (fun z => ?_) (fun z => ?_) | with_reducible refine c_ne ?_ ?_ (fun z => ?_) (fun z => ?_)
            · omega
            · omega
            · omega
            · rw [zb_holds (by omega), ev]
              refine zt1 (fun hz => ?_) (fun hz => ?_)
              · refine s_inN ?_ (fun ea => ?_)
                · omega
                try simp only [ea]
                clear ea
                exact put _ (fun q => by rw [hz] at q; exact absurd q (by decide)) (fun _ => (h169 t).2 (fun q => by rw [hz] at q; exact absurd q.2 (by decide)))
              · refine s_inN ?_ (fun ea => ?_)
                · omega
                try simp only [ea]
                clear ea
                refine put _ (fun _ => ?_) (fun q => by rw [hz] at q; exact absurd q (by decide))
                rw [c2.1 168 (by decide) (by decide), (hst t (hwt t (grB_iff.mp hz).2.1)).2.2, hdue]
        -- who is in the group
        have find : ∀ b t : Nat, t + b = m → ∀ v x7, StP v (fun x => x < t ∧ zb wt x = true ∧ ∀ z, z < t → zb wt z = true → rk z ≤ rk x) → (v = 0 ∧ (∀ z, z < t → zb wt z = false) ∨ ¬ w32 v = w32 0 ∧ (∀ z, z < t → zb wt z = true → rk z ≤ w64 x7) ∧ ∃ z, z < t ∧ zb wt z = true ∧ rk z = w64 x7) → aX12_parts T (d + 6) Q X 132 [some (mx_R 99), some (mx_I (y : Int)), some (mx_I st), some (mx_J left), none, some (mx_I wt), some (mx_I v), some (mx_J x7), none, some (mx_J (sG due (zb v) t)), none, some (mx_I (t : Int))] [] G (0, 0) := by
          intro b
          induction b with
          | zero =>
            intro t ht v x7 hv _
            refine zX12_parts_132 ?_
            rw [emG]
            have : t = m := by omega
            subst this
            first | with_reducible refine c_lt ?_ ?_ (fun z => ?_) (fun z => ?_) | with_reducible refine c_le ?_ ?_ (fun z => ?_) (fun z => ?_) | with_reducible refine c_eq ?_ ?_ (fun z => ?_) (fun z => ?_) | with_reducible refine c_ne ?_ ?_ (fun z => ?_) (fun z => ?_)
            · omega
            · omega
            · have ev : zb v = grB rk (zb wt) t := by
                funext i
                refine Bool.eq_iff_iff.mpr ?_
                rw [grB_iff]
                by_cases hi : i < 32
                · exact hv i hi
                · rw [zb_big (by omega)]
                  exact ⟨fun q => absurd q (by decide), fun q => absurd q.1 (by omega)⟩
              rw [ev, show (0 : Int) = ((0 : Nat) : Int) from rfl]
              exact give t 0 (by omega) v x7 _ G ev rfl cG rfl (fun x => ⟨fun q => absurd q.1 (Nat.not_lt_zero x), fun _ => rfl⟩)
            · omega
          | succ b ihb =>
            intro t ht v x7 hv hx
            have vt : zb v t = false := by
              cases hh : zb v t with
              | false => rfl
              | true => exact absurd ((hv t (by omega)).mp hh).1 (Nat.lt_irrefl t)
            have skip : (zb wt t = false ∨ ¬ w32 v = w32 0 ∧ rk t < w64 x7) → aX12_parts T (d + 6) Q X 226 [some (mx_R 99), some (mx_I (y : Int)), some (mx_I st), some (mx_J left), none, some (mx_I wt), some (mx_I v), some (mx_J x7), none, some (mx_J (sG due (zb v) t)), none, some (mx_I (t : Int))] [] G (0, 0) := by
              intro hq
              refine zX12_parts_226 ?_
              rw [show (t : Int) + 1 = ((t + 1 : Nat) : Int) by omega]
              have es : sG due (zb v) (t + 1) = sG due (zb v) t := by
                rw [sG_s, if_neg (by rw [vt]; decide)]
                omega
              rw [← es]
              rcases hq with hq | ⟨hq0, hq⟩
              · refine ihb (t + 1) (by omega) v x7 (hv.cg (fun i hi => ?_)) ?_
                · constructor
                  · rintro ⟨x1, x2, x3⟩
                    refine ⟨by omega, x2, fun z hz hw => ?_⟩
                    by_cases e : z = t
                    · rw [e, hq] at hw; exact absurd hw (by decide)
                    · exact x3 z (by omega) hw
                  · rintro ⟨x1, x2, x3⟩
                    by_cases e : i = t
                    · rw [e, hq] at x2; exact absurd x2 (by decide)
                    · exact ⟨by omega, x2, fun z hz hw => x3 z (by omega) hw⟩
                · rcases hx with ⟨h1, h2⟩ | ⟨h1, h2, z, z1, z2⟩
                  · refine Or.inl ⟨h1, fun z hz => ?_⟩
                    by_cases e : z = t
                    · rw [e]; exact hq
                    · exact h2 z (by omega)
                  · refine Or.inr ⟨h1, fun z hz hw => ?_, z, by omega, z2⟩
                    by_cases e : z = t
                    · rw [e, hq] at hw; exact absurd hw (by decide)
                    · exact h2 z (by omega) hw
              · rcases hx with ⟨h1, h2⟩ | ⟨h1, h2, a, a1, a2, a3⟩
                · exact absurd (by rw [h1]) hq0
                · refine ihb (t + 1) (by omega) v x7 (hv.cg (fun i hi => ?_)) (Or.inr ⟨h1, fun z hz hw => ?_, a, by omega, a2, a3⟩)
                  · constructor
                    · rintro ⟨x1, x2, x3⟩
                      refine ⟨by omega, x2, fun z hz hw => ?_⟩
                      by_cases e : z = t
                      · subst e; have := x3 a a1 a2; omega
                      · exact x3 z (by omega) hw
                    · rintro ⟨x1, x2, x3⟩
                      by_cases e : i = t
                      · subst e; have := x3 a (by omega) a2; omega
                      · exact ⟨by omega, x2, fun z hz hw => x3 z (by omega) hw⟩
                  · by_cases e : z = t
                    · subst e; omega
                    · exact h2 z (by omega) hw
            have reset : zb wt t = true → (∀ z, z < t → zb wt z = true → rk z < rk t) → aX12_parts T (d + 6) Q X 190 [some (mx_R 99), some (mx_I (y : Int)), some (mx_I st), some (mx_J left), none, some (mx_I wt), some (mx_I v), some (mx_J x7), none, some (mx_J (sG due (zb v) t)), none, some (mx_I (t : Int))] [] G (0, 0) := by
              intro hz hlt
              refine zX12_parts_190 ?_
              refine s_inN ?_ (fun ea => ?_)
              · omega
              try simp only [ea]
              clear ea
              refine zX12_parts_205 ?_
              refine s_inN ?_ (fun ea => ?_)
              · omega
              try simp only [ea]
              clear ea
              refine zX12_parts_226 ?_
              rw [show (t : Int) + 1 = ((t + 1 : Nat) : Int) by omega]
              have zv : ∀ i, i < 32 → zb (mx_ior 0 (mx_ishl 1 (t : Int))) i = decide (i = t) := fun i hi => by rw [zb_ior, zb_0, zb_bit (by omega) hi, Bool.false_or]
              have es : sG due (zb (mx_ior 0 (mx_ishl 1 (t : Int)))) (t + 1) = 0 + G 168 t := by
                rw [sG_s, zv t (by omega), if_pos (by simp), d168 t hz]
                have : sG due (zb (mx_ior 0 (mx_ishl 1 (t : Int)))) t = 0 := sumN_zero (fun x hx => by
                  show (if zb (mx_ior 0 (mx_ishl 1 (t : Int))) x = true then due x else 0) = 0
                  rw [if_neg (by rw [zv x (by omega)]; simp; omega)])
                rw [this]
              rw [← es]
              refine ihb (t + 1) (by omega) _ _ (fun i hi => ?_) (Or.inr ⟨fun q => ?_, fun z hzt hw => ?_, t, by omega, hz, (hk t (hwt t hz)).symm⟩)
              · rw [zv i hi, decide_eq_true_iff]
                constructor
                · rintro rfl
                  refine ⟨by omega, hz, fun z hzt hw => ?_⟩
                  by_cases e : z = i
                  · subst e; exact Int.le_refl _
                  · have := hlt z (by omega) hw; omega
                · rintro ⟨x1, x2, x3⟩
                  refine Classical.byContradiction (fun e => ?_)
                  have q1 := x3 t (by omega) hz
                  have q2 := hlt i (by omega) x2
                  omega
              · have := zv t (by omega)
                rw [← zb_w, q, w32_0, zb_0] at this
                exact absurd this (by simp)
              · rw [hk t (hwt t hz)]
                by_cases e : z = t
                · subst e; exact Int.le_refl _
                · have := hlt z (by omega) hw; omega
            have add : zb wt t = true → ¬ w32 v = w32 0 → rk t = w64 x7 → aX12_parts T (d + 6) Q X 205 [some (mx_R 99), some (mx_I (y : Int)), some (mx_I st), some (mx_J left), none, some (mx_I wt), some (mx_I v), some (mx_J x7), none, some (mx_J (sG due (zb v) t)), none, some (mx_I (t : Int))] [] G (0, 0) := by
              intro hz hv0 heq
              rcases hx with ⟨h1, h2⟩ | ⟨h1, h2, a, a1, a2, a3⟩
              · exact absurd (by rw [h1]) hv0
              refine zX12_parts_205 ?_
              refine s_inN ?_ (fun ea => ?_)
              · omega
              try simp only [ea]
              clear ea
              refine zX12_parts_226 ?_
              rw [show (t : Int) + 1 = ((t + 1 : Nat) : Int) by omega]
              have es : sG due (zb (mx_ior v (mx_ishl 1 (t : Int)))) (t + 1) = sG due (zb v) t + G 168 t := by
                rw [sG_s, zb_ior, zb_bit (by omega) (by omega), if_pos (by simp), d168 t hz]
                have : sG due (zb (mx_ior v (mx_ishl 1 (t : Int)))) t = sG due (zb v) t := sG_cg (fun x hx => by
                  rw [zb_ior, zb_bit (by omega) (by omega), show decide (x = t) = false by simp; omega, Bool.or_false]) (fun _ _ _ => rfl)
                rw [this]
              rw [← es]
              refine ihb (t + 1) (by omega) _ _ ((hv.or (k := t) (by omega)).cg (fun i hi => ?_)) (Or.inr ⟨fun q => ?_, fun z hzt hw => ?_, t, by omega, hz, heq⟩)
              · constructor
                · rintro (⟨x1, x2, x3⟩ | rfl)
                  · refine ⟨by omega, x2, fun z hzt hw => ?_⟩
                    by_cases e : z = t
                    · subst e; have := x3 a a1 a2; omega
                    · exact x3 z (by omega) hw
                  · refine ⟨by omega, hz, fun z hzt hw => ?_⟩
                    by_cases e : z = i
                    · subst e; exact Int.le_refl _
                    · have := h2 z (by omega) hw; omega
                · rintro ⟨x1, x2, x3⟩
                  by_cases e : i = t
                  · exact Or.inr e
                  · exact Or.inl ⟨by omega, x2, fun z hzt hw => x3 z (by omega) hw⟩
              · have : zb (mx_ior v (mx_ishl 1 (t : Int))) t = true := by rw [zb_ior, zb_bit (by omega) (by omega)]; simp
                rw [← zb_w, q, w32_0, zb_0] at this
                exact absurd this (by decide)
              · by_cases e : z = t
                · subst e; omega
                · exact h2 z (by omega) hw
            refine zX12_parts_132 ?_
            rw [emG]
            first | with_reducible refine c_lt ?_ ?_ (fun z => ?_) (fun z => ?_) | with_reducible refine c_le ?_ ?_ (fun z => ?_) (fun z => ?_) | with_reducible refine c_eq ?_ ?_ (fun z => ?_) (fun z => ?_) | with_reducible refine c_ne ?_ ?_ (fun z => ?_) (fun z => ?_)
            · omega
            · omega
            · omega
            · rw [zb_holds (by omega)]
              refine zt2 (fun hz => skip (Or.inl hz)) (fun hz => ?_)
              have ek := hk t (hwt t hz)
              refine ⟨fun hv0 => ?_, fun hv0 => ?_⟩
              · have all0 : ∀ z, z < t → zb wt z = false := by
                  rcases hx with ⟨h1, h2⟩ | ⟨h1, _⟩
                  · exact h2
                  · exact absurd hv0 h1
                refine zX12_parts_172 ⟨fun _ => reset hz (fun z hzt hw => by rw [all0 z hzt] at hw; exact absurd hw (by decide)), fun q => absurd hv0 q⟩
              · have hA : ∀ z, z < t → zb wt z = true → rk z ≤ w64 x7 := by
                  rcases hx with ⟨h1, _⟩ | ⟨_, h2, _⟩
                  · exact absurd (by rw [h1]) hv0
                  · exact h2
                refine s_inN ?_ (fun ea => ?_)
                · omega
                try simp only [ea]
                clear ea
                refine ⟨fun q => ?_, fun q => skip (Or.inr ⟨hv0, ?_⟩)⟩
                · have q' := lc_ge.mp q
                  refine zX12_parts_172 ⟨fun q2 => absurd q2 hv0, fun _ => ?_⟩
                  refine s_inN ?_ (fun ea => ?_)
                  · omega
                  try simp only [ea]
                  clear ea
                  refine ⟨fun q3 => ?_, fun q3 => ?_⟩
                  · have q4 := lc_le.mp q3
                    exact add hz hv0 (by omega)
                  · refine reset hz (fun z hzt hw => ?_)
                    have := hA z hzt hw
                    have q4 : ¬ w64 (G 172 t) ≤ w64 x7 := fun r => q3 (lc_le.mpr r)
                    omega
                · have q4 : ¬ w64 x7 ≤ w64 (G 172 t) := fun r => q (lc_ge.mpr r)
                  omega
        have e0 : (0 : Int) = sG due (zb 0) 0 := rfl
        have := find m 0 (by omega) 0 0 (StP.zero.cg (fun i _ => ⟨fun z => z.elim, fun z => by omega⟩)) (Or.inl ⟨rfl, fun z hz => absurd hz (Nat.not_lt_zero z)⟩)
        exact this
  -- the ranks
  have ranks : ∀ n t : Nat, t + n = m → ∀ G, Ch [130, 131, 132, 133, 169, 172, 173] [50, 54] g G → (∀ x, x < t → G 169 x = 0 ∧ (zb st x = true → w64 (G 172 x) = rk x)) → aX12_parts T (d + 6) Q X 9 [some (mx_R 99), some (mx_I (y : Int)), some (mx_I st), some (mx_J (dworthC c y)), none, some (mx_I (t : Int)), none, none, none, none, none, none] [] G (0, 0) := by
    intro n
    induction n with
    | zero =>
      intro t ht G cG hG
      refine zX12_parts_9 ?_
      rw [cG.2 10 (by decide), rs.2.1.1, em]
      have : t = m := by omega
      subst this
      first | with_reducible refine c_lt ?_ ?_ (fun z => ?_) (fun z => ?_) | with_reducible refine c_le ?_ ?_ (fun z => ?_) (fun z => ?_) | with_reducible refine c_eq ?_ ?_ (fun z => ?_) (fun z => ?_) | with_reducible refine c_ne ?_ ?_ (fun z => ?_) (fun z => ?_)
      · omega
      · omega
      · refine rounds 12 G _ _ _ _ _ _ cG (fun x hx => (hG x (hd x hx).1).2 hx) bdw (fun x hx => hx) (by have := cnW_le (W := zb st) t; omega) (fun g' cg' hg' => k g' cg' (fun x hx => ?_))
        by_cases q : zb st x = true
        · exact (hg' x).1 ⟨hx, q⟩
        · rw [(hg' x).2 (fun r => q r.2), (hG x hx).1, shF_out 12 (by simpa using q)]
      · omega
    | succ n ih =>
      intro t ht G cG hG
      have next : ∀ G2, Ch [130, 131, 132, 133, 169, 172, 173] [50, 54] g G2 → (∀ x, x < t + 1 → G2 169 x = 0 ∧ (zb st x = true → w64 (G2 172 x) = rk x)) → aX12_parts T (d + 6) Q X 106 [some (mx_R 99), some (mx_I (y : Int)), some (mx_I st), some (mx_J (dworthC c y)), none, some (mx_I (t : Int)), none, none, none, none, none, none] [] G2 (0, 0) := by
        intro G2 c2 h2
        refine zX12_parts_106 ?_
        rw [show (t : Int) + 1 = ((t + 1 : Nat) : Int) by omega]
        exact ih (t + 1) (by omega) G2 c2 h2
      refine zX12_parts_9 ?_
      rw [cG.2 10 (by decide), rs.2.1.1, em]
      first | with_reducible refine c_lt ?_ ?_ (fun z => ?_) (fun z => ?_) | with_reducible refine c_le ?_ ?_ (fun z => ?_) (fun z => ?_) | with_reducible refine c_eq ?_ ?_ (fun z => ?_) (fun z => ?_) | with_reducible refine c_ne ?_ ?_ (fun z => ?_) (fun z => ?_)
      · omega
      · omega
      · omega
      · refine s_inN ?_ (fun ea => ?_)
        · omega
        try simp only [ea]
        clear ea
        intro G2 e2
        have c2 : Ch [130, 131, 132, 133, 169, 172, 173] [50, 54] g G2 := by rw [e2]; exact cG.up (by decide) (by decide)
        have h2 : ∀ x, x < t + 1 → G2 169 x = 0 ∧ (x < t → zb st x = true → w64 (G2 172 x) = rk x) := fun x hx => by
          rw [e2, up_q (show 172 ≠ 169 by decide)]
          by_cases e : x = t
          · rw [e, up_s]; exact ⟨rfl, fun q => absurd q (Nat.lt_irrefl t)⟩
          · rw [up_i e]; exact ⟨(hG x (by omega)).1, fun q => (hG x q).2⟩
        rw [zb_holds (by omega)]
        refine zt0 (fun hz => ?_) (fun hz => ?_)
        · refine s_inN ?_ (fun ea => ?_)
          · omega
          try simp only [ea]
          clear ea
          have rs2 := rs.fr c2 (by decide) (by decide)
          have e168 : G2 168 t = claimC c y t := by rw [c2.1 168 (by decide) (by decide)]; exact (hst t hz).2.2
          rw [e168]
          refine sX12_asksG (d := d + 1) (c := c) (nt := nt) (al := al) wlc rs2.1 wb rs2.2.1 tw rs2.2.2.2.1 rs2.2.2.2.2 (by omega) (by omega) (fun G3 c3 h133 => ?_)
          have c4 : Ch [130, 131, 132, 133, 169, 172, 173] [50, 54] g G3 := c2.tr (c3.sub (by decide) (by decide))
          have rs3 := rs2.fr c3 (by decide) (by decide)
          have put : ∀ s : Nat, s = wmS c y t → aX12_parts T (d + 6) Q X 104 [some (mx_R 99), some (mx_I (y : Int)), some (mx_I st), some (mx_J (dworthC c y)), none, some (mx_I (t : Int)), none, none, none, none, none, none] [mx_I (s : Int), mx_R 133, mx_I (t : Int), mx_R 172] G3 (0, 0) := by
            intro s hs
            have hs9 : s < 9 := by rw [hs]; exact wmS_lt c y t
            refine zX12_parts_104 ?_
            refine s_inN ?_ (fun ea => ?_)
            · omega
            try simp only [ea]
            clear ea
            refine s_inN ?_ (fun ea => ?_)
            · omega
            try simp only [ea]
            clear ea
            intro G4 e4
            refine next G4 (by rw [e4]; exact c4.up (by decide) (by decide)) (fun x hx => ?_)
            have hx2 := h2 x hx
            refine ⟨by rw [e4, up_q (by decide), c3.1 169 (by decide) (by decide)]; exact hx2.1, fun hzx => ?_⟩
            rw [e4]
            by_cases e : x = t
            · rw [e, up_s, h133 s hs9, hrk]
              unfold rkF
              rw [hs]
            · rw [up_i e, c3.1 172 (by decide) (by decide)]; exact hx2.2 (by omega) hzx
          have rt := wb.2.1 t (by omega)
          have ry := wb.2.1 y (by omega)
          have bt := rs3.2.1.2.1 t (by omega)
          have bY := rs3.2.1.2.1 y (by omega)
          refine s_inN ?_ (fun ea => ?_)
          · omega
          try simp only [ea]
          clear ea
          refine s_inN ?_ (fun ea => ?_)
          · omega
          try simp only [ea]
          clear ea
          rw [bt.2.1, bY.2.1]
          first | with_reducible refine c_lt ?_ ?_ (fun q1 => ?_) (fun q1 => ?_) | with_reducible refine c_le ?_ ?_ (fun q1 => ?_) (fun q1 => ?_) | with_reducible refine c_eq ?_ ?_ (fun q1 => ?_) (fun q1 => ?_) | with_reducible refine c_ne ?_ ?_ (fun q1 => ?_) (fun q1 => ?_)
          · omega
          · omega
          · refine s_inN ?_ (fun ea => ?_)
            · omega
            try simp only [ea]
            clear ea
            refine s_inN ?_ (fun ea => ?_)
            · omega
            try simp only [ea]
            clear ea
            rw [bt.1, bY.1]
            first | with_reducible refine c_lt ?_ ?_ (fun q2 => ?_) (fun q2 => ?_) | with_reducible refine c_le ?_ ?_ (fun q2 => ?_) (fun q2 => ?_) | with_reducible refine c_eq ?_ ?_ (fun q2 => ?_) (fun q2 => ?_) | with_reducible refine c_ne ?_ ?_ (fun q2 => ?_) (fun q2 => ?_)
            · omega
            · omega
            · refine put 5 ?_
              unfold wmS
              rw [if_neg (by omega), if_neg (by omega)]
            · refine put 4 ?_
              unfold wmS
              rw [if_neg (by omega), if_pos (by omega)]
          · refine put 3 ?_
            unfold wmS
            rw [if_pos (by omega)]
        · refine next G2 c2 (fun x hx => ⟨(h2 x hx).1, fun q => ?_⟩)
          by_cases e : x = t
          · rw [e, hz] at q; exact absurd q (by decide)
          · exact (h2 x hx).2 (by omega) q
  rw [show (0 : Int) = ((0 : Nat) : Int) from rfl]
  exact ranks m 0 (by omega) g (Ch.rf g) (fun x hx => absurd hx (Nat.not_lt_zero x))
