/-! shares: the class hands them out -/
theorem sX4_shareOut {T : Nat × (Nat → Int32)} {d : Nat} {Q : mz_K} {X : mz_X} {g : mz_S} {y m : Nat} {st : Int} (wl : WfL g) (wb : WfB g) (em : g 9 1 = (m : Int)) (hy : y < 12) (hd : ∀ x, x < m → zb st x = true → 0 < g 87 (y * 12 + x) ∧ g 87 (y * 12 + x) ≤ 20000000000) (hst : ∀ x, zb st x = true → x < m) (k : ∀ g', Ch [8, 89, 90, 91] [] g g' → WfL g' → (∀ x, x < 12 → g' 89 x = g 87 (y * 12 + x)) → (∀ x, x < m → g' 91 x = shF (fun x => g 87 (y * 12 + x)) (fun x => w32 (g 88 (y * 12 + x))) m 12 (dworthC g y) (zb st) x) → (∀ x, m ≤ x → x < 12 → g' 91 x = 0) → Q 0 g') : zC T (d + 4) 55 [mx_R 86, mx_I (y : Int), mx_I st] g Q X := by
  have hw := wb.1
  refine zX4_shareOut (sJ7_fill_d0a16_i3 (d := d + 2) ?_)
  have e1 : w32 ((y : Int) * 12) = ((y * 12 : Nat) : Int) := by rw [w32_of (by omega) (by omega)]; omega
  have e2 : w32 12 = 12 := by decide
  rw [e1, e2, w32_0]
  refine ⟨by omega, by omega, by omega, by omega, by omega, ?_⟩
  intro G2 h2
  simp only [show mx_at 0 = 0 by decide, show mx_at 12 = 12 by decide, show mx_at ((y : Int) * 12) = y * 12 by rw [show (y : Int) * 12 = ((y * 12 : Nat) : Int) by omega]; exact zatN (by omega)] at h2
  have v2 : ∀ p x, G2 p x = if p = 89 ∧ x < 12 then g 87 (y * 12 + x) else if p = 91 ∧ x < 12 then 0 else g p x := by
    intro p x
    rw [h2]
    show (if p = 89 ∧ 0 ≤ x ∧ x < 0 + 12 then fillS g 91 12 0 87 (y * 12 + (x - 0)) else fillS g 91 12 0 p x) = _
    by_cases z : p = 89 ∧ x < 12
    · rw [if_pos ⟨z.1, by omega, by omega⟩, if_pos z]
      show (if 87 = 91 ∧ _ then _ else g 87 (y * 12 + (x - 0))) = _
      rw [if_neg (fun q => absurd q.1 (by decide))]
      rfl
    · rw [if_neg (fun q => z ⟨q.1, by omega⟩), if_neg z]
      rfl
  have c2 : Ch [8, 89, 90, 91] [] g G2 := by
    refine ⟨fun p hp h9 => ?_, fun f _ => ?_⟩
    · funext x
      rw [v2, if_neg (fun q => hp (by rw [q.1]; decide)), if_neg (fun q => hp (by rw [q.1]; decide))]
    · rw [v2, if_neg (fun q => absurd q.1 (by decide)), if_neg (fun q => absurd q.1 (by decide))]
  have wb2 : WfB G2 := wb.ch c2 (by decide)
  have wl2 : WfL G2 := by
    have e8 : G2 8 = g 8 := by
      funext x
      rw [v2, if_neg (fun q => absurd q.1 (by decide)), if_neg (fun q => absurd q.1 (by decide))]
    refine wl.ch (S := [89, 90, 91]) (F := []) ⟨fun p hp h9 => ?_, c2.2⟩ (by decide)
    by_cases z : p = 8
    · rw [z]; exact e8
    · exact c2.1 p (fun q => by simp at q hp; omega) h9
  refine sX0_drawerWorth (d := d) wl2 wb2 hy (fun G3 s3 wl3 => ?_)
  have edw : dworthC G2 y = dworthC g y := by
    have e : ∀ p ∈ [1, 3, 4, 5, 6, 7, 10, 14], G2 p = g p := fun p hp => c2.1 p (by revert hp; revert p; decide) (by intro q; subst q; revert hp; decide)
    unfold dworthC worthC rateC lgC
    simp only [e 1 (by decide), e 3 (by decide), e 4 (by decide), e 5 (by decide), e 6 (by decide), e 7 (by decide), e 10 (by decide), e 14 (by decide)]
  rw [edw]
  have c3 : Ch [8, 89, 90, 91] [] g G3 := c2.tr ((s3.ch (F := [])).sub (by decide) (fun f hf => hf))
  have bw := dworthC_bnd wl.1 wb hy
  obtain ⟨due, hdue⟩ : ∃ due : Nat → Int, due = fun x => g 87 (y * 12 + x) := ⟨_, rfl⟩
  obtain ⟨rk, hrk⟩ : ∃ rk : Nat → Int, rk = fun x => w32 (g 88 (y * 12 + x)) := ⟨_, rfl⟩
  rw [← hdue, ← hrk] at k
  have d3 : ∀ x, x < 12 → G3 89 x = due x := fun x hx => by
    rw [s3 89 (by decide), v2, if_pos ⟨rfl, hx⟩, hdue]
  have z3 : ∀ x, x < 12 → G3 91 x = 0 := fun x hx => by
    rw [s3 91 (by decide), v2, if_neg (fun q => absurd q.1 (by decide)), if_pos ⟨rfl, hx⟩]
  have hd' : ∀ x, x < m → zb st x = true → 0 < due x ∧ due x ≤ 20000000000 := fun x hx hz => by rw [hdue]; exact hd x hx hz
  have main : ∀ n t : Nat, t + n = 12 → ∀ G left wt o7, Ch [8, 89, 90, 91] [] g G → WfL G → (∀ x, x < 12 → G 89 x = due x) → (0 ≤ left ∧ left ≤ 400000000) → (∀ x, zb wt x = true → zb st x = true) → (∀ x, x < m → zb wt x = true → G 91 x = 0) → (∀ g', Ch [8, 89, 90, 91] [] g g' → WfL g' → (∀ x, x < 12 → g' 89 x = due x) → (∀ x, (x < m ∧ zb wt x = true → g' 91 x = shF due rk m n left (zb wt) x) ∧ (¬ (x < m ∧ zb wt x = true) → g' 91 x = G 91 x)) → Q 0 g') → aX4_shareOut T (d + 3) Q X 41 [some (mx_R 86), some (mx_I (y : Int)), some (mx_I st), some (mx_J left), none, some (mx_I wt), some (mx_I (t : Int)), o7] [] G (0, 0) := by
    intro n
    induction n with
    | zero =>
      intro t ht G left wt o7 cG wlG dG hl hwt hz kk
      refine zX4_shareOut_41 ?_
      first | with_reducible refine c_lt ?_ ?_ (fun z => ?_) (fun z => ?_) | with_reducible refine c_le ?_ ?_ (fun z => ?_) (fun z => ?_) | with_reducible refine c_eq ?_ ?_ (fun z => ?_) (fun z => ?_) | with_reducible refine c_ne ?_ ?_ (fun z => ?_) (fun z => ?_)
      · omega
      · omega
      · exact zX4_shareOut_100 (kk G cG wlG dG (fun x => ⟨fun hx => hz x hx.1 hx.2, fun _ => rfl⟩))
      · omega
    | succ n ih =>
      intro t ht G left wt o7 cG wlG dG hl hwt hz kk
      have emG : G 9 1 = (m : Int) := by rw [cG.1 9 (by decide) (by decide), em]
      refine zX4_shareOut_41 ?_
      first | with_reducible refine c_lt ?_ ?_ (fun z => ?_) (fun z => ?_) | with_reducible refine c_le ?_ ?_ (fun z => ?_) (fun z => ?_) | with_reducible refine c_eq ?_ ?_ (fun z => ?_) (fun z => ?_) | with_reducible refine c_ne ?_ ?_ (fun z => ?_) (fun z => ?_)
      · omega
      · omega
      · omega
      · rw [w32_0]
        refine ⟨fun y0 => ?_, fun y0 => ?_⟩
        · have none' : ∀ x, zb wt x = false := fun x => by rw [← zb_w, y0, zb_0]
          exact zX4_shareOut_100 (kk G cG wlG dG (fun x => ⟨fun hx => by rw [none' x] at hx; exact absurd hx.2 (by decide), fun _ => rfl⟩))
        · refine sX4_firstRanked (d := d + 1) emG (by omega) hy (fun v hv => ?_)
          rw [show (fun x => w32 (G 88 (y * 12 + x))) = rk by rw [hrk, cG.1 88 (by decide) (by decide)]] at hv
          have ev : zb v = grB rk (zb wt) m := funext hv
          refine sX4_weightOf (d := d + 1) emG (by omega) ?_
          have eS : sG (G 89) (zb v) m = sG due (grB rk (zb wt) m) m := by
            rw [ev]
            exact sG_cg (fun _ _ => rfl) (fun x hx _ => dG x (by omega))
          have some' : ∃ x, x < m ∧ zb wt x = true := by
            refine Classical.byContradiction (fun q => y0 ?_)
            have : ∀ x, zb wt x = false := fun x => by
              cases hh : zb wt x with
              | false => rfl
              | true => exact absurd ⟨x, hst x (hwt x hh), hh⟩ q
            rw [zb_ext (y := 0) (fun i _ => by rw [this i, zb_0]), w32_0]
          obtain ⟨a, ha⟩ := grB_some (rk := rk) some'
          have hga := grB_iff.mp ha
          have gd : ∀ x, x < m → grB rk (zb wt) m x = true → 0 < due x ∧ due x ≤ 20000000000 := fun x hx hg => hd' x hx (hwt x (grB_iff.mp hg).2.1)
          have bS := sG_bnd (f := due) (G := grB rk (zb wt) m) (m := m) (B := 20000000000) (by omega) (fun x hx hg => by have := gd x hx hg; omega)
          have pS : 0 < sG due (grB rk (zb wt) m) m := sG_gt hga.1 ha (gd a hga.1 ha).1 (fun x hx hg => by have := gd x hx hg; omega)
          rw [eS]
          refine sJ9_minL (d := d + 2) (by omega) (by omega) ?_
          refine sX4_split_i2 (d := d) emG (by omega) (by omega) (fun x hx hg => by
            rw [dG x (by omega)]
            rw [ev] at hg
            have := gd x hx hg
            omega) (fun q => by rw [eS] at q; omega) (fun _ G4 c4 h4 => ?_)
          have c5 : Ch [8, 89, 90, 91] [] g G4 := cG.tr (c4.sub (by decide) (fun f hf => hf))
          have wt' : ∀ x, x < 32 → zb (mx_iand wt (mx_ixor v (-1))) x = (zb wt x && !grB rk (zb wt) m x) := fun x hx => by
            rw [zb_iand, zb_not hx, ev]
          have hsub : ∀ x, zb (mx_iand wt (mx_ixor v (-1))) x = true → x < 32 ∧ zb wt x = true ∧ grB rk (zb wt) m x = false := fun x hx => by
            by_cases q : x < 32
            · rw [wt' x q, Bool.and_eq_true] at hx
              exact ⟨q, hx.1, by simpa using hx.2⟩
            · rw [zb_big (by omega)] at hx
              exact absurd hx (by decide)
          rw [show (t : Int) + 1 = ((t + 1 : Nat) : Int) by omega]
          rw [ev] at h4
          refine ih (t + 1) (by omega) G4 _ _ _ c5 (wlG.ch c4 (by decide)) (fun x hx => by rw [c4.1 89 (by decide) (by decide)]; exact dG x hx) (by omega) (fun x hx => hwt x (hsub x hx).2.1) (fun x hx hg => ?_) (fun g' cg' wlg' dg' hg' => kk g' cg' wlg' dg' (fun x => ⟨fun hx => ?_, fun hx => ?_⟩))
          · rw [(h4 x).2 (fun q => by rw [(hsub x hg).2.2] at q; exact absurd q.2 (by decide))]
            exact hz x hx (hsub x hg).2.1
          · unfold shF
            by_cases q : grB rk (zb wt) m x = true
            · rw [if_pos q, (hg' x).2 (fun r => by rw [(hsub x r.2).2.2] at q; exact absurd q (by decide)), (h4 x).1 ⟨hx.1, q⟩]
              exact spF_cg (fun _ _ => rfl) (fun x hx _ => dG x (by omega)) x hx.1
            · rw [if_neg q]
              have q' : grB rk (zb wt) m x = false := by simpa using q
              have r : zb (mx_iand wt (mx_ixor v (-1))) x = true := by
                rw [wt' x (by omega), hx.2, q']; rfl
              rw [(hg' x).1 ⟨hx.1, r⟩]
              exact shF_cg n (fun x hx => wt' x (by omega)) (fun x _ _ => ⟨rfl, rfl⟩) x hx.1
          · rw [(hg' x).2 (fun r => hx ⟨r.1, (hsub x r.2).2.1⟩), (h4 x).2 (fun r => hx ⟨r.1, (grB_iff.mp r.2).2.1⟩)]
  refine main 12 0 (by omega) G3 _ st _ c3 wl3 d3 (by omega) (fun x hx => hx) (fun x hx _ => z3 x (by omega)) (fun g' cg' wlg' dg' hg' => k g' cg' wlg' (fun x hx => by rw [dg' x hx, hdue]) (fun x hx => ?_) (fun x hx hx2 => ?_))
  · by_cases q : zb st x = true
    · exact (hg' x).1 ⟨hx, q⟩
    · rw [(hg' x).2 (fun r => q r.2), z3 x (by omega), shF_out 12 (by simpa using q)]
  · rw [(hg' x).2 (fun r => by omega), z3 x hx2]
