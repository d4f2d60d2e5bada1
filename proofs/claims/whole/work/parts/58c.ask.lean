/-! the class asks -/
theorem mos_w : ∀ s : Nat, s < 9 → w32 (mx_mos.getD s 0) = mx_mos.getD s 0 ∧ w32 (mx_lea.getD s 0) = mx_lea.getD s 0 := by decide +kernel
theorem VW.fr {g g' : mz_S} {cn : Nat → pA} {M p : Nat} {w : Int} (h : VW g cn M p w) (h1 : g' 39 11 = g 39 11) (h2 : g' 46 = g 46) : VW g' cn M p w := by
  unfold VW at *
  rw [h1, h2]
  exact h
theorem ask_C {T : Nat × (Nat → Int32)} {d : Nat} {Q : mz_K} {X : mz_X} {g : mz_S} {nt a town dy s : Nat} {al : Nat → List pA} {x2 x3 x5 : Int} (h : TxW g nt al) (ha : a < 12) (h10 : g 10 a = (town : Int)) (hw : town < 32) (hd0 : g 1 0 = (dy : Int)) (hd : dy ≤ 999) (hs : s < 9) (hk1 : 0 ≤ g 39 11 ∧ g 39 11 < 2147483647) (hk2 : ∀ i, i < 1000 → 0 ≤ g 46 i ∧ g 46 i ≤ g 39 11) (k : ∀ g', Ch [39, 46, 47] [] g g' → g' 39 3 = g 39 3 → g' 39 11 = g 39 11 + 1 → (∀ i, i < 1000 → 0 ≤ g' 46 i ∧ g' 46 i ≤ g' 39 11) → Q (askP (g 45) (cnF al (fC g al nt town dy)) (fC g al nt town dy).length s (fC g al nt town dy).length) g') : ∀ g1 : mz_S, g1 = mx_up g 39 11 (g 39 11 + 1) → aX3_ask T (d + 5) Q X 27 [some (mx_R 39), some (mx_I (a : Int)), some (mx_I x2), some (mx_J x3), none, some (mx_I x5), some (mx_I (s : Int)), some (mx_I (g1 39 3 - 1)), none, none, none] [] g1 (0, 0) := by
  intro g1 e1
  have lp := fC_lnP (town := town) (day := (dy : Int)) h
  obtain ⟨h1, h2, h3, L, bb, h4, h5, h6⟩ := h
  obtain ⟨F, eF⟩ : ∃ F, F = fC g al nt town (dy : Int) := ⟨_, rfl⟩
  rw [← eF] at lp k
  obtain ⟨pl, epl⟩ : ∃ pl, pl = plC (g 40) (stP g town (dy : Int)) (szA al) := ⟨_, rfl⟩
  have c1 : Ch [39] [] g g1 := by rw [e1]; exact (Ch.rf g).up (by decide) (by decide)
  have n1 : g1 39 3 = nt := by rw [e1, up_i (by decide)]; exact h2
  rw [n1]
  have ML : F.length = pl nt := by rw [eF, epl]; rfl
  have frm : ∀ G, Ch [39, 46, 47] [] g1 G → ∀ q, q ≠ 39 → q ≠ 46 → q ≠ 47 → q ≠ 99 → G q = g q := fun G hG q a1 a2 a4 a3 => by
    rw [hG.1 q (by simp; omega) a3, c1.1 q (by simp; exact a1) a3]
  have fin : ∀ G p, Ch [39, 46, 47] [] g1 G → (∀ q, q ≠ 13 → q ≠ 14 → G 39 q = g1 39 q) → VW G (cnF al F) F.length p (g 39 11 + 1) → ∀ r : Int, r = askP (g 45) (cnF al F) F.length s F.length → Q r G := by
    intro G p hG hp hv r hr
    rw [hr]
    refine k G ((c1.sub (by decide) (by decide)).tr hG) (by rw [hp 3 (by decide) (by decide), e1, up_i (by decide)]) hv.1 (fun i hi => ?_)
    rw [hv.1]; exact (hv.2.2 i hi).1
  have main : ∀ kk : Nat, kk ≤ nt → ∀ G, Ch [39, 46, 47] [] g1 G → (∀ q, q ≠ 13 → q ≠ 14 → G 39 q = g1 39 q) → VW G (cnF al F) F.length (pl kk) (g 39 11 + 1) → askP (g 45) (cnF al F) F.length s (pl kk) = askP (g 45) (cnF al F) F.length s F.length → ∀ o8 o9 o10, aX3_ask T (d + 5) Q X 27 [some (mx_R 39), some (mx_I (a : Int)), some (mx_I x2), some (mx_J x3), none, some (mx_I x5), some (mx_I (s : Int)), some (mx_I ((kk : Int) - 1)), o8, o9, o10] [] G (0, 0) := by
    intro kk
    induction kk with
    | zero =>
      intro _ G hG hp hv hx o8 o9 o10
      refine zX3_ask_27 ?_
      first | with_reducible refine c_lt ?_ ?_ (fun z => ?_) (fun z => ?_) | with_reducible refine c_le ?_ ?_ (fun z => ?_) (fun z => ?_) | with_reducible refine c_eq ?_ ?_ (fun z => ?_) (fun z => ?_) | with_reducible refine c_ne ?_ ?_ (fun z => ?_) (fun z => ?_)
      · omega
      · omega
      · refine s_inN ?_ (fun ea => ?_)
        · omega
        try simp only [ea]
        clear ea
        refine fin G _ hG hp hv _ ?_
        rw [← hx, epl]; rfl
      · omega
    | succ kk ih =>
      intro hkk G hG hp hv hx o8 o9 o10
      have ok := h3.1 kk (by omega)
      obtain ⟨t, et⟩ := Int.eq_ofNat_of_zero_le ok.1
      have ht : t < nt := by omega
      have tx := h6 t ht
      obtain ⟨y1, y2, y3, y4, y5, y6, y7, ⟨A, f1, f2, f3⟩, y8, y9⟩ := tx
      have q := frm G hG
      have stE : stP G town (dy : Int) t = stP g town (dy : Int) t := by unfold stP; rw [q 41 (by decide) (by decide) (by decide) (by decide), q 42 (by decide) (by decide) (by decide) (by decide)]
      have plS := plC_s (o := g 40) (P := stP g town (dy : Int)) (sz := szA al) (k := kk)
      rw [show (g 40 kk).toNat = t by omega, ← epl] at plS
      refine zX3_ask_27 ?_
      rw [show ((kk + 1 : Nat) : Int) - 1 = (kk : Int) by omega]
      first | with_reducible refine c_lt ?_ ?_ (fun z => ?_) (fun z => ?_) | with_reducible refine c_le ?_ ?_ (fun z => ?_) (fun z => ?_) | with_reducible refine c_eq ?_ ?_ (fun z => ?_) (fun z => ?_) | with_reducible refine c_ne ?_ ?_ (fun z => ?_) (fun z => ?_)
      · omega
      · omega
      · omega
      · refine s_inN ?_ (fun ea => ?_)
        · omega
        try simp only [ea]
        clear ea
        refine s_inN ?_ (fun ea => ?_)
        · omega
        try simp only [ea]
        clear ea
        rw [q 40 (by decide) (by decide) (by decide) (by decide), et, q 10 (by decide) (by decide) (by decide) (by decide), h10, q 1 (by decide) (by decide) (by decide) (by decide), hd0]
        refine sX3_stands (d := d + 3) (by omega) (by rw [q 42 (by decide) (by decide) (by decide) (by decide)]; exact y2) hw (by omega) ?_
        rw [stE]
        first | with_reducible refine b_eq (fun z2 => ?_) (fun z2 => ?_) | with_reducible refine b_ne (fun z2 => ?_) (fun z2 => ?_)
        · refine zX3_ask_85 (zX3_ask_93 ?_)
          rw [if_neg z2] at plS
          rw [plS] at hv hx
          refine s_inN ?_ (fun ea => ?_)
          · omega
          try simp only [ea]
          clear ea
          rw [q 43 (by decide) (by decide) (by decide) (by decide), f1]
          first | with_reducible refine c_lt ?_ ?_ (fun z3 => ?_) (fun z3 => ?_) | with_reducible refine c_le ?_ ?_ (fun z3 => ?_) (fun z3 => ?_) | with_reducible refine c_eq ?_ ?_ (fun z3 => ?_) (fun z3 => ?_) | with_reducible refine c_ne ?_ ?_ (fun z3 => ?_) (fun z3 => ?_)
          · omega
          · omega
          · rw [show (kk : Int) + -1 = (kk : Int) - 1 by omega]
            exact ih (by omega) G hG hp hv hx _ _ _
          · omega
        · rw [if_pos z2] at plS
          have at' : ∀ j, j < szA al t → F.getD (pl kk + j) (0, 0) = (t, j) := fun j hj => by
            have := plC_at (o := g 40) (P := stP g town (dy : Int)) (sz := szA al) (k := kk) (n := nt) (j := j) (by omega) (by rw [show (g 40 kk).toNat = t by omega]; exact z2) (by rw [show (g 40 kk).toNat = t by omega]; exact hj)
            rw [show (g 40 kk).toNat = t by omega] at this
            rw [eF, epl]; exact this
          have plM : pl (kk + 1) ≤ pl nt := by rw [epl]; exact plC_le hkk
          have inner : ∀ j : Nat, j ≤ szA al t → ∀ G, Ch [39, 46, 47] [] g1 G → (∀ q, q ≠ 13 → q ≠ 14 → G 39 q = g1 39 q) → VW G (cnF al F) F.length (pl kk + j) (g 39 11 + 1) → askP (g 45) (cnF al F) F.length s (pl kk + j) = askP (g 45) (cnF al F) F.length s F.length → ∀ x9 : Int, aX3_ask T (d + 5) Q X 93 [some (mx_R 39), some (mx_I (a : Int)), some (mx_I x2), some (mx_J x3), none, some (mx_I x5), some (mx_I (s : Int)), some (mx_I (kk : Int)), some (mx_I (t : Int)), some (mx_I x9), some (mx_I (((A + j : Nat) : Int) - 1))] [] G (0, 0) := by
            intro j
            induction j with
            | zero =>
              intro _ G hG hp hv hx x9
              have q := frm G hG
              refine zX3_ask_93 ?_
              refine s_inN ?_ (fun ea => ?_)
              · omega
              try simp only [ea]
              clear ea
              rw [q 43 (by decide) (by decide) (by decide) (by decide), f1]
              first | with_reducible refine c_lt ?_ ?_ (fun z3 => ?_) (fun z3 => ?_) | with_reducible refine c_le ?_ ?_ (fun z3 => ?_) (fun z3 => ?_) | with_reducible refine c_eq ?_ ?_ (fun z3 => ?_) (fun z3 => ?_) | with_reducible refine c_ne ?_ ?_ (fun z3 => ?_) (fun z3 => ?_)
              · omega
              · omega
              · rw [show (kk : Int) + -1 = (kk : Int) - 1 by omega]
                exact ih (by omega) G hG hp hv hx _ _ _
              · omega
            | succ j ihj =>
              intro hj G hG hp hv hx x9
              have q := frm G hG
              have hjl : j < (al t).length := by unfold szA at hj; omega
              obtain ⟨b0, la, lb⟩ := f3 j hjl
              have hpF : pl kk + j < F.length := by rw [ML]; omega
              have ecn : cnF al F (pl kk + j) = (al t).getD j (0, 0, 0, [], []) := by
                unfold cnF; rw [at' j (by omega)]
              rw [← ecn] at la lb
              have awf := lp.2 _ hpF
              have lcq : ∀ G', (∀ q, q ≠ 39 → q ≠ 46 → q ≠ 47 → q ≠ 99 → G' q = g q) → LnC G' (A + j) (cnF al F (pl kk + j)) b0 := fun G' q' => la.same (fun p hp => q' p (by simp at hp; omega) (by simp at hp; omega) (by simp at hp; omega) (by simp at hp; omega))
              have lc : ∀ G', (∀ q, q ≠ 39 → q ≠ 46 → q ≠ 47 → q ≠ 99 → G' q = g q) → LC G' (cnF al F (pl kk + j)) (A + j) := fun G' q' => by
                have w := lcq G' q'
                exact ⟨by omega, w.2.2.2.1, w.2.2.2.2.1, w.2.2.2.2.2.1⟩
              have aS : askP (g 45) (cnF al F) F.length s (pl kk + (j + 1)) = if (cnF al F (pl kk + j)).2.1 = (s : Int) ∧ ¬ vd (cnF al F) F.length (pl kk + j) ∧ spk (g 45) (cnF al F (pl kk + j)) then cv s (spv (g 45) (cnF al F (pl kk + j))) else askP (g 45) (cnF al F) F.length s (pl kk + j) := rfl
              rw [aS] at hx
              have nx : ∀ G', Ch [39, 46, 47] [] g1 G' → (∀ q, q ≠ 13 → q ≠ 14 → G' 39 q = g1 39 q) → VW G' (cnF al F) F.length (pl kk + j + 1) (g 39 11 + 1) → ¬ ((cnF al F (pl kk + j)).2.1 = (s : Int) ∧ ¬ vd (cnF al F) F.length (pl kk + j) ∧ spk (g 45) (cnF al F (pl kk + j))) → aX3_ask T (d + 5) Q X 166 [some (mx_R 39), some (mx_I (a : Int)), some (mx_I x2), some (mx_J x3), none, some (mx_I x5), some (mx_I (s : Int)), some (mx_I (kk : Int)), some (mx_I (t : Int)), some (mx_I x9), some (mx_I ((A + j : Nat) : Int))] [] G' (0, 0) := by
                intro G' hG' hp' hv' hn
                rw [if_neg hn] at hx
                refine zX3_ask_166 (sX3_noteVoid (d := d + 4) lp hpF (lc G' (frm G' hG')) hv' (fun G2 hG2 hv2 => ?_))
                rw [show ((A + j : Nat) : Int) + -1 = ((A + j : Nat) : Int) - 1 by omega]
                exact ihj (by omega) G2 (hG'.tr (hG2.sub (by decide) (by decide))) (fun p p1 p2 => by rw [hG2.1 39 (by decide) (by decide)]; exact hp' p p1 p2) hv2 hx x9
              refine zX3_ask_93 ?_
              rw [show ((A + (j + 1) : Nat) : Int) - 1 = ((A + j : Nat) : Int) by omega]
              refine s_inN ?_ (fun ea => ?_)
              · omega
              try simp only [ea]
              clear ea
              rw [q 43 (by decide) (by decide) (by decide) (by decide), f1]
              first | with_reducible refine c_lt ?_ ?_ (fun z3 => ?_) (fun z3 => ?_) | with_reducible refine c_le ?_ ?_ (fun z3 => ?_) (fun z3 => ?_) | with_reducible refine c_eq ?_ ?_ (fun z3 => ?_) (fun z3 => ?_) | with_reducible refine c_ne ?_ ?_ (fun z3 => ?_) (fun z3 => ?_)
              · omega
              · omega
              · omega
              · refine s_inN ?_ (fun ea => ?_)
                · omega
                try simp only [ea]
                clear ea
                have e32 := (lc G q).2.2.1
                have sr : 0 ≤ (cnF al F (pl kk + j)).2.1 ∧ (cnF al F (pl kk + j)).2.1 ≤ 9 := awf.1
                rw [e32]
                first | with_reducible refine c_lt ?_ ?_ (fun z4 => ?_) (fun z4 => ?_) | with_reducible refine c_le ?_ ?_ (fun z4 => ?_) (fun z4 => ?_) | with_reducible refine c_eq ?_ ?_ (fun z4 => ?_) (fun z4 => ?_) | with_reducible refine c_ne ?_ ?_ (fun z4 => ?_) (fun z4 => ?_)
                · omega
                · omega
                · exact nx G hG hp hv (fun y => z4 y.1)
                · refine sX3_isVoid (d := d + 4) lp hpF (lc G q) hv ?_
                  first | with_reducible refine b_eq (fun z5 => ?_) (fun z5 => ?_) | with_reducible refine b_ne (fun z5 => ?_) (fun z5 => ?_)
                  · exact nx G hG hp hv (fun y => y.2.1 z5)
                  · refine sX3_speaks (d := d + 1) (lcq G q) awf (by omega) (by omega) (by omega) (fun G2 hG2 hp2 hv2 => ?_)
                    rw [q 45 (by decide) (by decide) (by decide) (by decide)] at hv2 ⊢
                    have cG2 : Ch [39, 46, 47] [] g1 G2 := hG.tr (hG2.sub (by decide) (by decide))
                    have pG2 : ∀ q, q ≠ 13 → q ≠ 14 → G2 39 q = g1 39 q := fun p p1 p2 => (hp2 p p1 p2).trans (hp p p1 p2)
                    have vG2 : VW G2 (cnF al F) F.length (pl kk + j + 1) (g 39 11 + 1) := VW.fr hv (hp2 11 (by decide) (by decide)) (hG2.1 46 (by decide) (by decide))
                    first | with_reducible refine b_eq (fun z6 => ?_) (fun z6 => ?_) | with_reducible refine b_ne (fun z6 => ?_) (fun z6 => ?_)
                    · exact nx G2 cG2 pG2 vG2 (fun y => z6 y.2.2)
                    · refine s_inN ?_ (fun ea => ?_)
                      · omega
                      try simp only [ea]
                      clear ea
                      refine s_inN ?_ (fun ea => ?_)
                      · omega
                      try simp only [ea]
                      clear ea
                      refine s_inE (0) ?_ ?_ (fun ea => ?_)
                      · omega
                      · omega
                      try simp only [ea]
                      clear ea
                      rw [(mos_w s hs).1, (mos_w s hs).2, hv2 z6]
                      refine sMin (sMax ?_)
                      rw [if_pos ⟨by omega, z5, z6⟩] at hx
                      exact fin G2 _ cG2 pG2 vG2 _ hx
          refine s_inN ?_ (fun ea => ?_)
          · omega
          try simp only [ea]
          clear ea
          refine s_inN ?_ (fun ea => ?_)
          · omega
          try simp only [ea]
          clear ea
          rw [q 43 (by decide) (by decide) (by decide) (by decide), q 44 (by decide) (by decide) (by decide) (by decide), f1, y6]
          refine zX3_ask_85 ?_
          rw [show (A : Int) + ((al t).length : Int) - 1 = ((A + szA al t : Nat) : Int) - 1 by unfold szA; omega]
          exact inner (szA al t) (Nat.le_refl _) G hG hp (by rw [← plS]; exact hv) (by rw [← plS]; exact hx) _
  refine main nt (Nat.le_refl _) g1 (Ch.rf g1) (fun _ _ _ => rfl) ?_ (by rw [ML]) none none none
  rw [← ML]
  refine ⟨by rw [e1, up_s], by omega, fun v hv => ?_⟩
  have := hk2 v hv
  rw [e1, up_q (by decide)]
  refine ⟨by omega, fun y => by omega, ?_⟩
  rw [exv_iff]
  rintro ⟨q, q1, q2, _⟩
  omega
