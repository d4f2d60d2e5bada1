/-! readSays of the reference -/
theorem sX12_readSays {T : Nat × (Nat → Int32)} {d : Nat} {Q : mz_K} {X : mz_X} {g : mz_S} {n N tt B l : Nat} {s : pS} (hW : RdW g n N tt) (h : RdR g n N tt B 0 s g) (h0 : s.2.2.2 = []) (hl : l < 144) (hB : 2 * B ≤ 3 * plcT g n s.1 + 6) (hd : 170 ≤ d)
    (k : ∀ G' g', SayR g G' l (700 * tt + B) → ((psay (tokR (g 119) n N) s).2.2.2.1 = 0 → G' 124 l = (psay (tokR (g 119) n N) s).1 ∧ ((psay (tokR (g 119) n N) s).1 = 9 → G' 126 l = (psay (tokR (g 119) n N) s).2.1) ∧ ((psay (tokR (g 119) n N) s).1 = 7 → (psay (tokR (g 119) n N) s).2.2.2.2.2 = [(154, G' 126 l)])) → RdR G' n N tt B 0 (psayR (tokR (g 119) n N) s) g' → Q 0 g') : zC T (d + 1) 262 [mx_R 99, mx_I (l : Int)] g Q X := by
  have hN := hW.pN
  have hn1 := hW.2.1
  have hsN := h.2.2.2.2.2.1
  have hr := pkR_rng (c := g) (n := n) hsN
  have hfb := h.fb
  have h32 := h.2.2.1
  obtain ⟨d, rfl⟩ : ∃ d', d = d' + 8 := ⟨d - 8, by omega⟩
  refine zX12_readSays (sX12_saysNow h ?_)
  by_cases z1 : 128 ≤ pk (tokR (g 119) n N) s ∧ pk (tokR (g 119) n N) s ≤ 135
  · have hs := pM_adv hN (s := s) (by omega)
    have pa := (plc_adv (plcH_R hW) (s := s) (by omega)).1
    have f32 : g 99 32 = 0 := by rw [h32]; exact hs.2.1
    rw [if_pos z1, f32]
    refine ⟨fun y => absurd rfl y, fun _ => ?_⟩
    -- the sort
    obtain ⟨S, hS⟩ : ∃ S, S = (if pk (tokR (g 119) n N) s ≤ 131 then pk (tokR (g 119) n N) s - 128 else pk (tokR (g 119) n N) s - 126) := ⟨_, rfl⟩
    rw [← hS]
    have hSr : 0 ≤ S ∧ S ≤ 9 := by rw [hS]; split <;> omega
    have at22 : aX12_readSays T (d + 8) Q X 22 [some (mx_R 99), some (mx_I (l : Int)), some (mx_I S), none] [] g (0, 0) := by
      refine zX12_readSays_22 ?_
      rw [f32]
      refine ⟨fun _ => sX12_next hW h (by omega) (fun g1 r1 => ?_), fun y => absurd rfl y⟩
      have f1 : SayR g g1 l (700 * tt + B) := (SayR.rf g l _).mem r1
      refine s_inN ?_ (fun ea => ?_)
      · omega
      try simp only [ea]
      clear ea
      intro g2 e2
      have f2 : SayR g g2 l (700 * tt + B) := by rw [e2]; exact f1.up (Or.inl rfl) S
      obtain ⟨hW2, t2⟩ := f2.w hW
      have r2 : RdR g2 n N tt B 0 (padv s) g2 := r1.re h0 (by rw [e2]; exact up_ch (by decide))
      have v124 : g2 124 l = S := by rw [e2, up_s]
      have ea : (padv s).1 = s.1 + 1 := rfl
      -- a sum behind it
      have sum : ∀ (G' : mz_S) (s2 : pS) (so x2 : Int) (o3 : Option mx_v), x2 < 7 ∧ 0 ≤ x2 → SayR g G' l (700 * tt + B) → RdR G' n N tt B 0 s2 G' → s2.2.2.2 = [] → plcT g n s.1 ≤ plcT g n s2.1 → (∀ g', RdR G' n N tt B 0 (prs (tokR (g 119) n N) pF 4 0 s2) g' → Q 0 g') → aX12_readSays T (d + 8) Q X 167 [some (mx_R 99), some (mx_I (l : Int)), some (mx_I x2), o3] [] G' (0, 0) := by
        intro G' s2 so x2 o3 hx fG rG p0 hpl kk
        obtain ⟨hWG, tG⟩ := fG.w hW
        refine zX12_readSays_167 ?_
        first | with_reducible refine c_lt ?_ ?_ (fun y => ?_) (fun y => ?_) | with_reducible refine c_le ?_ ?_ (fun y => ?_) (fun y => ?_) | with_reducible refine c_eq ?_ ?_ (fun y => ?_) (fun y => ?_) | with_reducible refine c_ne ?_ ?_ (fun y => ?_) (fun y => ?_)
        · omega
        · omega
        · omega
        · refine (SR_all (B := B) hWG pF).1.2.2.1 0 s2 (d + 8) _ _ G' ⟨by omega, ?_, rG, ?_⟩ (by unfold depR; omega) (fun g4 hg4 => zX12_readSays_177 ?_)
          · have : pM N s2 ≤ 16 * N := by unfold pM; split <;> omega
            show pM N s2 + 4 < 7000
            omega
          · rw [p0]
            have e : plcT G' n s2.1 = plcT g n s2.1 := by unfold plcT; rw [tG]
            rw [e]
            show 2 * (B + 0) ≤ _
            omega
          · rw [tG] at hg4; exact kk g4 hg4
      by_cases y3 : pk (tokR (g 119) n N) s = 131
      · -- rank
        have eS : S = 3 := by rw [hS, y3]; decide
        have ps : psay (tokR (g 119) n N) s = (3 + (pcho (tokR (g 119) n N) 140 145 146 (padv s)).1, 0, prs (tokR (g 119) n N) pF 4 0 (pcho (tokR (g 119) n N) 140 145 146 (padv s)).2) := by
          unfold psay; rw [if_pos z1, if_neg (by omega), if_neg (by omega), if_neg (by omega), if_pos y3]
        have cr := pG.cho hN (a := 140) (b := 145) (c := 146) (by omega) (by omega) (by omega) (s := padv s)
        have psR : psayR (tokR (g 119) n N) s = prs (tokR (g 119) n N) pF 4 0 (pcho (tokR (g 119) n N) 140 145 146 (padv s)).2 := by
          unfold psayR; rw [ps]; dsimp only; rw [if_pos (by omega)]
        rw [ps, psR] at k
        dsimp only at k
        rw [eS]
        refine ⟨fun y => absurd rfl y, fun _ => ?_⟩
        refine sX12_whomNow r2 ?_
        rw [t2]
        obtain ⟨W, hWW⟩ : ∃ W, W = (if pk (tokR (g 119) n N) (padv s) = 140 then (0 : Int) else if pk (tokR (g 119) n N) (padv s) = 145 then 1 else if pk (tokR (g 119) n N) (padv s) = 146 then 2 else -1) := ⟨_, rfl⟩
        rw [← hWW]
        by_cases y4 : pk (tokR (g 119) n N) (padv s) = 140 ∨ pk (tokR (g 119) n N) (padv s) = 145 ∨ pk (tokR (g 119) n N) (padv s) = 146
        · have ch : pcho (tokR (g 119) n N) 140 145 146 (padv s) = (W, padv (padv s)) := by
            unfold pcho
            rcases y4 with y | y | y
            · rw [if_pos y, hWW, if_pos y]
            · rw [if_neg (by omega), if_pos y, hWW, if_neg (by omega), if_pos y]
            · rw [if_neg (by omega), if_neg (by omega), if_pos y, hWW, if_neg (by omega), if_neg (by omega), if_pos y]
          have Wr : 0 ≤ W ∧ W ≤ 2 := by rw [ch] at cr; exact cr.2.2
          rw [ch] at k
          dsimp only at k
          first | with_reducible refine c_lt ?_ ?_ (fun y5 => ?_) (fun y5 => ?_) | with_reducible refine c_le ?_ ?_ (fun y5 => ?_) (fun y5 => ?_) | with_reducible refine c_eq ?_ ?_ (fun y5 => ?_) (fun y5 => ?_) | with_reducible refine c_ne ?_ ?_ (fun y5 => ?_) (fun y5 => ?_)
          · omega
          · omega
          · refine zX12_readSays_61 ?_
            have f232 : g2 99 32 = 0 := by rw [r2.2.2.1]; exact hs.2.1
            rw [f232]
            refine ⟨fun _ => ?_, fun y => absurd rfl y⟩
            refine s_inN ?_ (fun ea => ?_)
            · omega
            try simp only [ea]
            clear ea
            intro g3 e3
            have f3 : SayR g g3 l (700 * tt + B) := by rw [e3]; exact f2.up (Or.inl rfl) _
            obtain ⟨hW3, t3⟩ := f3.w hW
            have r3 : RdR g3 n N tt B 0 (padv s) g3 := r2.re h0 (by rw [e3]; exact up_ch (by decide))
            have v3 : g3 124 l = 3 + W := by rw [e3, up_s]
            refine sX12_next hW3 r3 (by rw [t3]; omega) (fun g4 r4 => ?_)
            have f4 : SayR g g4 l (700 * tt + B) := f3.mem r4
            have r4' : RdR g4 n N tt B 0 (padv (padv s)) g4 := r4.re h0 (Ch.rf g4)
            have pb := (plc_adv (plcH_R hW) (s := padv s) (by omega)).1
            have v4 : g4 124 l = 3 + W := by rw [r4.1.1 124 (by decide) (by decide)]; exact v3
            refine sum g4 (padv (padv s)) (3 + W) 3 _ (by omega) f4 r4' h0 (by omega) (fun g5 r5 => k g4 g5 f4 (fun _ => ⟨v4, fun y => by omega, fun y => by omega⟩) r5)
          · omega
        · have eW : W = -1 := by rw [hWW, if_neg (by omega), if_neg (by omega), if_neg (by omega)]
          have ch : pcho (tokR (g 119) n N) 140 145 146 (padv s) = (0, pfail (tokR (g 119) n N) 2 (padv s)) := by
            unfold pcho; rw [if_neg (by omega), if_neg (by omega), if_neg (by omega)]
          have hbf : ¬ (pfail (tokR (g 119) n N) 2 (padv s)).2.1 = 0 := ft_fail (by decide)
          rw [ch] at k
          dsimp only at k
          rw [prs_bad _ _ 4 (by decide) _ _ hbf] at k
          rw [eW]
          refine ⟨fun y => absurd rfl y, fun _ => ?_⟩
          refine sX12_wrong r2 (by omega) (fun g3 r3 => ?_)
          rw [t2] at r3
          refine zX12_readSays_61 ?_
          have b3 := r3.fb
          rw [r3.2.2.1] at b3 ⊢
          first | with_reducible refine c_lt ?_ ?_ (fun y5 => ?_) (fun y5 => ?_) | with_reducible refine c_le ?_ ?_ (fun y5 => ?_) (fun y5 => ?_) | with_reducible refine c_eq ?_ ?_ (fun y5 => ?_) (fun y5 => ?_) | with_reducible refine c_ne ?_ ?_ (fun y5 => ?_) (fun y5 => ?_)
          · omega
          · omega
          · exact absurd y5 hbf
          · exact k g2 g3 f2 (fun y => absurd y hbf) r3
      · have n3 : ¬ S = 3 := by rw [hS]; split <;> omega
        first | with_reducible refine c_lt ?_ ?_ (fun x3 => ?_) (fun x3 => ?_) | with_reducible refine c_le ?_ ?_ (fun x3 => ?_) (fun x3 => ?_) | with_reducible refine c_eq ?_ ?_ (fun x3 => ?_) (fun x3 => ?_) | with_reducible refine c_ne ?_ ?_ (fun x3 => ?_) (fun x3 => ?_)
        · omega
        · omega
        · by_cases y7 : pk (tokR (g 119) n N) s = 133
          · -- loss
            have eS : S = 7 := by rw [hS, y7]; decide
            have ps : psay (tokR (g 119) n N) s = (7, 0, pemit 154 (pcho (tokR (g 119) n N) 148 147 147 (padv s)).1 (pcho (tokR (g 119) n N) 148 147 147 (padv s)).2) := by
              unfold psay; rw [if_pos z1, if_neg (by omega), if_neg (by omega), if_pos y7]
            have psR : psayR (tokR (g 119) n N) s = pre0 (pemit 154 (pcho (tokR (g 119) n N) 148 147 147 (padv s)).1 (pcho (tokR (g 119) n N) 148 147 147 (padv s)).2) := by
              unfold psayR; rw [ps]; dsimp only; rw [if_neg (by omega)]
            rw [ps, psR] at k
            dsimp only at k
            rw [eS]
            refine ⟨fun y => absurd rfl y, fun _ => ?_⟩
            refine sW_teller r2 ?_
            rw [t2]
            -- behind the look at the word
            have done : ∀ (g3 : mz_S) (v : Int) (sX : pS), SayR g g3 l (700 * tt + B) → RdR g3 n N tt B 0 sX g3 → sX.2.2.2 = [] → g3 126 l = v → g3 124 l = 7 → pcho (tokR (g 119) n N) 148 147 147 (padv s) = (if sX.2.1 = 0 then v else 0, sX) → aX12_readSays T (d + 8) Q X 167 [some (mx_R 99), some (mx_I (l : Int)), some (mx_I 7), none] [] g3 (0, 0) := by
              intro g3 v sX f3 r3 p0 v126 v7 ch
              rw [ch] at k
              dsimp only at k
              refine zX12_readSays_167 ⟨fun _ => zX12_readSays_177 (k g3 g3 f3 (fun y => ?_) ?_), fun y => absurd (by decide) y⟩
              · rw [ft_emit] at y
                refine ⟨v7, fun y9 => absurd y9 (by decide), fun _ => ?_⟩
                rw [(len_emit y).1, p0, if_pos y, v126]; rfl
              · have e : pre0 (pemit 154 (if sX.2.1 = 0 then v else 0) sX) = sX := by
                  unfold pre0 pemit
                  split
                  · rw [← p0]
                  · rw [← p0]
                rw [e]; exact r3
            have at111 : ∀ v : Int, v = (if pk (tokR (g 119) n N) (padv s) = 147 then 1 else 0) → aX12_readSays T (d + 8) Q X 111 [some (mx_R 99), some (mx_I (l : Int)), some (mx_I 7), none] [mx_I v, mx_I (l : Int), mx_R 126] g2 (0, 0) := by
              intro v hv
              refine zX12_readSays_111 ?_
              refine s_inN ?_ (fun ea => ?_)
              · omega
              try simp only [ea]
              clear ea
              intro g3 e3
              have f3 : SayR g g3 l (700 * tt + B) := by rw [e3]; exact f2.up (Or.inr rfl) _
              obtain ⟨hW3, t3⟩ := f3.w hW
              have r3 : RdR g3 n N tt B 0 (padv s) g3 := r2.re h0 (by rw [e3]; exact up_ch (by decide))
              have v126 : g3 126 l = v := by rw [e3, up_s]
              have v7 : g3 124 l = 7 := by rw [e3, up_q (by decide), v124, eS]
              have good : (pk (tokR (g 119) n N) (padv s) = 147 ∨ pk (tokR (g 119) n N) (padv s) = 148) → aX12_readSays T (d + 8) Q X 137 [some (mx_R 99), some (mx_I (l : Int)), some (mx_I 7), none] [] g3 (0, 0) := by
                intro y
                have f332 : g3 99 32 = 0 := by rw [r3.2.2.1]; exact hs.2.1
                refine zX12_readSays_137 ?_
                rw [f332]
                refine ⟨fun y => absurd rfl y, fun _ => sX12_next hW3 r3 (by rw [t3]; omega) (fun g4 r4 => ?_)⟩
                refine done g4 v (padv (padv s)) (f3.mem r4) (r4.re h0 (Ch.rf g4)) h0 (by rw [r4.1.1 126 (by decide) (by decide)]; exact v126) (by rw [r4.1.1 124 (by decide) (by decide)]; exact v7) ?_
                have hft : (padv (padv s)).2.1 = 0 := hs.2.1
                rw [if_pos hft]
                unfold pcho
                rcases y with y | y
                · rw [if_neg (by omega), if_pos y, hv, if_pos y]
                · rw [if_pos y, hv, if_neg (by omega)]
              refine sW_teller r3 ?_
              rw [t3]
              first | with_reducible refine b_eq (fun y1 => ?_) (fun y1 => ?_) | with_reducible refine b_ne (fun y1 => ?_) (fun y1 => ?_)
              · exact good (Or.inl y1)
              · refine sW_payer r3 ?_
                rw [t3]
                first | with_reducible refine b_eq (fun y2 => ?_) (fun y2 => ?_) | with_reducible refine b_ne (fun y2 => ?_) (fun y2 => ?_)
                · exact good (Or.inr y2)
                · refine sX12_wrong r3 (by omega) (fun g4 r4 => ?_)
                  rw [t3] at r4
                  have hbf : ¬ (pfail (tokR (g 119) n N) 2 (padv s)).2.1 = 0 := ft_fail (by decide)
                  refine zX12_readSays_137 ?_
                  have b4 := r4.fb
                  have e4 := r4.2.2.1
                  first | with_reducible refine c_lt ?_ ?_ (fun y5 => ?_) (fun y5 => ?_) | with_reducible refine c_le ?_ ?_ (fun y5 => ?_) (fun y5 => ?_) | with_reducible refine c_eq ?_ ?_ (fun y5 => ?_) (fun y5 => ?_) | with_reducible refine c_ne ?_ ?_ (fun y5 => ?_) (fun y5 => ?_)
                  · omega
                  · omega
                  · refine done g4 v (pfail (tokR (g 119) n N) 2 (padv s)) (f3.mem r4) (r4.re (by rw [pr_fail]; exact h0) (Ch.rf g4)) (by rw [pr_fail]; exact h0) (by rw [r4.1.1 126 (by decide) (by decide)]; exact v126) (by rw [r4.1.1 124 (by decide) (by decide)]; exact v7) ?_
                    rw [if_neg hbf]
                    unfold pcho
                    rw [if_neg y2, if_neg y1, if_neg y1]
                  · exact absurd (by rw [← e4]; exact y5) hbf
            first | with_reducible refine b_eq (fun y1 => ?_) (fun y1 => ?_) | with_reducible refine b_ne (fun y1 => ?_) (fun y1 => ?_)
            · exact at111 0 (by rw [if_neg y1])
            · exact at111 1 (by rw [if_pos y1])
          · have n7 : ¬ S = 7 := by rw [hS]; split <;> omega
            first | with_reducible refine c_lt ?_ ?_ (fun x7 => ?_) (fun x7 => ?_) | with_reducible refine c_le ?_ ?_ (fun x7 => ?_) (fun x7 => ?_) | with_reducible refine c_eq ?_ ?_ (fun x7 => ?_) (fun x7 => ?_) | with_reducible refine c_ne ?_ ?_ (fun x7 => ?_) (fun x7 => ?_)
            · omega
            · omega
            · by_cases y9 : pk (tokR (g 119) n N) s = 135
              · -- void
                have eS : S = 9 := by rw [hS, y9]; decide
                have ps : psay (tokR (g 119) n N) s = (9, (pnum (tokR (g 119) n N) (padv s)).1, (pnum (tokR (g 119) n N) (padv s)).2) := by
                  unfold psay; rw [if_pos z1, if_pos y9]
                have p0 : (pnum (tokR (g 119) n N) (padv s)).2.2.2.2 = [] := by rw [pr_num]; exact h0
                have psR : psayR (tokR (g 119) n N) s = (pnum (tokR (g 119) n N) (padv s)).2 := by
                  unfold psayR; rw [ps]; dsimp only; rw [if_neg (by omega)]; unfold pre0; rw [← p0]
                rw [ps, psR] at k
                dsimp only at k
                rw [eS]
                refine ⟨fun y => absurd rfl y, fun _ => ?_⟩
                refine sX12_readNumber hW2 r2 (fun g3 r3 => ?_)
                rw [t2] at r3 ⊢
                have f3 : SayR g g3 l (700 * tt + B) := f2.mem r3
                refine s_inN ?_ (fun ea => ?_)
                · omega
                try simp only [ea]
                clear ea
                intro g4 e4
                have f4 : SayR g g4 l (700 * tt + B) := by rw [e4]; exact f3.up (Or.inr rfl) _
                have r4 := r3.re p0 (c' := g4) (by rw [e4]; exact up_ch (by decide))
                refine zX12_readSays_167 ⟨fun _ => zX12_readSays_177 (k g4 g4 f4 (fun _ => ⟨?_, fun _ => by rw [e4, up_s], fun y => absurd y (by decide)⟩) r4), fun y => absurd (by decide) y⟩
                rw [e4, up_q (by decide), r3.1.1 124 (by decide) (by decide), v124, eS]
              · have n9 : ¬ S = 9 := by rw [hS]; split <;> omega
                first | with_reducible refine c_lt ?_ ?_ (fun x9 => ?_) (fun x9 => ?_) | with_reducible refine c_le ?_ ?_ (fun x9 => ?_) (fun x9 => ?_) | with_reducible refine c_eq ?_ ?_ (fun x9 => ?_) (fun x9 => ?_) | with_reducible refine c_ne ?_ ?_ (fun x9 => ?_) (fun x9 => ?_)
                · omega
                · omega
                · by_cases y8 : pk (tokR (g 119) n N) s = 134
                  · -- ban
                    have eS : S = 8 := by rw [hS, y8]; decide
                    have ps : psay (tokR (g 119) n N) s = (8, 0, pemit 154 1 (padv s)) := by
                      unfold psay; rw [if_pos z1, if_neg (by omega), if_pos y8]
                    have hft : (padv s).2.1 = 0 := hs.2.1
                    have psR : psayR (tokR (g 119) n N) s = padv s := by
                      unfold psayR; rw [ps]; dsimp only; rw [if_neg (by omega)]; unfold pre0 pemit; rw [if_pos hft]; dsimp only; rw [← h0]; rfl
                    rw [ps, psR] at k
                    dsimp only at k
                    rw [eS]
                    exact zX12_readSays_167 ⟨fun _ => zX12_readSays_177 (k g2 g2 f2 (fun _ => ⟨by rw [v124, eS], fun y => absurd y (by decide), fun y => absurd y (by decide)⟩) r2), fun y => absurd (by decide) y⟩
                  · -- fee, dies, bound, bears
                    have ps : psay (tokR (g 119) n N) s = (S, 0, prs (tokR (g 119) n N) pF 4 0 (padv s)) := by
                      unfold psay
                      rw [if_pos z1, if_neg y9, if_neg y8, if_neg y7, if_neg y3, hS]
                      split
                      · rfl
                      · rw [show pk (tokR (g 119) n N) s - 128 + 6 - 3 - 1 = pk (tokR (g 119) n N) s - 126 by omega]
                    have hS7 : S < 7 := by rw [hS]; split <;> omega
                    have psR : psayR (tokR (g 119) n N) s = prs (tokR (g 119) n N) pF 4 0 (padv s) := by
                      unfold psayR; rw [ps]; dsimp only; rw [if_pos hS7]
                    rw [ps, psR] at k
                    dsimp only at k
                    exact sum g2 (padv s) S S none (by omega) f2 r2 h0 (by omega) (fun g5 r5 => k g2 g5 f2 (fun _ => ⟨v124, fun y => absurd y n9, fun y => absurd y n7⟩) r5)
                · omega
            · omega
        · omega
    first | with_reducible refine c_lt ?_ ?_ (fun y => ?_) (fun y => ?_) | with_reducible refine c_le ?_ ?_ (fun y => ?_) (fun y => ?_) | with_reducible refine c_eq ?_ ?_ (fun y => ?_) (fun y => ?_) | with_reducible refine c_ne ?_ ?_ (fun y => ?_) (fun y => ?_)
    · omega
    · omega
    · exact at22
    · omega
  · rw [if_neg z1]
    have ps : psay (tokR (g 119) n N) s = (0, 0, pfail (tokR (g 119) n N) 2 s) := by unfold psay; rw [if_neg z1]
    have psR : psayR (tokR (g 119) n N) s = pfail (tokR (g 119) n N) 2 s := by unfold psayR; rw [ps]; rfl
    have hbf : ¬ (pfail (tokR (g 119) n N) 2 s).2.1 = 0 := ft_fail (by decide)
    rw [ps, psR] at k
    dsimp only at k
    have fin : ∀ (g' : mz_S) (x2 : Int), RdR g n N tt B 0 (pfail (tokR (g 119) n N) 2 s) g' → aX12_readSays T (d + 8) Q X 22 [some (mx_R 99), some (mx_I (l : Int)), some (mx_I x2), none] [] g' (0, 0) := by
      intro g' x2 r'
      refine zX12_readSays_22 ?_
      have b' := r'.fb
      have e' := r'.2.2.1
      first | with_reducible refine c_lt ?_ ?_ (fun y => ?_) (fun y => ?_) | with_reducible refine c_le ?_ ?_ (fun y => ?_) (fun y => ?_) | with_reducible refine c_eq ?_ ?_ (fun y => ?_) (fun y => ?_) | with_reducible refine c_ne ?_ ?_ (fun y => ?_) (fun y => ?_)
      · omega
      · omega
      · exact absurd (by rw [← e']; exact y) hbf
      · exact k g g' (SayR.rf g l _) (fun y => absurd y hbf) r'
    first | with_reducible refine c_lt ?_ ?_ (fun y0 => ?_) (fun y0 => ?_) | with_reducible refine c_le ?_ ?_ (fun y0 => ?_) (fun y0 => ?_) | with_reducible refine c_eq ?_ ?_ (fun y0 => ?_) (fun y0 => ?_) | with_reducible refine c_ne ?_ ?_ (fun y0 => ?_) (fun y0 => ?_)
    · omega
    · omega
    · have hb : ¬ s.2.1 = 0 := by rw [← h32]; exact y0
      refine fin g _ ?_
      rw [pfail_bad hb]; exact h
    · refine ⟨fun y => absurd rfl y, fun _ => sX12_wrong h (by omega) (fun g' r' => fin g' _ r')⟩
