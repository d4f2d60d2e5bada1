/-! one, and all members of the reference's reader together -/
theorem SR_m6 {T : Nat × (Nat → Int32)} {c : mz_S} {n N tt B f : Nat} (hW : RdW c n N tt) (iha : SRa T c n N tt B f) : metR T c n N tt B (f + 1) 6 258 := by
  intro op s d Q X g hp hd k
  obtain ⟨p1, p2, p3, p4⟩ := hp
  have hN := hW.pN
  have hn1 := hW.2.1
  have hr := pkR_rng (c := c) (n := n) p3.2.2.2.2.2.1
  have hfb := p3.fb
  have h32 := p3.2.2.1
  unfold depR at hd
  obtain ⟨d, rfl⟩ : ∃ d', d = d' + 8 := ⟨d - 8, by omega⟩
  have hn4 := hW.1
  have PH := plcH_R hW
  refine zX12_readOne ?_
  first | with_reducible refine c_lt ?_ ?_ (fun z0 => ?_) (fun z0 => ?_) | with_reducible refine c_le ?_ ?_ (fun z0 => ?_) (fun z0 => ?_) | with_reducible refine c_eq ?_ ?_ (fun z0 => ?_) (fun z0 => ?_) | with_reducible refine c_ne ?_ ?_ (fun z0 => ?_) (fun z0 => ?_)
  · omega
  · omega
  · rw [prs_6] at k
    refine sW_not p3 ?_
    first | with_reducible refine b_eq (fun z1 => ?_) (fun z1 => ?_) | with_reducible refine b_ne (fun z1 => ?_) (fun z1 => ?_)
    · rw [if_neg z1] at k
      refine sX12_isSign p3 (by omega) ?_
      first | with_reducible refine b_eq (fun z2 => ?_) (fun z2 => ?_) | with_reducible refine b_ne (fun z2 => ?_) (fun z2 => ?_)
      · rw [if_neg z2] at k
        have M := pM_le hN (f := f) (sel := 4) (n := op) (s := s) (by decide)
        have P : pPh (plcT c n) 1 s (prs (tokR (c 119) n N) f 4 op s) := prs_Ph PH f 4 (by decide) op s
        unfold pPh at P
        refine iha.2.2.1 op s (d + 7) _ _ g ⟨p1, by omega, p3, p4⟩ (by unfold depR; omega) (fun g2 r2 => ?_)
        generalize prs (tokR (c 119) n N) f 4 op s = s1 at M P r2 k
        have hr1 := pkR_rng (c := c) (n := n) (s := s1) r2.2.2.2.2.2.1
        have fb2 := r2.fb
        have h32b := r2.2.2.1
        have go : ∀ x : Int, x = opcR (pk (tokR (c 119) n N) s1) → (pk (tokR (c 119) n N) s1 = 60 ∨ pk (tokR (c 119) n N) s1 = 62 ∨ pk (tokR (c 119) n N) s1 = 61) → 9 ≤ x ∧ x ≤ 11 → aX12_readOne T (d + 7) Q X 135 [some (mx_R 99), none] [mx_I x] g2 (0, 0) := by
          intro x hx z hx2
          rw [if_pos z] at k
          have hs := pM_adv hN (s := s1) (by omega)
          have pa := (plc_adv PH (s := s1) (by omega)).1
          refine zX12_readOne_135 ?_
          first | with_reducible refine c_lt ?_ ?_ (fun y1 => ?_) (fun y1 => ?_) | with_reducible refine c_le ?_ ?_ (fun y1 => ?_) (fun y1 => ?_) | with_reducible refine c_eq ?_ ?_ (fun y1 => ?_) (fun y1 => ?_) | with_reducible refine c_ne ?_ ?_ (fun y1 => ?_) (fun y1 => ?_)
          · omega
          · omega
          · first | with_reducible refine c_lt ?_ ?_ (fun y2 => ?_) (fun y2 => ?_) | with_reducible refine c_le ?_ ?_ (fun y2 => ?_) (fun y2 => ?_) | with_reducible refine c_eq ?_ ?_ (fun y2 => ?_) (fun y2 => ?_) | with_reducible refine c_ne ?_ ?_ (fun y2 => ?_) (fun y2 => ?_)
            · omega
            · omega
            · refine sX12_next hW r2 (by omega) (fun g3 r3 => ?_)
              have e4 : (padv s1).2.2.2 = s1.2.2.2 := rfl
              have P2 : pPh (plcT c n) 1 (padv s1) (prs (tokR (c 119) n N) f 4 op (padv s1)) := prs_Ph PH f 4 (by decide) op (padv s1)
              unfold pPh at P2
              rw [e4] at P2
              have pl2 := plcT_le (c := c) (n := n) (prs (tokR (c 119) n N) f 4 op (padv s1)).1
              refine iha.2.2.1 op (padv s1) (d + 7) _ _ g3 ⟨p1, by omega, r3, by rw [e4]; omega⟩ (by unfold depR; omega) (fun g4 r4 => ?_)
              exact sX12_emit1 (k := pk (tokR (c 119) n N) s1) hW r4 (fun _ => by omega) hx (by omega) (fun g5 r5 => zX12_readOne_168 (k g5 r5))
            · omega
          · rw [h32b] at y1
            exact absurd hs.2.1 y1
        refine sX12_isSign r2 (by omega) ?_
        first | with_reducible refine b_eq (fun w1 => ?_) (fun w1 => ?_) | with_reducible refine b_ne (fun w1 => ?_) (fun w1 => ?_)
        · refine sX12_isSign r2 (by omega) ?_
          first | with_reducible refine b_eq (fun w2 => ?_) (fun w2 => ?_) | with_reducible refine b_ne (fun w2 => ?_) (fun w2 => ?_)
          · refine sX12_isSign r2 (by omega) ?_
            first | with_reducible refine b_eq (fun w3 => ?_) (fun w3 => ?_) | with_reducible refine b_ne (fun w3 => ?_) (fun w3 => ?_)
            · rw [if_neg (by omega)] at k
              refine zX12_readOne_135 ?_
              first | with_reducible refine c_lt ?_ ?_ (fun y1 => ?_) (fun y1 => ?_) | with_reducible refine c_le ?_ ?_ (fun y1 => ?_) (fun y1 => ?_) | with_reducible refine c_eq ?_ ?_ (fun y1 => ?_) (fun y1 => ?_) | with_reducible refine c_ne ?_ ?_ (fun y1 => ?_) (fun y1 => ?_)
              · omega
              · omega
              · refine ⟨fun y => absurd rfl y, fun _ => ?_⟩
                exact sX12_wrong r2 (by omega) k
              · have hb : ¬ s1.2.1 = 0 := by rw [← h32b]; exact y1
                rw [pfail_bad hb] at k
                exact k g2 r2
            · exact go 11 (by rw [w3]; rfl) (by omega) (by omega)
          · exact go 10 (by rw [w2]; rfl) (by omega) (by omega)
        · exact go 9 (by rw [w1]; rfl) (by omega) (by omega)
      · rw [if_pos z2] at k
        have hs := pM_adv hN (s := s) (by omega)
        have pa := (plc_adv PH (s := s) (by omega)).1
        refine sX12_opens hW p3 p1 (by omega) (fun h5 g' hg' => ?_) (fun h5 g' hg' => ?_)
        · rw [if_pos h5] at k
          exact ⟨fun y => absurd rfl y, fun _ => k g' hg'⟩
        · rw [if_neg (by omega)] at k
          refine ⟨fun _ => ?_, fun y => absurd (by decide) y⟩
          have e2 : (padv s).2.2.2 = s.2.2.2 := rfl
          refine iha.2.2.2.2.2 (op + 1) (padv s) (d + 7) _ _ g' ⟨by omega, by omega, hg', by rw [e2]; omega⟩ (by unfold depR; omega) (fun g2 r2 => ?_)
          refine sX12_need hW r2 (by omega) (fun g3 r3 => ?_)
          rintro _ rfl
          refine zX12_readOne_168 (k _ (r3.op (fun z => ?_)))
          have := (r3.2.2.2.2.2.2 z).2.1
          omega
    · rw [if_pos z1] at k
      have hs := pM_adv hN (s := s) (by omega)
      have pa := (plc_adv PH (s := s) (by omega)).1
      refine sX12_opens hW p3 p1 (by omega) (fun h5 g' hg' => ?_) (fun h5 g' hg' => ?_)
      · rw [if_pos h5] at k
        exact ⟨fun y => absurd rfl y, fun _ => k g' hg'⟩
      · rw [if_neg (by omega)] at k
        refine ⟨fun _ => ?_, fun y => absurd (by decide) y⟩
        have e2 : (padv s).2.2.2 = s.2.2.2 := rfl
        have P2 : pPh (plcT c n) 1 (padv s) (prs (tokR (c 119) n N) f 6 (op + 1) (padv s)) := prs_Ph PH f 6 (by decide) (op + 1) (padv s)
        unfold pPh at P2
        rw [e2] at P2
        have pl2 := plcT_le (c := c) (n := n) (prs (tokR (c 119) n N) f 6 (op + 1) (padv s)).1
        refine iha.2.2.2.1 (op + 1) (padv s) (d + 7) _ _ g' ⟨by omega, by omega, hg', by rw [e2]; omega⟩ (by unfold depR; omega) (fun g2 r2 => ?_)
        refine sX12_emit1 (k := 152) hW r2 (fun _ => by omega) rfl (by decide) (fun g3 r3 => ?_)
        rintro _ rfl
        refine zX12_readOne_168 (k _ (r3.op (fun z => ?_)))
        have := (r3.2.2.2.2.2.2 z).2.1
        omega
  · have hb : ¬ s.2.1 = 0 := by rw [← h32]; exact z0
    rw [prs_bad _ _ 6 (by decide) _ _ hb] at k
    exact k g p3
theorem SR_all {T : Nat × (Nat → Int32)} {c : mz_S} {n N tt B : Nat} (hW : RdW c n N tt) (f : Nat) : SRa T c n N tt B f ∧ SRl T c n N tt B f := by
  induction f with
  | zero =>
    have h6 : ∀ sel m, metR T c n N tt B 0 sel m := fun sel m op s d Q X g hp _ _ => absurd hp.2.1 (Nat.not_lt_zero _)
    exact ⟨⟨h6 _ _, h6 _ _, h6 _ _, h6 _ _, h6 _ _, h6 _ _⟩, fun op s d Q X g u o hp _ _ => absurd hp.2.1 (Nat.not_lt_zero _), fun op s d Q X g u o hp _ _ => absurd hp.2.1 (Nat.not_lt_zero _), fun op s d Q X g u o hp _ _ => absurd hp.2.1 (Nat.not_lt_zero _), fun op s d Q X g u o hp _ _ => absurd hp.2.1 (Nat.not_lt_zero _)⟩
  | succ f ih =>
    obtain ⟨iha, ihl⟩ := ih
    exact ⟨⟨SR_atom hW iha, SR_m2 hW iha ihl, SR_m4 hW iha ihl, SR_m6 hW iha, SR_m7 hW iha ihl, SR_m9 hW iha ihl⟩, fun op s d Q X g u o hp hd kk => SR_l1 hW iha ihl op s d Q X g u o hp hd kk, fun op s d Q X g u o hp hd kk => SR_l3 hW iha ihl op s d Q X g u o hp hd kk, fun op s d Q X g u o hp hd kk => SR_l5 hW iha ihl op s d Q X g u o hp hd kk, fun op s d Q X g u o hp hd kk => SR_l8 hW iha ihl op s d Q X g u o hp hd kk⟩
