/-! one; all members together -/
theorem SC_m6 {T : Nat × (Nat → Int32)} {c : mz_S} {N b b0 f : Nat} (hW : TkW c N) (hb0 : b0 ≤ 2000) (iha : SCa T c N b b0 f) : metC T c N b b0 (f + 1) 6 104 := by
  intro n s d Q X g hp hd k
  obtain ⟨p1, p2, p3, p4⟩ := hp
  have hN := hW.pN
  have hsN := p3.2.2.2.2.2.2.2.2.2
  have hr := pk_rng hW hsN
  have hn1 := hW.1
  unfold dep at hd
  obtain ⟨d, rfl⟩ : ∃ d', d = d' + 4 := ⟨d - 4, by omega⟩
  rw [prs_6] at k
  have e1 : (padv s).1 = s.1 + 1 := rfl
  have e2 : (padv s).2.2.2 = s.2.2.2 := rfl
  refine zX7_readOne (sX7_kind hW p3 ?_)
  first | with_reducible refine c_lt ?_ ?_ (fun z1 => ?_) (fun z1 => ?_) | with_reducible refine c_le ?_ ?_ (fun z1 => ?_) (fun z1 => ?_) | with_reducible refine c_eq ?_ ?_ (fun z1 => ?_) (fun z1 => ?_) | with_reducible refine c_ne ?_ ?_ (fun z1 => ?_) (fun z1 => ?_)
  · omega
  · omega
  · rw [if_neg z1] at k
    refine sX7_kind hW p3 ?_
    first | with_reducible refine c_lt ?_ ?_ (fun z2 => ?_) (fun z2 => ?_) | with_reducible refine c_le ?_ ?_ (fun z2 => ?_) (fun z2 => ?_) | with_reducible refine c_eq ?_ ?_ (fun z2 => ?_) (fun z2 => ?_) | with_reducible refine c_ne ?_ ?_ (fun z2 => ?_) (fun z2 => ?_)
    · omega
    · omega
    · rw [if_neg z2] at k
      have L := prs_L (tokC c N) f 4 (by decide) n s
      have G := prs_G hN f 4 (by decide) n s
      have M := pM_le hN (f := f) (sel := 4) (n := n) (s := s) (by decide)
      unfold pL at L
      refine iha.2.2.1 n s (d + 3) _ _ g ⟨p1, by omega, p3, p4⟩ (by unfold dep; omega) (fun g2 hg2 => ?_)
      generalize prs (tokC c N) f 4 n s = s1 at L G M hg2 k
      have hr1 := pk_rng hW (s := s1) hg2.2.2.2.2.2.2.2.2.2
      refine sX7_kind hW hg2 ?_
      have go : (pk (tokC c N) s1 = 60 ∨ pk (tokC c N) s1 = 62 ∨ pk (tokC c N) s1 = 61) → aX7_readOne T (d + 3) Q X 98 [some (mx_R 31), some (mx_I (n : Int)), some (mx_I (pk (tokC c N) s1))] [] g2 (0, 0) := by
        intro z
        rw [if_pos z] at k
        have hs := pM_adv hN (s := s1) (by omega)
        refine zX7_readOne_98 ?_
        rintro _ rfl
        have L2 := prs_L (tokC c N) f 4 (by decide) n (padv s1)
        have G2 := prs_G hN f 4 (by decide) n (padv s1)
        unfold pL at L2
        have e3 : (padv s1).1 = s1.1 + 1 := rfl
        have e4 : (padv s1).2.2.2 = s1.2.2.2 := rfl
        have G1 := G2.1
        have G3 := G2.2.1
        rw [e3, e4] at L2
        rw [e3] at G1 G3
        refine iha.2.2.1 n (padv s1) (d + 3) _ _ _ ⟨p1, by omega, hg2.adv hs.2.2, by rw [e3, e4]; omega⟩ (by unfold dep; omega) (fun g3 hg3 => ?_)
        exact sX7_emit hg3 (fun _ => by omega) (by omega) (by omega) (fun _ => rfl) (fun g4 hg4 => zX7_readOne_128 (k g4 hg4))
      first | with_reducible refine c_lt ?_ ?_ (fun y1 => ?_) (fun y1 => ?_) | with_reducible refine c_le ?_ ?_ (fun y1 => ?_) (fun y1 => ?_) | with_reducible refine c_eq ?_ ?_ (fun y1 => ?_) (fun y1 => ?_) | with_reducible refine c_ne ?_ ?_ (fun y1 => ?_) (fun y1 => ?_)
      · omega
      · omega
      · exact go (by omega)
      · first | with_reducible refine c_lt ?_ ?_ (fun y2 => ?_) (fun y2 => ?_) | with_reducible refine c_le ?_ ?_ (fun y2 => ?_) (fun y2 => ?_) | with_reducible refine c_eq ?_ ?_ (fun y2 => ?_) (fun y2 => ?_) | with_reducible refine c_ne ?_ ?_ (fun y2 => ?_) (fun y2 => ?_)
        · omega
        · omega
        · exact go (by omega)
        · first | with_reducible refine c_lt ?_ ?_ (fun y3 => ?_) (fun y3 => ?_) | with_reducible refine c_le ?_ ?_ (fun y3 => ?_) (fun y3 => ?_) | with_reducible refine c_eq ?_ ?_ (fun y3 => ?_) (fun y3 => ?_) | with_reducible refine c_ne ?_ ?_ (fun y3 => ?_) (fun y3 => ?_)
          · omega
          · omega
          · rw [if_neg (by omega)] at k
            exact sX7_fail hW hg2 (by omega) (fun g3 hg3 => zX7_readOne_128 (k g3 hg3))
          · exact go (by omega)
    · rw [if_pos z2] at k
      have hs := pM_adv hN (s := s) (by omega)
      refine sX7_opens hW p3 p1 hs.2.2 (fun h5 g' hg' => ?_) (fun h5 g' hg' => ?_)
      · rw [if_pos h5] at k
        exact ⟨fun _ => zX7_readOne_128 (k g' hg'), fun z => absurd rfl z⟩
      · rw [if_neg (by omega)] at k
        refine ⟨fun z => absurd z (by decide), fun _ => ?_⟩
        rw [show (n : Int) + 1 = ((n + 1 : Nat) : Int) by omega]
        refine iha.2.2.2.2.2 (n + 1) (padv s) (d + 3) _ _ g' ⟨by omega, by omega, hg', by rw [e1, e2]; omega⟩ (by unfold dep; omega) (fun g2 hg2 => ?_)
        exact sX7_take hW hg2 (by omega) (fun g3 hg3 => zX7_readOne_128 (k g3 hg3))
  · rw [if_pos z1] at k
    have hs := pM_adv hN (s := s) (by omega)
    refine sX7_opens hW p3 p1 hs.2.2 (fun h5 g' hg' => ?_) (fun h5 g' hg' => ?_)
    · rw [if_pos h5] at k
      exact ⟨fun _ => zX7_readOne_128 (k g' hg'), fun z => absurd rfl z⟩
    · rw [if_neg (by omega)] at k
      refine ⟨fun z => absurd z (by decide), fun _ => ?_⟩
      rw [show (n : Int) + 1 = ((n + 1 : Nat) : Int) by omega]
      have L2 := prs_L (tokC c N) f 6 (by decide) (n + 1) (padv s)
      have G2 := prs_G hN f 6 (by decide) (n + 1) (padv s)
      unfold pL at L2
      have G3 := G2.2.1
      rw [e1, e2] at L2
      rw [e1] at G3
      refine iha.2.2.2.1 (n + 1) (padv s) (d + 3) _ _ g' ⟨by omega, by omega, hg', by rw [e1, e2]; omega⟩ (by unfold dep; omega) (fun g2 hg2 => ?_)
      exact sX7_emit hg2 (fun _ => by omega) (by omega) (by omega) (fun _ => rfl) (fun g4 hg4 => zX7_readOne_128 (k g4 hg4))
theorem SC_all {T : Nat × (Nat → Int32)} {c : mz_S} {N b b0 : Nat} (hW : TkW c N) (hb0 : b0 ≤ 2000) (f : Nat) : SCa T c N b b0 f ∧ SCl T c N b b0 f := by
  induction f with
  | zero =>
    have h6 : ∀ sel m, metC T c N b b0 0 sel m := fun sel m n s d Q X g hp _ _ => absurd hp.2.1 (Nat.not_lt_zero _)
    exact ⟨⟨h6 _ _, h6 _ _, h6 _ _, h6 _ _, h6 _ _, h6 _ _⟩, fun n k s d Q X g u o hp _ _ _ => absurd hp.2.1 (Nat.not_lt_zero _), fun n k s d Q X g u o hp _ _ _ => absurd hp.2.1 (Nat.not_lt_zero _), fun n k s d Q X g u o hp _ _ _ => absurd hp.2.1 (Nat.not_lt_zero _), fun n k s d Q X g u o hp _ _ _ => absurd hp.2.1 (Nat.not_lt_zero _)⟩
  | succ f ih =>
    obtain ⟨iha, ihl⟩ := ih
    exact ⟨⟨SC_atom hW hb0 iha, SC_m2 hW iha ihl, SC_m4 hW iha ihl, SC_m6 hW hb0 iha, SC_m7 hW iha ihl, SC_m9 hW iha ihl⟩, fun n k s d Q X g u o hp hd hk kk => SC_l1 hW hb0 iha ihl n k s d Q X g u o hp hd hk kk, fun n k s d Q X g u o hp hd hk kk => SC_l3 hW hb0 iha ihl n k s d Q X g u o hp hd hk kk, fun n k s d Q X g u o hp hd hk kk => SC_l5 hW hb0 iha ihl n k s d Q X g u o hp hd hk kk, fun n k s d Q X g u o hp hd hk kk => SC_l8 hW hb0 iha ihl n k s d Q X g u o hp hd hk kk⟩
