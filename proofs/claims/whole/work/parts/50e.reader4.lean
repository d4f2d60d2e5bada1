/-! loops of the reader: items, sums, parts, tests -/
theorem SC_l1 {T : Nat × (Nat → Int32)} {c : mz_S} {N b b0 f : Nat} (hW : TkW c N) (hb0 : b0 ≤ 2000) (iha : SCa T c N b b0 f) (ihl : SCl T c N b b0 f) (n k : Nat) (s : pS) (d : Nat) (Q : mz_K) (X : mz_X) (g : mz_S) (u : Nat × Nat) (o : Option mx_v) (hp : PreC c N b b0 (f + 1) 1 n s g) (hd : dep 1 n ≤ d) (hk : k ≤ s.1) (kk : ∀ g', RdC c N b (prs (tokC c N) (f + 1) 1 n s) g' → Q 0 g') : aX7_readItem T d Q X 7 [some (mx_R 31), some (mx_I (n : Int)), some (mx_I (k : Int)), o] [] g u := by
  obtain ⟨p1, p2, p3, p4⟩ := hp
  have hN := hW.pN
  have hsN := p3.2.2.2.2.2.2.2.2.2
  have hr := pk_rng hW hsN
  have hn1 := hW.1
  unfold dep at hd
  obtain ⟨d, rfl⟩ : ∃ d', d = d' + 3 := ⟨d - 3, by omega⟩
  rw [prs_1] at kk
  have stop : ¬ (pk (tokC c N) s = 42 ∨ pk (tokC c N) s = 47 ∨ pk (tokC c N) s = 37) → aX7_readItem T (d + 3) Q X 74 [some (mx_R 31), some (mx_I (n : Int)), some (mx_I (k : Int)), o] [] g u := by
    intro z
    rw [if_neg z] at kk
    exact zX7_readItem_74 (kk g p3)
  have go : (pk (tokC c N) s = 42 ∨ pk (tokC c N) s = 47 ∨ pk (tokC c N) s = 37) → aX7_readItem T (d + 3) Q X 41 [some (mx_R 31), some (mx_I (n : Int)), some (mx_I (k : Int)), o] [] g u := by
    intro z
    rw [if_pos z] at kk
    have hs := pM_adv hN (s := s) (by omega)
    refine zX7_readItem_41 (sX7_kind hW p3 ?_)
    rintro _ rfl
    have L := prs_L (tokC c N) f 0 (by decide) n (padv s)
    have G := prs_G hN f 0 (by decide) n (padv s)
    have M := pM_le hN (f := f) (sel := 0) (n := n) (s := padv s) (by decide)
    unfold pL at L
    have e1 : (padv s).1 = s.1 + 1 := rfl
    have e2 : (padv s).2.2.2 = s.2.2.2 := rfl
    have G2 := G.2.1
    have G1 := G.1
    rw [e1, e2] at L
    rw [e1] at G1 G2
    refine iha.1 n (padv s) (d + 3) _ _ _ ⟨p1, by omega, p3.adv hs.2.2, by rw [e1, e2]; omega⟩ (by unfold dep; omega) (fun g2 hg2 => ?_)
    refine sX7_emit hg2 (fun _ => by omega) (by omega) (by omega) (fun _ => rfl) (fun g3 hg3 => ?_)
    rw [show (k : Int) + 1 = ((k + 1 : Nat) : Int) by omega]
    have ne := nx_emit (k := pk (tokC c N) s) (v := 0) (s := prs (tokC c N) f 0 n (padv s))
    refine ihl.1 n (k + 1) _ (d + 3) Q X g3 u _ ⟨p1, by rw [pM_emit]; omega, hg3, by rw [ne.1]; omega⟩ (by unfold dep; omega) (by rw [ne.1]; omega) kk
  refine zX7_readItem_7 ?_
  first | with_reducible refine c_lt ?_ ?_ (fun z0 => ?_) (fun z0 => ?_) | with_reducible refine c_le ?_ ?_ (fun z0 => ?_) (fun z0 => ?_) | with_reducible refine c_eq ?_ ?_ (fun z0 => ?_) (fun z0 => ?_) | with_reducible refine c_ne ?_ ?_ (fun z0 => ?_) (fun z0 => ?_)
  · omega
  · omega
  · refine stop (fun z => ?_)
    have := pk_n hN (s := s) (by omega)
    omega
  · refine sX7_kind hW p3 ?_
    first | with_reducible refine c_lt ?_ ?_ (fun y0 => ?_) (fun y0 => ?_) | with_reducible refine c_le ?_ ?_ (fun y0 => ?_) (fun y0 => ?_) | with_reducible refine c_eq ?_ ?_ (fun y0 => ?_) (fun y0 => ?_) | with_reducible refine c_ne ?_ ?_ (fun y0 => ?_) (fun y0 => ?_)
    · omega
    · omega
    · exact go (by omega)
    · refine sX7_kind hW p3 ?_
      first | with_reducible refine c_lt ?_ ?_ (fun y1 => ?_) (fun y1 => ?_) | with_reducible refine c_le ?_ ?_ (fun y1 => ?_) (fun y1 => ?_) | with_reducible refine c_eq ?_ ?_ (fun y1 => ?_) (fun y1 => ?_) | with_reducible refine c_ne ?_ ?_ (fun y1 => ?_) (fun y1 => ?_)
      · omega
      · omega
      · exact go (by omega)
      · refine sX7_kind hW p3 ?_
        first | with_reducible refine c_lt ?_ ?_ (fun y2 => ?_) (fun y2 => ?_) | with_reducible refine c_le ?_ ?_ (fun y2 => ?_) (fun y2 => ?_) | with_reducible refine c_eq ?_ ?_ (fun y2 => ?_) (fun y2 => ?_) | with_reducible refine c_ne ?_ ?_ (fun y2 => ?_) (fun y2 => ?_)
        · omega
        · omega
        · exact stop (by omega)
        · exact go (by omega)
theorem SC_l3 {T : Nat × (Nat → Int32)} {c : mz_S} {N b b0 f : Nat} (hW : TkW c N) (hb0 : b0 ≤ 2000) (iha : SCa T c N b b0 f) (ihl : SCl T c N b b0 f) (n k : Nat) (s : pS) (d : Nat) (Q : mz_K) (X : mz_X) (g : mz_S) (u : Nat × Nat) (o : Option mx_v) (hp : PreC c N b b0 (f + 1) 3 n s g) (hd : dep 3 n ≤ d) (hk : k ≤ s.1) (kk : ∀ g', RdC c N b (prs (tokC c N) (f + 1) 3 n s) g' → Q 0 g') : aX7_readSum T d Q X 7 [some (mx_R 31), some (mx_I (n : Int)), some (mx_I (k : Int)), o] [] g u := by
  obtain ⟨p1, p2, p3, p4⟩ := hp
  have hN := hW.pN
  have hsN := p3.2.2.2.2.2.2.2.2.2
  have hr := pk_rng hW hsN
  have hn1 := hW.1
  unfold dep at hd
  obtain ⟨d, rfl⟩ : ∃ d', d = d' + 3 := ⟨d - 3, by omega⟩
  rw [prs_3] at kk
  have stop : ¬ (pk (tokC c N) s = 43 ∨ pk (tokC c N) s = 45) → aX7_readSum T (d + 3) Q X 65 [some (mx_R 31), some (mx_I (n : Int)), some (mx_I (k : Int)), o] [] g u := by
    intro z
    rw [if_neg z] at kk
    exact zX7_readSum_65 (kk g p3)
  have go : (pk (tokC c N) s = 43 ∨ pk (tokC c N) s = 45) → aX7_readSum T (d + 3) Q X 32 [some (mx_R 31), some (mx_I (n : Int)), some (mx_I (k : Int)), o] [] g u := by
    intro z
    rw [if_pos z] at kk
    have hs := pM_adv hN (s := s) (by omega)
    refine zX7_readSum_32 (sX7_kind hW p3 ?_)
    rintro _ rfl
    have L := prs_L (tokC c N) f 2 (by decide) n (padv s)
    have G := prs_G hN f 2 (by decide) n (padv s)
    have M := pM_le hN (f := f) (sel := 2) (n := n) (s := padv s) (by decide)
    unfold pL at L
    have e1 : (padv s).1 = s.1 + 1 := rfl
    have e2 : (padv s).2.2.2 = s.2.2.2 := rfl
    have G2 := G.2.1
    have G1 := G.1
    rw [e1, e2] at L
    rw [e1] at G1 G2
    refine iha.2.1 n (padv s) (d + 3) _ _ _ ⟨p1, by omega, p3.adv hs.2.2, by rw [e1, e2]; omega⟩ (by unfold dep; omega) (fun g2 hg2 => ?_)
    refine sX7_emit hg2 (fun _ => by omega) (by omega) (by omega) (fun _ => rfl) (fun g3 hg3 => ?_)
    rw [show (k : Int) + 1 = ((k + 1 : Nat) : Int) by omega]
    have ne := nx_emit (k := pk (tokC c N) s) (v := 0) (s := prs (tokC c N) f 2 n (padv s))
    refine ihl.2.1 n (k + 1) _ (d + 3) Q X g3 u _ ⟨p1, by rw [pM_emit]; omega, hg3, by rw [ne.1]; omega⟩ (by unfold dep; omega) (by rw [ne.1]; omega) kk
  refine zX7_readSum_7 ?_
  first | with_reducible refine c_lt ?_ ?_ (fun z0 => ?_) (fun z0 => ?_) | with_reducible refine c_le ?_ ?_ (fun z0 => ?_) (fun z0 => ?_) | with_reducible refine c_eq ?_ ?_ (fun z0 => ?_) (fun z0 => ?_) | with_reducible refine c_ne ?_ ?_ (fun z0 => ?_) (fun z0 => ?_)
  · omega
  · omega
  · refine stop (fun z => ?_)
    have := pk_n hN (s := s) (by omega)
    omega
  · refine sX7_kind hW p3 ?_
    first | with_reducible refine c_lt ?_ ?_ (fun y0 => ?_) (fun y0 => ?_) | with_reducible refine c_le ?_ ?_ (fun y0 => ?_) (fun y0 => ?_) | with_reducible refine c_eq ?_ ?_ (fun y0 => ?_) (fun y0 => ?_) | with_reducible refine c_ne ?_ ?_ (fun y0 => ?_) (fun y0 => ?_)
    · omega
    · omega
    · exact go (by omega)
    · refine sX7_kind hW p3 ?_
      first | with_reducible refine c_lt ?_ ?_ (fun y1 => ?_) (fun y1 => ?_) | with_reducible refine c_le ?_ ?_ (fun y1 => ?_) (fun y1 => ?_) | with_reducible refine c_eq ?_ ?_ (fun y1 => ?_) (fun y1 => ?_) | with_reducible refine c_ne ?_ ?_ (fun y1 => ?_) (fun y1 => ?_)
      · omega
      · omega
      · exact stop (by omega)
      · exact go (by omega)
theorem SC_m2 {T : Nat × (Nat → Int32)} {c : mz_S} {N b b0 f : Nat} (hW : TkW c N) (iha : SCa T c N b b0 f) (ihl : SCl T c N b b0 f) : metC T c N b b0 (f + 1) 2 107 := by
  intro n s d Q X g hp hd k
  obtain ⟨p1, p2, p3, p4⟩ := hp
  have hN := hW.pN
  unfold dep at hd
  obtain ⟨d, rfl⟩ : ∃ d', d = d' + 1 := ⟨d - 1, by omega⟩
  rw [prs_2] at k
  have L := prs_L (tokC c N) f 0 (by decide) n s
  have M := pM_le hN (f := f) (sel := 0) (n := n) (s := s) (by decide)
  unfold pL at L
  refine zX7_readItem (iha.1 n s d _ _ g ⟨p1, by omega, p3, p4⟩ (by unfold dep; omega) (fun g2 hg2 => ?_))
  exact ihl.1 n 0 _ d Q X g2 _ _ ⟨p1, by omega, hg2, by omega⟩ (by unfold dep; omega) (Nat.zero_le _) k
theorem SC_m4 {T : Nat × (Nat → Int32)} {c : mz_S} {N b b0 f : Nat} (hW : TkW c N) (iha : SCa T c N b b0 f) (ihl : SCl T c N b b0 f) : metC T c N b b0 (f + 1) 4 106 := by
  intro n s d Q X g hp hd k
  obtain ⟨p1, p2, p3, p4⟩ := hp
  have hN := hW.pN
  unfold dep at hd
  obtain ⟨d, rfl⟩ : ∃ d', d = d' + 1 := ⟨d - 1, by omega⟩
  rw [prs_4] at k
  have L := prs_L (tokC c N) f 2 (by decide) n s
  have M := pM_le hN (f := f) (sel := 2) (n := n) (s := s) (by decide)
  unfold pL at L
  refine zX7_readSum (iha.2.1 n s d _ _ g ⟨p1, by omega, p3, p4⟩ (by unfold dep; omega) (fun g2 hg2 => ?_))
  exact ihl.2.1 n 0 _ d Q X g2 _ _ ⟨p1, by omega, hg2, by omega⟩ (by unfold dep; omega) (Nat.zero_le _) k
theorem SC_l5 {T : Nat × (Nat → Int32)} {c : mz_S} {N b b0 f : Nat} (hW : TkW c N) (hb0 : b0 ≤ 2000) (iha : SCa T c N b b0 f) (ihl : SCl T c N b b0 f) (n k : Nat) (s : pS) (d : Nat) (Q : mz_K) (X : mz_X) (g : mz_S) (u : Nat × Nat) (o : Option mx_v) (hp : PreC c N b b0 (f + 1) 5 n s g) (hd : dep 6 n ≤ d) (hk : k ≤ s.1) (kk : ∀ g', RdC c N b (prs (tokC c N) (f + 1) 5 n s) g' → Q 0 g') : aX7_readPart T d Q X 7 [some (mx_R 31), some (mx_I (n : Int)), some (mx_I (k : Int)), o] [] g u := by
  obtain ⟨p1, p2, p3, p4⟩ := hp
  have hN := hW.pN
  have hsN := p3.2.2.2.2.2.2.2.2.2
  have hr := pk_rng hW hsN
  have hn1 := hW.1
  unfold dep at hd
  obtain ⟨d, rfl⟩ : ∃ d', d = d' + 3 := ⟨d - 3, by omega⟩
  rw [prs_5] at kk
  have stop : ¬ pk (tokC c N) s = 151 → aX7_readPart T (d + 3) Q X 59 [some (mx_R 31), some (mx_I (n : Int)), some (mx_I (k : Int)), o] [] g u := by
    intro z
    rw [if_neg z] at kk
    exact zX7_readPart_59 (kk g p3)
  refine zX7_readPart_7 ?_
  first | with_reducible refine c_lt ?_ ?_ (fun z0 => ?_) (fun z0 => ?_) | with_reducible refine c_le ?_ ?_ (fun z0 => ?_) (fun z0 => ?_) | with_reducible refine c_eq ?_ ?_ (fun z0 => ?_) (fun z0 => ?_) | with_reducible refine c_ne ?_ ?_ (fun z0 => ?_) (fun z0 => ?_)
  · omega
  · omega
  · refine stop (fun z => ?_)
    have := pk_n hN (s := s) (by omega)
    omega
  · refine sX7_kind hW p3 ?_
    first | with_reducible refine c_lt ?_ ?_ (fun z1 => ?_) (fun z1 => ?_) | with_reducible refine c_le ?_ ?_ (fun z1 => ?_) (fun z1 => ?_) | with_reducible refine c_eq ?_ ?_ (fun z1 => ?_) (fun z1 => ?_) | with_reducible refine c_ne ?_ ?_ (fun z1 => ?_) (fun z1 => ?_)
    · omega
    · omega
    · exact stop z1
    · rw [if_pos z1] at kk
      have hs := pM_adv hN (s := s) (by omega)
      rintro _ rfl
      have e1 : (padv s).1 = s.1 + 1 := rfl
      have e2 : (padv s).2.2.2 = s.2.2.2 := rfl
      have e3 : (padv s).2.1 = 0 := hs.2.1
      have le := len_emit (k := 151) (v := 0) e3
      have ll : (pemit 151 0 (padv s)).2.2.2.length = s.2.2.2.length + 1 := by rw [le.1, List.length_append, e2]; rfl
      have L := prs_L (tokC c N) f 6 (by decide) n (pemit 151 0 (padv s))
      have G := prs_G hN f 6 (by decide) n (pemit 151 0 (padv s))
      have M := pM_le hN (f := f) (sel := 6) (n := n) (s := pemit 151 0 (padv s)) (by decide)
      rw [pM_emit] at M
      unfold pL at L
      rw [ll, le.2.1, e1] at L
      have G1 := G.1
      have G2 := G.2.1
      obtain ⟨l, hl⟩ := G.2.2
      rw [le.2.1, e1] at G1 G2
      refine sX7_emit (p3.adv hs.2.2) (fun _ => by rw [e2]; omega) (by omega) (by omega) (fun _ => rfl) (fun g2 hg2 => ?_)
      rw [if_pos e3, e2]
      refine iha.2.2.2.1 n _ (d + 3) _ _ g2 ⟨p1, by rw [pM_emit]; omega, hg2, by rw [ll, le.2.1, e1]; omega⟩ (by unfold dep; omega) (fun g3 hg3 => ?_)
      have lp : s.2.2.2.length < (prs (tokC c N) f 6 n (pemit 151 0 (padv s))).2.2.2.length := by rw [hl, List.length_append, ll]; omega
      refine sX7_leadHere (kk := 151) hg3 lp (by omega) ?_ (by omega) (fun g4 hg4 => ?_)
      · rw [hl, le.1, e2, List.append_assoc, List.getD_eq_getElem?_getD, List.getElem?_append_right (Nat.le_refl _), Nat.sub_self]; rfl
      · rw [show (k : Int) + 1 = ((k + 1 : Nat) : Int) by omega]
        have pl : (ppatch s.2.2.2.length (prs (tokC c N) f 6 n (pemit 151 0 (padv s)))).2.2.2.length = (prs (tokC c N) f 6 n (pemit 151 0 (padv s))).2.2.2.length := List.length_set
        have pn : (ppatch s.2.2.2.length (prs (tokC c N) f 6 n (pemit 151 0 (padv s)))).1 = (prs (tokC c N) f 6 n (pemit 151 0 (padv s))).1 := rfl
        exact ihl.2.2.1 n (k + 1) _ (d + 3) Q X g4 u _ ⟨p1, by rw [pM_patch]; omega, hg4, by rw [pl, pn]; omega⟩ (by unfold dep; omega) (by rw [pn]; omega) kk
theorem SC_l8 {T : Nat × (Nat → Int32)} {c : mz_S} {N b b0 f : Nat} (hW : TkW c N) (hb0 : b0 ≤ 2000) (iha : SCa T c N b b0 f) (ihl : SCl T c N b b0 f) (n k : Nat) (s : pS) (d : Nat) (Q : mz_K) (X : mz_X) (g : mz_S) (u : Nat × Nat) (o : Option mx_v) (hp : PreC c N b b0 (f + 1) 8 n s g) (hd : dep 8 n ≤ d) (hk : k ≤ s.1) (kk : ∀ g', RdC c N b (prs (tokC c N) (f + 1) 8 n s) g' → Q 0 g') : aX7_readTest T d Q X 7 [some (mx_R 31), some (mx_I (n : Int)), some (mx_I (k : Int)), o] [] g u := by
  obtain ⟨p1, p2, p3, p4⟩ := hp
  have hN := hW.pN
  have hsN := p3.2.2.2.2.2.2.2.2.2
  have hr := pk_rng hW hsN
  have hn1 := hW.1
  unfold dep at hd
  obtain ⟨d, rfl⟩ : ∃ d', d = d' + 3 := ⟨d - 3, by omega⟩
  rw [prs_8] at kk
  have stop : ¬ pk (tokC c N) s = 150 → aX7_readTest T (d + 3) Q X 59 [some (mx_R 31), some (mx_I (n : Int)), some (mx_I (k : Int)), o] [] g u := by
    intro z
    rw [if_neg z] at kk
    exact zX7_readTest_59 (kk g p3)
  refine zX7_readTest_7 ?_
  first | with_reducible refine c_lt ?_ ?_ (fun z0 => ?_) (fun z0 => ?_) | with_reducible refine c_le ?_ ?_ (fun z0 => ?_) (fun z0 => ?_) | with_reducible refine c_eq ?_ ?_ (fun z0 => ?_) (fun z0 => ?_) | with_reducible refine c_ne ?_ ?_ (fun z0 => ?_) (fun z0 => ?_)
  · omega
  · omega
  · refine stop (fun z => ?_)
    have := pk_n hN (s := s) (by omega)
    omega
  · refine sX7_kind hW p3 ?_
    first | with_reducible refine c_lt ?_ ?_ (fun z1 => ?_) (fun z1 => ?_) | with_reducible refine c_le ?_ ?_ (fun z1 => ?_) (fun z1 => ?_) | with_reducible refine c_eq ?_ ?_ (fun z1 => ?_) (fun z1 => ?_) | with_reducible refine c_ne ?_ ?_ (fun z1 => ?_) (fun z1 => ?_)
    · omega
    · omega
    · exact stop z1
    · rw [if_pos z1] at kk
      have hs := pM_adv hN (s := s) (by omega)
      rintro _ rfl
      have e1 : (padv s).1 = s.1 + 1 := rfl
      have e2 : (padv s).2.2.2 = s.2.2.2 := rfl
      have e3 : (padv s).2.1 = 0 := hs.2.1
      have le := len_emit (k := 150) (v := 0) e3
      have ll : (pemit 150 0 (padv s)).2.2.2.length = s.2.2.2.length + 1 := by rw [le.1, List.length_append, e2]; rfl
      have L := prs_L (tokC c N) f 7 (by decide) n (pemit 150 0 (padv s))
      have G := prs_G hN f 7 (by decide) n (pemit 150 0 (padv s))
      have M := pM_le hN (f := f) (sel := 7) (n := n) (s := pemit 150 0 (padv s)) (by decide)
      rw [pM_emit] at M
      unfold pL at L
      rw [ll, le.2.1, e1] at L
      have G1 := G.1
      have G2 := G.2.1
      obtain ⟨l, hl⟩ := G.2.2
      rw [le.2.1, e1] at G1 G2
      refine sX7_emit (p3.adv hs.2.2) (fun _ => by rw [e2]; omega) (by omega) (by omega) (fun _ => rfl) (fun g2 hg2 => ?_)
      rw [if_pos e3, e2]
      refine iha.2.2.2.2.1 n _ (d + 3) _ _ g2 ⟨p1, by rw [pM_emit]; omega, hg2, by rw [ll, le.2.1, e1]; omega⟩ (by unfold dep; omega) (fun g3 hg3 => ?_)
      have lp : s.2.2.2.length < (prs (tokC c N) f 7 n (pemit 150 0 (padv s))).2.2.2.length := by rw [hl, List.length_append, ll]; omega
      refine sX7_leadHere (kk := 150) hg3 lp (by omega) ?_ (by omega) (fun g4 hg4 => ?_)
      · rw [hl, le.1, e2, List.append_assoc, List.getD_eq_getElem?_getD, List.getElem?_append_right (Nat.le_refl _), Nat.sub_self]; rfl
      · rw [show (k : Int) + 1 = ((k + 1 : Nat) : Int) by omega]
        have pl : (ppatch s.2.2.2.length (prs (tokC c N) f 7 n (pemit 150 0 (padv s)))).2.2.2.length = (prs (tokC c N) f 7 n (pemit 150 0 (padv s))).2.2.2.length := List.length_set
        have pn : (ppatch s.2.2.2.length (prs (tokC c N) f 7 n (pemit 150 0 (padv s)))).1 = (prs (tokC c N) f 7 n (pemit 150 0 (padv s))).1 := rfl
        exact ihl.2.2.2 n (k + 1) _ (d + 3) Q X g4 u _ ⟨p1, by rw [pM_patch]; omega, hg4, by rw [pl, pn]; omega⟩ (by unfold dep; omega) (by rw [pn]; omega) kk
theorem SC_m7 {T : Nat × (Nat → Int32)} {c : mz_S} {N b b0 f : Nat} (hW : TkW c N) (iha : SCa T c N b b0 f) (ihl : SCl T c N b b0 f) : metC T c N b b0 (f + 1) 7 103 := by
  intro n s d Q X g hp hd k
  obtain ⟨p1, p2, p3, p4⟩ := hp
  have hN := hW.pN
  unfold dep at hd
  obtain ⟨d, rfl⟩ : ∃ d', d = d' + 1 := ⟨d - 1, by omega⟩
  rw [prs_7] at k
  have L := prs_L (tokC c N) f 6 (by decide) n s
  have M := pM_le hN (f := f) (sel := 6) (n := n) (s := s) (by decide)
  unfold pL at L
  refine zX7_readPart (iha.2.2.2.1 n s d _ _ g ⟨p1, by omega, p3, p4⟩ (by unfold dep; omega) (fun g2 hg2 => ?_))
  exact ihl.2.2.1 n 0 _ d Q X g2 _ _ ⟨p1, by omega, hg2, by omega⟩ (by unfold dep; omega) (Nat.zero_le _) k
theorem SC_m9 {T : Nat × (Nat → Int32)} {c : mz_S} {N b b0 f : Nat} (hW : TkW c N) (iha : SCa T c N b b0 f) (ihl : SCl T c N b b0 f) : metC T c N b b0 (f + 1) 9 102 := by
  intro n s d Q X g hp hd k
  obtain ⟨p1, p2, p3, p4⟩ := hp
  have hN := hW.pN
  unfold dep at hd
  obtain ⟨d, rfl⟩ : ∃ d', d = d' + 1 := ⟨d - 1, by omega⟩
  rw [prs_9] at k
  have L := prs_L (tokC c N) f 7 (by decide) n s
  have M := pM_le hN (f := f) (sel := 7) (n := n) (s := s) (by decide)
  unfold pL at L
  refine zX7_readTest (iha.2.2.2.2.1 n s d _ _ g ⟨p1, by omega, p3, p4⟩ (by unfold dep; omega) (fun g2 hg2 => ?_))
  exact ihl.2.2.2 n 0 _ d Q X g2 _ _ ⟨p1, by omega, hg2, by omega⟩ (by unfold dep; omega) (Nat.zero_le _) k
