/-! the reference's standing lines -/
def StR (g g' : mz_S) (F : List (Nat × Nat)) : Prop := Ch [130] [50] g g' ∧ g' 99 50 = (F.length : Int) ∧ ∀ p, p < F.length → g' 130 p = ((24 * (F.getD p (0, 0)).1 + (F.getD p (0, 0)).2 : Nat) : Int)
theorem getD_al {F G : List (Nat × Nat)} {p : Nat} (h : p < F.length) : (F ++ G).getD p (0, 0) = F.getD p (0, 0) := by
  rw [List.getD_eq_getElem?_getD, List.getD_eq_getElem?_getD, List.getElem?_append_left h]
theorem getD_ar {F G : List (Nat × Nat)} {p : Nat} : (F ++ G).getD (F.length + p) (0, 0) = G.getD p (0, 0) := by
  rw [List.getD_eq_getElem?_getD, List.getD_eq_getElem?_getD, List.getElem?_append_right (by omega), Nat.add_sub_cancel_left]
theorem StR.push {g g' : mz_S} {F : List (Nat × Nat)} {t k : Nat} (h : StR g g' F) : StR g (mx_up (mx_up g' 130 F.length (24 * (t : Int) + (k : Int))) 99 50 ((F.length : Int) + 1)) (F ++ [(t, k)]) := by
  obtain ⟨h1, h2, h3⟩ := h
  refine ⟨(h1.up (by decide) (by decide)).up9 (by decide), by rw [up_s, List.length_append]; rfl, fun p hp => ?_⟩
  rw [up_q (by decide)]
  rw [List.length_append] at hp
  have hp : p < F.length + 1 := hp
  by_cases z : p = F.length
  · subst z
    rw [up_s, show F.length = F.length + 0 from rfl, getD_ar]
    show _ = ((24 * t + k : Nat) : Int)
    omega
  · rw [up_i z, getD_al (by omega)]; exact h3 p (by omega)
theorem sX12_stand {T : Nat × (Nat → Int32)} {d : Nat} {Q : mz_K} {X : mz_X} {g : mz_S} {town day nt : Nat} {o since : Nat → Int} {sz : Nat → Nat} (ho : OrdC o since nt) (h36 : g 99 36 = nt) (hnt : nt ≤ 6) (hs : ∀ t, t < nt → g 121 t = since t ∧ (0 ≤ since t ∧ since t ≤ 999)) (hz : ∀ t, t < nt → g 122 t = (sz t : Int) ∧ sz t ≤ 24) (hday : day ≤ 999) (ht : town < 32) (k : ∀ g', StR g g' (flat sz (flC o (upT since (fun t => zb (g 120 t) town) ((day : Int) + 1) 0) nt)) → Q 0 g') : zC T (d + 1) 266 [mx_R 99, mx_I (town : Int), mx_I (day : Int)] g Q X := by
  have fr : ∀ (G : mz_S) (F : List (Nat × Nat)), StR g G F → G 99 36 = nt ∧ (∀ t, t < nt → G 121 t = since t) ∧ (∀ t, t < nt → G 122 t = (sz t : Int)) ∧ G 120 = g 120 := fun G F h => ⟨by rw [h.1.2 36 (by decide)]; exact h36, fun t q => by rw [h.1.1 121 (by decide) (by decide)]; exact (hs t q).1, fun t q => by rw [h.1.1 122 (by decide) (by decide)]; exact (hz t q).1, h.1.1 120 (by decide) (by decide)⟩
  have inner : ∀ (D : Int) (j : Nat) (ls : List Nat), j < nt → (flat sz (ls ++ [j])).length ≤ 144 → (∀ G, StR g G (flat sz (ls ++ [j])) → ∀ o5, aX12_stand T d Q X 100 [some (mx_R 99), some (mx_I (town : Int)), some (mx_I (day : Int)), some (mx_I D), some (mx_I (j : Int)), o5] [] G (0, 0)) → ∀ n i : Nat, i + n = sz j → ∀ G, StR g G (flat sz ls ++ (List.range i).map (fun q => (j, q))) → aX12_stand T d Q X 55 [some (mx_R 99), some (mx_I (town : Int)), some (mx_I (day : Int)), some (mx_I D), some (mx_I (j : Int)), some (mx_I (i : Int))] [] G (0, 0) := by
    intro D j ls hj hlen hend n
    have szj := (hz j hj).2
    have ln : (flat sz (ls ++ [j])).length = (flat sz ls).length + sz j := by rw [flat_app, flat_one, List.length_append, List.length_map, List.length_range]
    induction n with
    | zero =>
      intro i hi G hG
      have q := fr G _ hG
      refine zX12_stand_55 ?_
      refine s_inN ?_ (fun ea => ?_)
      · omega
      try simp only [ea]
      clear ea
      rw [q.2.2.1 j hj]
      first | with_reducible refine c_lt ?_ ?_ (fun z => ?_) (fun z => ?_) | with_reducible refine c_le ?_ ?_ (fun z => ?_) (fun z => ?_) | with_reducible refine c_eq ?_ ?_ (fun z => ?_) (fun z => ?_) | with_reducible refine c_ne ?_ ?_ (fun z => ?_) (fun z => ?_)
      · omega
      · omega
      · refine hend G ?_ _
        rw [flat_app, flat_one, ← hi, Nat.add_zero]
        exact hG
      · omega
    | succ n ih =>
      intro i hi G hG
      have q := fr G _ hG
      have l0 : (flat sz ls ++ (List.range i).map (fun q => (j, q))).length = (flat sz ls).length + i := by rw [List.length_append, List.length_map, List.length_range]
      refine zX12_stand_55 ?_
      refine s_inN ?_ (fun ea => ?_)
      · omega
      try simp only [ea]
      clear ea
      rw [q.2.2.1 j hj]
      first | with_reducible refine c_lt ?_ ?_ (fun z => ?_) (fun z => ?_) | with_reducible refine c_le ?_ ?_ (fun z => ?_) (fun z => ?_) | with_reducible refine c_eq ?_ ?_ (fun z => ?_) (fun z => ?_) | with_reducible refine c_ne ?_ ?_ (fun z => ?_) (fun z => ?_)
      · omega
      · omega
      · omega
      · rw [hG.2.1]
        refine s_inN ?_ (fun ea => ?_)
        · omega
        try simp only [ea]
        clear ea
        intro g1 e1
        rw [show g1 99 50 = ((flat sz ls ++ (List.range i).map (fun q => (j, q))).length : Int) by rw [e1, up_q (by decide)]; exact hG.2.1]
        intro g2 e2
        rw [show (i : Int) + 1 = ((i + 1 : Nat) : Int) by omega]
        refine ih (i + 1) (by omega) g2 ?_
        rw [List.range_succ, List.map_append, ← List.append_assoc, e2, e1]
        exact hG.push
  have mid : ∀ D : Int, (0 ≤ D ∧ D ≤ day) → (∀ G x4 o5, StR g G (flat sz (flC o (upT since (fun t => zb (g 120 t) town) (D + 1) 0) nt)) → aX12_stand T d Q X 7 [some (mx_R 99), some (mx_I (town : Int)), some (mx_I (day : Int)), some (mx_I (D + 1)), some (mx_I x4), o5] [] G (0, 0)) → ∀ n j : Nat, j + n = nt → ∀ G o5, StR g G (flat sz (flC o (upT since (fun t => zb (g 120 t) town) D j) nt)) → aX12_stand T d Q X 15 [some (mx_R 99), some (mx_I (town : Int)), some (mx_I (day : Int)), some (mx_I D), some (mx_I (j : Int)), o5] [] G (0, 0) := by
    intro D hD hend n
    induction n with
    | zero =>
      intro j hj G o5 hG
      have q := fr G _ hG
      refine zX12_stand_15 ?_
      rw [q.1]
      first | with_reducible refine c_lt ?_ ?_ (fun z => ?_) (fun z => ?_) | with_reducible refine c_le ?_ ?_ (fun z => ?_) (fun z => ?_) | with_reducible refine c_eq ?_ ?_ (fun z => ?_) (fun z => ?_) | with_reducible refine c_ne ?_ ?_ (fun z => ?_) (fun z => ?_)
      · omega
      · omega
      · refine hend G _ _ ?_
        rw [← flC_day ho, show nt = j by omega]
        rw [show nt = j by omega] at hG
        exact hG
      · omega
    | succ n ih =>
      intro j hj G o5 hG
      have q := fr G _ hG
      have hjn : j < nt := by omega
      have hsj := (hs j hjn).2
      have stp := flC_step (P := fun t => zb (g 120 t) town) (d := D) ho hjn
      have nx : ∀ G' o5', StR g G' (flat sz (flC o (upT since (fun t => zb (g 120 t) town) D (j + 1)) nt)) → aX12_stand T d Q X 100 [some (mx_R 99), some (mx_I (town : Int)), some (mx_I (day : Int)), some (mx_I D), some (mx_I (j : Int)), o5'] [] G' (0, 0) := by
        intro G' o5' hG'
        refine zX12_stand_100 ?_
        rw [show (j : Int) + 1 = ((j + 1 : Nat) : Int) by omega]
        exact ih (j + 1) (by omega) G' o5' hG'
      refine zX12_stand_15 ?_
      rw [q.1]
      first | with_reducible refine c_lt ?_ ?_ (fun z => ?_) (fun z => ?_) | with_reducible refine c_le ?_ ?_ (fun z => ?_) (fun z => ?_) | with_reducible refine c_eq ?_ ?_ (fun z => ?_) (fun z => ?_) | with_reducible refine c_ne ?_ ?_ (fun z => ?_) (fun z => ?_)
      · omega
      · omega
      · omega
      · refine s_inN ?_ (fun ea => ?_)
        · omega
        try simp only [ea]
        clear ea
        rw [q.2.1 j hjn]
        first | with_reducible refine c_lt ?_ ?_ (fun z2 => ?_) (fun z2 => ?_) | with_reducible refine c_le ?_ ?_ (fun z2 => ?_) (fun z2 => ?_) | with_reducible refine c_eq ?_ ?_ (fun z2 => ?_) (fun z2 => ?_) | with_reducible refine c_ne ?_ ?_ (fun z2 => ?_) (fun z2 => ?_)
        · omega
        · omega
        · refine nx G _ ?_
          rw [stp, if_neg (fun y => z2 y.2)]
          exact hG
        · refine s_inN ?_ (fun ea => ?_)
          · omega
          try simp only [ea]
          clear ea
          rw [q.2.2.2, zb_holds ht]
          cases hb : zb (g 120 j) town with
          | false =>
            refine ⟨fun y => absurd rfl y, fun _ => nx G _ ?_⟩
            rw [stp, if_neg (fun y => by have : zb (g 120 j) town = true := y.1; rw [hb] at this; exact absurd this (by decide))]
            exact hG
          | true =>
            have hc : (fun t => zb (g 120 t) town) j = true ∧ since j = D := ⟨hb, by omega⟩
            rw [if_pos hc] at stp
            refine ⟨fun _ => ?_, fun y => absurd (by decide) y⟩
            have len : (flat sz (flC o (upT since (fun t => zb (g 120 t) town) D j) nt ++ [j])).length ≤ 144 := by
              rw [← stp]
              have l1 := flC_len (o := o) (P := upT since (fun t => zb (g 120 t) town) D (j + 1)) nt
              have l2 := flat_len (sz := sz) (l := flC o (upT since (fun t => zb (g 120 t) town) D (j + 1)) nt) (fun t y => (hz t ((flC_all ho).mp y).1).2)
              omega
            refine inner D j _ hjn len (fun G' hG' o5' => nx G' o5' (by rw [stp]; exact hG')) (sz j) 0 (by omega) G ?_
            rw [List.range_zero, List.map_nil, List.append_nil]
            exact hG
  have outer : ∀ n D : Nat, D + n = day + 1 → ∀ G o4 o5, StR g G (flat sz (flC o (upT since (fun t => zb (g 120 t) town) (D : Int) 0) nt)) → aX12_stand T d Q X 7 [some (mx_R 99), some (mx_I (town : Int)), some (mx_I (day : Int)), some (mx_I (D : Int)), o4, o5] [] G (0, 0) := by
    intro n
    induction n with
    | zero =>
      intro D hD G o4 o5 hG
      refine zX12_stand_7 ?_
      first | with_reducible refine c_lt ?_ ?_ (fun z => ?_) (fun z => ?_) | with_reducible refine c_le ?_ ?_ (fun z => ?_) (fun z => ?_) | with_reducible refine c_eq ?_ ?_ (fun z => ?_) (fun z => ?_) | with_reducible refine c_ne ?_ ?_ (fun z => ?_) (fun z => ?_)
      · omega
      · omega
      · refine k G ?_
        rw [show ((day : Int) + 1) = (D : Int) by omega]
        exact hG
      · omega
    | succ n ih =>
      intro D hD G o4 o5 hG
      refine zX12_stand_7 ?_
      first | with_reducible refine c_lt ?_ ?_ (fun z => ?_) (fun z => ?_) | with_reducible refine c_le ?_ ?_ (fun z => ?_) (fun z => ?_) | with_reducible refine c_eq ?_ ?_ (fun z => ?_) (fun z => ?_) | with_reducible refine c_ne ?_ ?_ (fun z => ?_) (fun z => ?_)
      · omega
      · omega
      · omega
      · refine mid (D : Int) (by omega) (fun G' x4 o5' hG' => ?_) nt 0 (by omega) G _ hG
        rw [show (D : Int) + 1 = ((D + 1 : Nat) : Int) by omega] at hG' ⊢
        exact ih (D + 1) (by omega) G' _ _ hG'
  refine zX12_stand ?_
  intro g1 e1
  refine outer (day + 1) 0 (by omega) g1 none none ?_
  rw [show ((0 : Nat) : Int) = 0 from rfl, flC_none ho (fun t q => (hs t q).2.1)]
  exact ⟨by rw [e1]; exact (Ch.rf g).up9 (by decide), by rw [e1, up_s]; rfl, fun p hp => absurd hp (Nat.not_lt_zero _)⟩
