/-! the call plan, whole -/
theorem IX.cg {S F : List Nat} {g g' : mz_S} (w : IX g) (h : Ch S F g g') (hS : ∀ q ∈ [73, 74, 75, 76, 77, 158, 159, 160, 161, 162], q ∉ S) (hF : ∀ f ∈ [84], f ∉ F) (e : g' 72 4 = g 72 4) : IX g' := by
  have e' : ∀ q ∈ [73, 74, 75, 76, 77, 158, 159, 160, 161, 162], g' q = g q := fun q hq => h.1 q (hS q hq) (by intro z; subst z; revert hq; decide)
  unfold IX WfX ReX at w ⊢
  rw [e, e' 73 (by decide), e' 74 (by decide), e' 75 (by decide), e' 76 (by decide), e' 77 (by decide), e' 158 (by decide), e' 159 (by decide), e' 160 (by decide), e' 161 (by decide), e' 162 (by decide), h.2 84 (hF 84 (by decide))]
  exact w
def plS : List Nat := [72, 79, 80, 81, 82, 83, 84, 85, 163, 164, 165, 166, 167, 179]
theorem C_plan {T : Nat × (Nat → Int32)} {d : Nat} {X X' : mz_X} {g : mz_S} {co x n wks x6 : Int} (wl : IL g) (wb : IB g) (we : IE g) (wx : IX g) (hc : R32 co) (hn : R32 n) (hw : R32 wks) (h6 : R32 x6) : zC T (d + 8) 381 [mx_R 0, mx_I co, mx_J x, mx_I n, mx_I wks, mx_I x6, mx_R 179] g (fun kk g1 => zC T (d + 8) 308 [mx_R 99, mx_I co, mx_J x, mx_I n, mx_I wks, mx_I x6] g1 (fun r g2 => AnsI kk r g2 ∧ IX g2 ∧ Qy plS [0] g g2) X') X := by
  have hwb := wb.1.1
  obtain ⟨m, em⟩ := Int.eq_ofNat_of_zero_le hwb.1
  have bad : ∀ n : Int, 1 ≤ n ∧ n ≤ 3 → AnsI n 0 (mx_up (mx_up g 99 0 0) 99 0 n) ∧ IX (mx_up (mx_up g 99 0 0) 99 0 n) ∧ Qy plS [0] g (mx_up (mx_up g 99 0 0) 99 0 n) := fun n hn =>
    ⟨⟨by omega, up_s, fun z => by omega⟩, wx.fr (ch_bad g n) (by decide) (by decide), (ch_bad g n).sub (by decide) (by decide), fun z => z.fr (ch_bad g n) (by decide)⟩
  have no : ¬ plA co n wks x6 → zC T (d + 8) 308 [mx_R 99, mx_I co, mx_J x, mx_I n, mx_I wks, mx_I x6] g (fun r g2 => AnsI 1 r g2 ∧ IX g2 ∧ Qy plS [0] g g2) X' := fun h =>
    sX12_plan (d := d + 4) (c := g) (m := m) wl.1 wb.1 wx.1 we em wb.2.1 we.2.2.1 wl.2.2.1.1 wx.2 hc hn hw h6 (fun _ => bad 1 (by omega)) (fun C N eC eN z => absurd z h) (fun C N K eC eN eK z => absurd z h)
  refine wL_plan (zX11_plan (sX11_isCoin hc ?_))
  first | with_reducible refine b_eq (fun h1 => ?_) (fun h1 => ?_) | with_reducible refine b_ne (fun h1 => ?_) (fun h1 => ?_)
  · exact zX11_plan_45 (zX11_plan_46 ⟨by decide, by decide, nA_f ⟨rfl, no (fun z => h1 z.1)⟩⟩)
  refine sX11_within hn (by omega) (by omega) ?_
  first | with_reducible refine b_eq (fun h2 => ?_) (fun h2 => ?_) | with_reducible refine b_ne (fun h2 => ?_) (fun h2 => ?_)
  · exact zX11_plan_45 (zX11_plan_46 ⟨by decide, by decide, nA_f ⟨rfl, no (fun z => h2 z.2.1)⟩⟩)
  refine sX11_within hw (by omega) (by omega) ?_
  first | with_reducible refine b_eq (fun h3 => ?_) (fun h3 => ?_) | with_reducible refine b_ne (fun h3 => ?_) (fun h3 => ?_)
  · exact zX11_plan_45 (zX11_plan_46 ⟨by decide, by decide, nA_f ⟨rfl, no (fun z => h3 z.2.2.1)⟩⟩)
  refine sX11_within h6 (by omega) (by omega) ?_
  first | with_reducible refine b_eq (fun h4 => ?_) (fun h4 => ?_) | with_reducible refine b_ne (fun h4 => ?_) (fun h4 => ?_)
  · exact zX11_plan_45 (zX11_plan_46 ⟨by decide, by decide, nA_f ⟨rfl, no (fun z => h4 z.2.2.2)⟩⟩)
  have ar : plA co n wks x6 := ⟨h1, h2, h3, h4⟩
  refine zX11_plan_46 ⟨by decide, by decide, nA_t ?_⟩
  obtain ⟨C, eC⟩ := Int.eq_ofNat_of_zero_le h1.1
  obtain ⟨N, eN⟩ := Int.eq_ofNat_of_zero_le (show 0 ≤ n by omega)
  obtain ⟨K, eK⟩ := Int.eq_ofNat_of_zero_le (show 0 ≤ wks by omega)
  subst eC eN eK
  have jc : ∀ {A : Nat}, (C : Int) = (A : Int) → A = C := fun h => by omega
  have jn : ∀ {A : Nat}, (N : Int) = (A : Int) → A = N := fun h => by omega
  have jk : ∀ {A : Nat}, (K : Int) = (A : Int) → A = K := fun h => by omega
  refine sX2_takeDebts (d := d + 3) (m := m) (x := x) we.1 em (by omega) (by omega) (by omega) (fun g1 c1 hD => ⟨by decide, by decide, sX11_needArgument (fun ok => ?_) (fun ok => ⟨rfl, ?_⟩)⟩)
  · have pr := plR_rng (c := g) (co := C) (m := m) (n := N) (wks := K) (x := x) (by omega) (by omega) (K ^ N)
    refine sX2_findPlan (d := d + 2) (c := g) (m := m) (x := x) wl.1 wb.1 wx.1 we.1 em (by omega) (by omega) (by omega) (by omega) ok c1 (fun j hj => hD ok j hj) (fun g2 c2 h72 hP => ?_)
    obtain ⟨b, eb⟩ : ∃ b, b = plR g C x m N K (K ^ N) := ⟨_, rfl⟩
    rw [← eb] at pr hP
    have ref : zC T (d + 8) 308 [mx_R 99, mx_I (C : Int), mx_J x, mx_I (N : Int), mx_I (K : Int), mx_I x6] (mx_up g2 179 0 (w32 (plV N K b x6))) (fun r g2 => AnsI 0 r g2 ∧ IX g2 ∧ Qy plS [0] g g2) X' := by
      have cG : Ch [72, 79, 80, 81, 82, 83, 84, 85, 179] [] g (mx_up g2 179 0 (w32 (plV N K b x6))) := ((c1.sub (by decide) (by decide)).tr (c2.sub (by decide) (by decide))).up (by decide) (by decide)
      refine sX12_plan (d := d + 4) (c := g) (m := m) wl.1 wb.1 wx.1 we em (wb.2.1.fr cG (by decide) (by decide)) (we.2.2.1.fr cG (by decide) (by decide)) (by rw [cG.2 1 (by decide)]; exact wl.2.2.1.1) (wx.2.fr cG (by decide) (by decide)) hc hn hw h6 (fun z => absurd ar z) (fun C' N' eC eN _ z => absurd ok (by rw [jc eC, jn eN] at z; exact z)) (fun C' N' K' eC eN eK _ _ G c3 z0 => ?_)
      rw [jc eC, jn eN, jk eK, ← eb]
      have c4 : Ch plS [0] g G := (cG.sub (by decide) (by decide)).tr (c3.sub (by decide) (by decide))
      refine ⟨⟨by omega, z0, fun _ => by rw [c3.1 179 (by decide) (by decide), up_s]⟩, ?_, c4, fun z => z.fr c4 (by decide)⟩
      refine wx.cg c4 (by decide) (by decide) ?_
      rw [c3.1 72 (by decide) (by decide), up_q (by decide), h72 4 (by decide), c1.1 72 (by decide) (by decide)]
    obtain ⟨p1, p2⟩ := hP
    unfold plV at ref
    rw [p1]
    first | with_reducible refine c_lt ?_ ?_ (fun z1 => ?_) (fun z1 => ?_) | with_reducible refine c_le ?_ ?_ (fun z1 => ?_) (fun z1 => ?_) | with_reducible refine c_eq ?_ ?_ (fun z1 => ?_) (fun z1 => ?_) | with_reducible refine c_ne ?_ ?_ (fun z1 => ?_) (fun z1 => ?_)
    · omega
    · omega
    · rw [if_pos z1] at ref
      refine zX11_plan_92 ?_
      rw [p1, z1]
      exact ref
    · rw [if_neg z1] at ref
      first | with_reducible refine c_lt ?_ ?_ (fun z2 => ?_) (fun z2 => ?_) | with_reducible refine c_le ?_ ?_ (fun z2 => ?_) (fun z2 => ?_) | with_reducible refine c_eq ?_ ?_ (fun z2 => ?_) (fun z2 => ?_) | with_reducible refine c_ne ?_ ?_ (fun z2 => ?_) (fun z2 => ?_)
      · omega
      · omega
      · rw [if_neg z2] at ref
        refine s_in (by omega) (fun ea => ?_)
        rw [ea, p2 z1 x6.toNat (by omega)]
        exact ref
      · rw [if_pos (by omega)] at ref
        refine zX11_plan_92 ?_
        rw [p1]
        exact ref
  · have cG : Ch [79, 80, 81] [] g g1 := c1
    refine sX12_plan (d := d + 4) (c := g) (m := m) wl.1 wb.1 wx.1 we em (wb.2.1.fr cG (by decide) (by decide)) (we.2.2.1.fr cG (by decide) (by decide)) (by rw [cG.2 1 (by decide)]; exact wl.2.2.1.1) (wx.2.fr cG (by decide) (by decide)) hc hn hw h6 (fun z => absurd ar z) (fun C' N' eC eN _ _ G c3 => ?_) (fun C' N' K' eC eN eK _ z => absurd (by rw [jc eC, jn eN] at z; exact z) ok)
    have c4 : Ch [79, 80, 81, 163, 164, 165, 166, 167] [0] g (mx_up G 99 0 1) := ((cG.sub (by decide) (by decide)).tr (c3.sub (by decide) (by decide))).up9 (by decide)
    exact ⟨⟨by omega, up_s, fun z => by omega⟩, wx.fr c4 (by decide) (by decide), c4.sub (by decide) (by decide), fun z => z.fr c4 (by decide)⟩
