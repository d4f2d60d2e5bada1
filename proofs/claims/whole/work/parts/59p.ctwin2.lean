/-! the call twin -/
def twS : List Nat := [48, 49, 50, 51, 52, 53, 54, 55, 56, 58, 60, 39, 45, 46, 47, 134, 135, 136, 137, 138, 139, 140, 141, 142, 143, 144, 145, 146, 130, 131, 132, 133, 179]
theorem C_twin {T : Nat × (Nat → Int32)} {d : Nat} {X X' : mz_X} {g : mz_S} {W x b : Int} (wl : IL g) (wb : IB g) (we : IE g) (w : IW g) (wi : IC W g) (hW : W < 2147483647) (hx : R32 x) (hb : R32 b) : zC T (d + 10) 365 [mx_R 0, mx_I x, mx_I b, mx_R 179] g (fun kk g1 => zC T (d + 10) 282 [mx_R 99, mx_I x, mx_I b] g1 (fun r g2 => AnsI kk r g2 ∧ IW g2 ∧ IC (W + 1) g2 ∧ Qy twS teF g g2) X') X := by
  obtain ⟨nt, al, tw, e36, wk1, wk2⟩ := wi.txw
  have wk : WkS W g := ⟨wk1, wk2⟩
  have w0 := wl.1.1
  have w1 := w.1.1
  have wb1 := wb.1.1
  have bad : ∀ n : Int, 1 ≤ n ∧ n ≤ 3 → AnsI n 0 (mx_up (mx_up g 99 0 0) 99 0 n) ∧ IW (mx_up (mx_up g 99 0 0) 99 0 n) ∧ IC (W + 1) (mx_up (mx_up g 99 0 0) 99 0 n) ∧ Qy twS teF g (mx_up (mx_up g 99 0 0) 99 0 n) := fun n hn =>
    ⟨⟨by omega, up_s, fun z => by omega⟩, w.fr (ch_bad g n) (by decide) (by decide), (wi.wk (by omega)).fr (ch_bad g n) (by decide) (by decide), (ch_bad g n).sub (by decide) (by decide), fun z => z.fr (ch_bad g n) (by decide)⟩
  obtain ⟨R1, R2, R3, R4, R5, R6⟩ := paRef (nt := nt) wl wb we w e36 (Ch.rf g)
  have jx : ∀ {A A' : Nat}, x = (A : Int) → x = (A' : Int) → A' = A := fun h h' => by omega
  have jb : ∀ {A A' : Nat}, b = (A : Int) → b = (A' : Int) → A' = A := fun h h' => by omega
  have n1 : ¬ ((0 ≤ x ∧ x ≤ g 48 4 - 1) ∧ (0 ≤ b ∧ b ≤ g 9 1 - 1)) → zC T (d + 10) 282 [mx_R 99, mx_I x, mx_I b] g (fun r g2 => AnsI 1 r g2 ∧ IW g2 ∧ IC (W + 1) g2 ∧ Qy twS teF g g2) X' := fun h1 =>
    sX12_twin (c := g) (d := d + 4) (nt := nt) (al := al) wl.1 wb.1 w.1 R1 R2 R4 tw R5 R6 hx hb (fun _ => bad 1 (by omega)) (fun i B ei eB hi hB => absurd ⟨by omega, by omega⟩ h1) (fun i B _ _ _ ei eB hi hB => absurd ⟨by omega, by omega⟩ h1)
  refine wL_twin (zX11_twin (sX11_isWord hx w1 ?_))
  first | with_reducible refine b_eq (fun h1 => ?_) (fun h1 => ?_) | with_reducible refine b_ne (fun h1 => ?_) (fun h1 => ?_)
  · exact zX11_twin_20 (zX11_twin_21 ⟨by decide, by decide, nF_f (Or.inl ⟨rfl, n1 (fun z => h1 z.1)⟩)⟩)
  refine sX11_isBroker hb wb1 ?_
  first | with_reducible refine b_eq (fun h2 => ?_) (fun h2 => ?_) | with_reducible refine b_ne (fun h2 => ?_) (fun h2 => ?_)
  · exact zX11_twin_20 (zX11_twin_21 ⟨by decide, by decide, nF_f (Or.inl ⟨rfl, n1 (fun z => h2 z.2)⟩)⟩)
  obtain ⟨i, ei⟩ := Int.eq_ofNat_of_zero_le h1.1
  obtain ⟨B, eB⟩ := Int.eq_ofNat_of_zero_le h2.1
  obtain ⟨m, em⟩ := Int.eq_ofNat_of_zero_le w1.1
  have hi : (i : Int) < g 48 4 := by omega
  have hB : (B : Int) < g 9 1 := by omega
  obtain ⟨a1, a2, a3, a4, a5, a6, a7, a8, a9, a10, a11, a12, a13⟩ := w.1.2.1 i hi
  obtain ⟨a, e49⟩ := Int.eq_ofNat_of_zero_le a1.1
  obtain ⟨p, e50⟩ := Int.eq_ofNat_of_zero_le a2.1
  have n2 : ¬ (g 48 4 < 100 ∧ cwP g i B) → zC T (d + 10) 282 [mx_R 99, mx_I x, mx_I b] g (fun r g2 => AnsI 2 r g2 ∧ IW g2 ∧ IC (W + 1) g2 ∧ Qy twS teF g g2) X' := fun h3 =>
    sX12_twin (c := g) (d := d + 4) (nt := nt) (al := al) wl.1 wb.1 w.1 R1 R2 R4 tw R5 R6 hx hb (fun z => absurd ⟨h1, h2⟩ z) (fun _ _ _ _ _ _ _ => bad 2 (by omega)) (fun i' B' _ _ m' ei' eB' _ _ _ _ em' hm z => absurd ⟨by omega, by rw [jx ei ei', jb eB eB'] at z; exact z⟩ h3)
  refine zX11_twin_21 ⟨by decide, by decide, nF_t (zX10_hasRoom ?_)⟩
  first | with_reducible refine c_lt ?_ ?_ (fun h3 => ?_) (fun h3 => ?_) | with_reducible refine c_le ?_ ?_ (fun h3 => ?_) (fun h3 => ?_) | with_reducible refine c_eq ?_ ?_ (fun h3 => ?_) (fun h3 => ?_) | with_reducible refine c_ne ?_ ?_ (fun h3 => ?_) (fun h3 => ?_)
  · omega
  · omega
  · refine zX10_hasRoom_14 ⟨zb0, ?_⟩
    refine ⟨fun _ => ?_, fun z => absurd rfl z⟩
    exact zX11_twin_50 (zX11_twin_51 ⟨by decide, by decide, nS_f (Or.inr ⟨rfl, n2 (fun z => by omega)⟩)⟩)
  refine zX10_hasRoom_14 ⟨zb1, ?_⟩
  refine ⟨fun z => absurd z (by decide), fun _ => ?_⟩
  subst ei eB
  refine sX10_canTwin (d := d + 4) wl.1 wb.1 w.1 hi (by omega) ?_
  first | with_reducible refine b_eq (fun h4 => ?_) (fun h4 => ?_) | with_reducible refine b_ne (fun h4 => ?_) (fun h4 => ?_)
  · exact zX11_twin_50 (zX11_twin_51 ⟨by decide, by decide, nS_f (Or.inr ⟨rfl, n2 (fun z => h4 z.2)⟩)⟩)
  refine zX11_twin_51 ⟨by decide, by decide, nS_t ?_⟩
  refine sX10_addTwin (d := d) (m := m) wl.1 wb.1 w.1 tw wk hW hi (by omega) e49 e50 em (by omega) (fun G cG sG kG tc => ?_)
  obtain ⟨G0, eG0⟩ : ∃ G0, G0 = mx_up G 179 0 (w32 (m : Int)) := ⟨_, rfl⟩
  rw [← eG0]
  have cG0 : Ch [48, 49, 50, 51, 52, 53, 54, 55, 56, 58, 60, 39, 45, 46, 47, 179] [] g G0 := by rw [eG0]; exact (cG.sub (by decide) (by decide)).up (by decide) (by decide)
  obtain ⟨S1, S2, S3, S4, S5, S6⟩ := paRef (nt := nt) wl wb we w e36 (cG0.sub (by decide) (by decide))
  refine sX12_twin (c := g) (d := d + 4) (nt := nt) (al := al) wl.1 wb.1 w.1 S1 S2 S4 tw S5 S6 hx hb (fun z => absurd ⟨h1, h2⟩ z) (fun i' B' ei' eB' _ _ z => absurd ⟨by omega, by rw [show i' = i by omega, show B' = B by omega]; exact h4⟩ z) (fun i' B' a' p' m' ei' eB' _ _ ea ep em' hm _ H cH h0 tr => ?_)
  obtain rfl : i' = i := by omega
  obtain rfl : B' = B := by omega
  obtain rfl : a' = a := by omega
  obtain rfl : p' = p := by omega
  obtain rfl : m' = m := by omega
  have im : i' ≠ m' := by omega
  have c2 : Ch twS teF g H := (cG0.sub (by decide) (by decide)).tr (cH.sub (by decide) (by decide))
  have fC : ∀ q, q ∈ [48, 49, 50, 51, 52, 53, 54, 55, 56, 58, 60, 39, 46] → H q = G q := fun q hq => by
    rw [cH.1 q (by simp at hq ⊢; omega) (by intro z; subst z; revert hq; decide), eG0, up_at, if_neg (by intro z; subst z; revert hq; decide)]
  have k179 : H 179 0 = w32 (m' : Int) := by rw [cH.1 179 (by decide) (by decide), eG0, up_s]
  have cb : ∀ q, q ∈ [134, 135, 136, 137, 138, 139, 140, 141, 142, 143, 144, 145, 146] → G0 q = g q := fun q hq => cG0.1 q (by simp at hq ⊢; omega) (by intro z; subst z; revert hq; decide)
  obtain ⟨n1, n2, n3, n4, n5, n6, n7, n8, n9, n10, n11⟩ := tc
  unfold TwR at tr
  rw [cb 134 (by decide), cb 135 (by decide), cb 136 (by decide), cb 137 (by decide), cb 138 (by decide), cb 139 (by decide), cb 140 (by decide), cb 141 (by decide), cb 142 (by decide), cb 143 (by decide), cb 144 (by decide), cb 145 (by decide), cb 146 (by decide)] at tr
  obtain ⟨r1, r2, r3, r4, r5, r6, r7, r8, r9, r10, r11, r12, r13, r14⟩ := tr
  have rA := wb.1.2.1 a' (by omega)
  have rB := wb.1.2.1 B' (by omega)
  have rP := wb.1.2.1 p' (by omega)
  have lb := wl.1.2.2.2.1 (g 10 a' * 8 + g 10 B').toNat (by omega)
  have lp := wl.1.2.2.2.1 (g 10 p' * 8 + g 10 B').toNat (by omega)
  have z3 : ¬ g 3 (g 10 a' * 8 + g 10 B').toNat = -1 := by have := h4.2.2.2.2.2.2.2.2.2; rw [e49] at this; exact this
  have rg1 := akF_rng (g := g) (nt := nt) (al := al) (a := a') (b := B') (n := g 52 i') (coin := g 51 i') (s := 1) (by decide)
  have rg1' : 1 ≤ w64 (akF g nt al a' B' (g 52 i') (g 51 i') 1) ∧ w64 (akF g nt al a' B' (g 52 i') (g 51 i') 1) ≤ 500 := rg1
  have st : w32 (g 1 0 + g 3 (g 10 a' * 8 + g 10 B').toNat + akF g nt al a' B' (g 52 i') (g 51 i') 1) = g 1 0 + g 3 (g 10 a' * 8 + g 10 B').toNat + w64 (akF g nt al a' B' (g 52 i') (g 51 i') 1) := by
    have e := w32_akF (g := g) (nt := nt) (al := al) (a := a') (b := B') (n := g 52 i') (coin := g 51 i') (s := 1) (by decide)
    have e2 := w32_add (a := g 1 0 + g 3 (g 10 a' * 8 + g 10 B').toNat) (b := akF g nt al a' B' (g 52 i') (g 51 i') 1) (by rw [e]; omega) (by rw [e]; omega)
    rw [e2, e]
  have str : 0 ≤ w32 (twT g nt al i' a' B' p') ∧ w32 (twT g nt al i' a' B' p') ≤ 30000 := by
    unfold twT
    simp only []
    split
    · omega
    · exact imin_rng (by omega) (by omega)
  refine ⟨⟨by omega, h0, fun _ => k179⟩, ?_, ?_, c2, fun z => z.fr c2 (by decide)⟩
  · refine w.new (m := m') em (by rw [c2.1 9 (by decide) (by decide)]) (by rw [fC 48 (by decide), n10, lset_s]) hm r14 (fun j hj q hq => ?_) (fun j hj => ?_) ?_ (fun j h1 h2 => ?_)
    · have hne : j ≠ m' := by omega
      simp only [List.mem_cons, List.not_mem_nil, or_false] at hq
      rcases hq with z | z | z | z | z | z | z | z | z | z | z | z | z | z | z | z | z | z | z | z | z | z | z | z <;> subst z
      · rw [fC 49 (by decide), n1, lset_n hne]
      · rw [fC 50 (by decide), n2, lset_n hne]
      · rw [fC 51 (by decide), n3, lset_n hne]
      · rw [fC 52 (by decide), n4, lset_n hne]
      · rw [fC 53 (by decide), n5, lset_n hne]
      · rw [fC 54 (by decide), n6, lset_n hne]
      · rw [fC 55 (by decide), n7, lset_n hne]
      · rw [fC 56 (by decide), n8, lset_n hne]
      · rw [c2.1 57 (by decide) (by decide)]
      · rw [c2.1 59 (by decide) (by decide)]
      · rw [fC 60 (by decide), n11, lset_n hne]
      · rw [c2.1 61 (by decide) (by decide)]
      · rw [r1, lset_n hne]
      · rw [r2, lset_n hne]
      · rw [r3, lset_n hne]
      · rw [r4, lset_n hne]
      · rw [r5, lset_n hne]
      · rw [r6, lset_n hne]
      · rw [r7, lset_n hne]
      · rw [r8, lset_n hne]
      · rw [r9, lset_n hne]
      · rw [r11, lset_n hne]
      · rw [r12, lset_n hne]
      · rw [r13, lset_n hne]
    · have hne : j ≠ m' := by omega
      obtain ⟨b1, b2, b3, b4, b5, b6, b7, b8, b9, b10, b11, b12, b13⟩ := w.1.2.1 j (by omega)
      have q10 := (w.2.2 j (by omega)).2.2.2.2.2.2.2.2.2.1
      rw [r10, fC 58 (by decide), n9, fC 49 (by decide), n1]
      by_cases y : j = i'
      · subst y
        rw [lset_s, lset_s]
        refine ⟨rfl, by omega, fun _ => ?_, fun _ => by omega⟩
        rw [show ((m' : Int)).toNat = m' by omega, lset_s, e49]
      · rw [lset_n y, lset_n y, lset_n hne, lset_n hne]
        refine ⟨q10, by omega, fun z => ?_, b11.2⟩
        rw [lset_n (by omega)]
        exact b10 z
    · have fr := w.1.2.2 m' hm (by omega)
      have mi : m' ≠ i' := fun z => im z.symm
      unfold WdI WdR
      rw [fC 49 (by decide), fC 50 (by decide), fC 51 (by decide), fC 52 (by decide), fC 53 (by decide), fC 54 (by decide), fC 55 (by decide), fC 56 (by decide), fC 58 (by decide), c2.1 59 (by decide) (by decide), fC 48 (by decide), c2.1 57 (by decide) (by decide), fC 60 (by decide), c2.1 61 (by decide) (by decide), c2.1 9 (by decide) (by decide), n1, n2, n3, n4, n5, n6, n7, n8, n9, n10, n11, r1, r2, r3, r4, r5, r6, r7, r8, r9, r10, r11, r12, r13]
      simp only [lset_s, lset_n mi]
      rw [fr.1, fr.2.1, fr.2.2.2, show ((i' : Int)).toNat = i' by omega, lset_n im, e49]
      have hb6 := h4.2.2.2.2.2.1
      rw [e49] at hb6
      refine ⟨⟨by omega, by omega, by omega, by omega, by omega, by omega, str, by omega, by omega, fun z => (by first | trivial | rfl), ⟨Or.inr (by first | trivial | rfl), fun z => by omega⟩, Or.inl (by first | trivial | rfl), by omega⟩, (by first | trivial | rfl), (by first | trivial | rfl), (by first | trivial | rfl), (by first | trivial | rfl), (by first | trivial | rfl), (by first | trivial | rfl), (by first | trivial | rfl), (by first | trivial | rfl), (by first | trivial | rfl), (by first | trivial | rfl), (by first | trivial | rfl), (by first | trivial | rfl), (by first | trivial | rfl)⟩
    · rw [c2.1 57 (by decide) (by decide), c2.1 59 (by decide) (by decide), c2.1 61 (by decide) (by decide), fC 60 (by decide), n11, lset_n (by omega)]
      exact ⟨rfl, rfl, rfl, rfl⟩
  · exact (wi.wk (by omega)).walk c2 (by decide) (by decide) (by rw [fC 39 (by decide)]; exact sG.2) (by rw [fC 39 (by decide)]; exact kG.1) (by rw [fC 39 (by decide), fC 46 (by decide)]; exact kG.2)
