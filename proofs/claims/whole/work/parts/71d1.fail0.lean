/-! before the first town: calls that fail, 1 -/
theorem O_said {T : Nat × (Nat → Int32)} {d : Nat} {X : mz_X} {g : mz_S} {W : Int} {a b n coin what : Int} (hI : Inv0 W g) (hW : 0 ≤ W ∧ W ≤ 1000000000) (ha : R32 a) (hb : R32 b) (hc : R32 coin) (hx : R32 what) : zC T (d + 220) 361 [mx_R 0, mx_I a, mx_I b, mx_J n, mx_I coin, mx_I what, mx_R 179] g (fun kk g1 => zC T (d + 220) 273 [mx_R 99, mx_I a, mx_I b, mx_J n, mx_I coin, mx_I what] g1 (fun r g2 => AnsI kk r g2 ∧ InvA (W + 1728) g2) X) X := by
  obtain ⟨wl, wc, wb, we, wx, wt, wp, wi, iw, hB⟩ := id hI
  have hT := wl.2.2.2.2.1
  have hWd := hI.noW
  have e2 : g 99 2 = 0 := by rw [wl.2.2.1.2.1, hT]
  have e10 : g 99 10 = 0 := by rw [wb.2.1.1, hB]
  have e55 : g 99 55 = 0 := by rw [iw.2.1, hWd]
  have ref : zC T (d + 220) 273 [mx_R 99, mx_I a, mx_I b, mx_J n, mx_I coin, mx_I what] g (fun r g2 => AnsI 1 r g2 ∧ InvA (W + 1728) g2) X := by
    refine zX12_said ?_
    intro g2 f2
    have b := fun r => hI.badI (r := r) hW.1
    rw [← f2] at b
    refine z_brokR ha (by rw [f2, up_i (by decide)]; exact e10) ?_
    exact ⟨fun _ => zX12_said_21 (sX12_fails (b _)), fun z => absurd rfl z⟩
  exact wL_said (zX11_said (z_brok ha hB ⟨fun _ => zX11_said_20 (zX11_said_21 ⟨by decide, by decide, nF_f (Or.inl ⟨rfl, ref⟩)⟩), fun z => absurd rfl z⟩))
theorem O_word {T : Nat × (Nat → Int32)} {d : Nat} {X : mz_X} {g : mz_S} {W : Int} {x wh : Int} (hI : Inv0 W g) (hW : 0 ≤ W ∧ W ≤ 1000000000) (hx : R32 x) (hw : R32 wh) : zC T (d + 220) 366 [mx_R 0, mx_I x, mx_I wh, mx_R 179] g (fun kk g1 => zC T (d + 220) 284 [mx_R 99, mx_I x, mx_I wh] g1 (fun r g2 => AnsI kk r g2 ∧ InvA (W + 1728) g2) X) X := by
  obtain ⟨wl, wc, wb, we, wx, wt, wp, wi, iw, hB⟩ := id hI
  have hT := wl.2.2.2.2.1
  have hWd := hI.noW
  have e2 : g 99 2 = 0 := by rw [wl.2.2.1.2.1, hT]
  have e10 : g 99 10 = 0 := by rw [wb.2.1.1, hB]
  have e55 : g 99 55 = 0 := by rw [iw.2.1, hWd]
  have ref : zC T (d + 220) 284 [mx_R 99, mx_I x, mx_I wh] g (fun r g2 => AnsI 1 r g2 ∧ InvA (W + 1728) g2) X := by
    refine zX12_word ?_
    intro g2 f2
    have b := fun r => hI.badI (r := r) hW.1
    rw [← f2] at b
    refine z_wordR hx (by rw [f2, up_i (by decide)]; exact e55) ?_
    exact ⟨fun z => absurd rfl z, fun _ => sX12_fails (b _)⟩
  exact wL_word (zX11_word (z_word hx hWd ⟨by decide, by decide, nF_f (Or.inl ⟨rfl, ref⟩)⟩))
theorem O_pay {T : Nat × (Nat → Int32)} {d : Nat} {X : mz_X} {g : mz_S} {W : Int} {x s : Int} (hI : Inv0 W g) (hW : 0 ≤ W ∧ W ≤ 1000000000) (hx : R32 x) (hs : R32 s) : zC T (d + 220) 363 [mx_R 0, mx_I x, mx_I s, mx_R 179] g (fun kk g1 => zC T (d + 220) 280 [mx_R 99, mx_I x, mx_I s] g1 (fun r g2 => AnsI kk r g2 ∧ InvA (W + 1728) g2) X) X := by
  obtain ⟨wl, wc, wb, we, wx, wt, wp, wi, iw, hB⟩ := id hI
  have hT := wl.2.2.2.2.1
  have hWd := hI.noW
  have e2 : g 99 2 = 0 := by rw [wl.2.2.1.2.1, hT]
  have e10 : g 99 10 = 0 := by rw [wb.2.1.1, hB]
  have e55 : g 99 55 = 0 := by rw [iw.2.1, hWd]
  have ref : zC T (d + 220) 280 [mx_R 99, mx_I x, mx_I s] g (fun r g2 => AnsI 1 r g2 ∧ InvA (W + 1728) g2) X := by
    refine zX12_pay ?_
    intro g2 f2
    have b := fun r => hI.badI (r := r) hW.1
    rw [← f2] at b
    refine z_wordR hx (by rw [f2, up_i (by decide)]; exact e55) ?_
    exact ⟨fun z => absurd rfl z, fun _ => sX12_fails (b _)⟩
  exact wL_pay (zX11_pay (z_word hx hWd ⟨by decide, by decide, nF_f (Or.inl ⟨rfl, ref⟩)⟩))
theorem O_back {T : Nat × (Nat → Int32)} {d : Nat} {X : mz_X} {g : mz_S} {W : Int} {x : Int} (hI : Inv0 W g) (hW : 0 ≤ W ∧ W ≤ 1000000000) (hx : R32 x) : zC T (d + 220) 364 [mx_R 0, mx_I x, mx_R 179] g (fun kk g1 => zC T (d + 220) 281 [mx_R 99, mx_I x] g1 (fun r g2 => AnsI kk r g2 ∧ InvA (W + 1728) g2) X) X := by
  obtain ⟨wl, wc, wb, we, wx, wt, wp, wi, iw, hB⟩ := id hI
  have hT := wl.2.2.2.2.1
  have hWd := hI.noW
  have e2 : g 99 2 = 0 := by rw [wl.2.2.1.2.1, hT]
  have e10 : g 99 10 = 0 := by rw [wb.2.1.1, hB]
  have e55 : g 99 55 = 0 := by rw [iw.2.1, hWd]
  have ref : zC T (d + 220) 281 [mx_R 99, mx_I x] g (fun r g2 => AnsI 1 r g2 ∧ InvA (W + 1728) g2) X := by
    refine zX12_back ?_
    intro g2 f2
    have b := fun r => hI.badI (r := r) hW.1
    rw [← f2] at b
    refine z_wordR hx (by rw [f2, up_i (by decide)]; exact e55) ?_
    exact ⟨fun z => absurd rfl z, fun _ => sX12_fails (b _)⟩
  exact wL_back (zX11_back (z_word hx hWd ⟨by decide, by decide, nF_f (Or.inl ⟨rfl, ref⟩)⟩))
theorem O_tell {T : Nat × (Nat → Int32)} {d : Nat} {X : mz_X} {g : mz_S} {W : Int} {a b co n s : Int} (hI : Inv0 W g) (hW : 0 ≤ W ∧ W ≤ 1000000000) (ha : R32 a) (hb : R32 b) (hc : R32 co) (hn : R32 n) (hs : R32 s) : zC T (d + 220) 362 [mx_R 0, mx_I a, mx_I b, mx_I co, mx_I n, mx_I s, mx_R 179] g (fun kk g1 => zC T (d + 220) 275 [mx_R 99, mx_I a, mx_I b, mx_I co, mx_I n, mx_I s] g1 (fun r g2 => AnsI kk r g2 ∧ InvA (W + 1728) g2) X) X := by
  obtain ⟨wl, wc, wb, we, wx, wt, wp, wi, iw, hB⟩ := id hI
  have hT := wl.2.2.2.2.1
  have hWd := hI.noW
  have e2 : g 99 2 = 0 := by rw [wl.2.2.1.2.1, hT]
  have e10 : g 99 10 = 0 := by rw [wb.2.1.1, hB]
  have e55 : g 99 55 = 0 := by rw [iw.2.1, hWd]
  have ref : zC T (d + 220) 275 [mx_R 99, mx_I a, mx_I b, mx_I co, mx_I n, mx_I s] g (fun r g2 => AnsI 1 r g2 ∧ InvA (W + 1728) g2) X := by
    refine zX12_tell ?_
    intro g2 f2
    have b := fun r => hI.badI (r := r) hW.1
    rw [← f2] at b
    refine z_brokR ha (by rw [f2, up_i (by decide)]; exact e10) ?_
    exact ⟨fun _ => zX12_tell_21 (sX12_fails (b _)), fun z => absurd rfl z⟩
  exact wL_tell (zX11_tell (z_brok ha hB ⟨fun _ => zX11_tell_20 (zX11_tell_21 ⟨by decide, by decide, nF_f (Or.inl ⟨rfl, ref⟩)⟩), fun z => absurd rfl z⟩))
theorem O_twin {T : Nat × (Nat → Int32)} {d : Nat} {X : mz_X} {g : mz_S} {W : Int} {x b : Int} (hI : Inv0 W g) (hW : 0 ≤ W ∧ W ≤ 1000000000) (hx : R32 x) (hb : R32 b) : zC T (d + 220) 365 [mx_R 0, mx_I x, mx_I b, mx_R 179] g (fun kk g1 => zC T (d + 220) 282 [mx_R 99, mx_I x, mx_I b] g1 (fun r g2 => AnsI kk r g2 ∧ InvA (W + 1728) g2) X) X := by
  obtain ⟨wl, wc, wb, we, wx, wt, wp, wi, iw, hB⟩ := id hI
  have hT := wl.2.2.2.2.1
  have hWd := hI.noW
  have e2 : g 99 2 = 0 := by rw [wl.2.2.1.2.1, hT]
  have e10 : g 99 10 = 0 := by rw [wb.2.1.1, hB]
  have e55 : g 99 55 = 0 := by rw [iw.2.1, hWd]
  have ref : zC T (d + 220) 282 [mx_R 99, mx_I x, mx_I b] g (fun r g2 => AnsI 1 r g2 ∧ InvA (W + 1728) g2) X := by
    refine zX12_twin ?_
    intro g2 f2
    have b := fun r => hI.badI (r := r) hW.1
    rw [← f2] at b
    refine z_wordR hx (by rw [f2, up_i (by decide)]; exact e55) ?_
    exact ⟨fun _ => zX12_twin_21 (sX12_fails (b _)), fun z => absurd rfl z⟩
  exact wL_twin (zX11_twin (z_word hx hWd ⟨fun _ => zX11_twin_20 (zX11_twin_21 ⟨by decide, by decide, nF_f (Or.inl ⟨rfl, ref⟩)⟩), fun z => absurd rfl z⟩))
theorem O_dry {T : Nat × (Nat → Int32)} {d : Nat} {X : mz_X} {g : mz_S} {W : Int} {b co x3 : Int} (hI : Inv0 W g) (hW : 0 ≤ W ∧ W ≤ 1000000000) (hb : R32 b) (hc : R32 co) : zC T (d + 220) 380 [mx_R 0, mx_I b, mx_I co, mx_I x3, mx_R 179] g (fun kk g1 => zC T (d + 220) 306 [mx_R 99, mx_I b, mx_I co, mx_I x3] g1 (fun r g2 => AnsI kk r g2 ∧ InvA (W + 1728) g2) X) X := by
  obtain ⟨wl, wc, wb, we, wx, wt, wp, wi, iw, hB⟩ := id hI
  have hT := wl.2.2.2.2.1
  have hWd := hI.noW
  have e2 : g 99 2 = 0 := by rw [wl.2.2.1.2.1, hT]
  have e10 : g 99 10 = 0 := by rw [wb.2.1.1, hB]
  have e55 : g 99 55 = 0 := by rw [iw.2.1, hWd]
  have ref : zC T (d + 220) 306 [mx_R 99, mx_I b, mx_I co, mx_I x3] g (fun r g2 => AnsI 1 r g2 ∧ InvA (W + 1728) g2) X := by
    refine zX12_dry ?_
    intro g2 f2
    have b := fun r => hI.badI (r := r) hW.1
    rw [← f2] at b
    refine z_brokR hb (by rw [f2, up_i (by decide)]; exact e10) ?_
    exact ⟨fun z => absurd rfl z, fun _ => sX12_fails (b _)⟩
  exact wL_dry (zX11_dry (z_brok hb hB ⟨by decide, by decide, nF_f (Or.inl ⟨rfl, ref⟩)⟩))
theorem O_run {T : Nat × (Nat → Int32)} {d : Nat} {X : mz_X} {g : mz_S} {W : Int} {b days x : Int} (hI : Inv0 W g) (hW : 0 ≤ W ∧ W ≤ 1000000000) (hb : R32 b) (hd : R32 days) (hx : R32 x) : zC T (d + 220) 386 [mx_R 0, mx_I b, mx_I days, mx_I x, mx_R 179] g (fun kk g1 => zC T (d + 220) 321 [mx_R 99, mx_I b, mx_I days, mx_I x] g1 (fun r g2 => AnsI kk r g2 ∧ InvA (W + 1728) g2) X) X := by
  obtain ⟨wl, wc, wb, we, wx, wt, wp, wi, iw, hB⟩ := id hI
  have hT := wl.2.2.2.2.1
  have hWd := hI.noW
  have e2 : g 99 2 = 0 := by rw [wl.2.2.1.2.1, hT]
  have e10 : g 99 10 = 0 := by rw [wb.2.1.1, hB]
  have e55 : g 99 55 = 0 := by rw [iw.2.1, hWd]
  have ref : zC T (d + 220) 321 [mx_R 99, mx_I b, mx_I days, mx_I x] g (fun r g2 => AnsI 1 r g2 ∧ InvA (W + 1728) g2) X := by
    refine zX12_run ?_
    intro g2 f2
    have b := fun r => hI.badI (r := r) hW.1
    rw [← f2] at b
    refine z_brokR hb (by rw [f2, up_i (by decide)]; exact e10) ?_
    exact ⟨fun z => absurd rfl z, fun _ => sX12_fails (b _)⟩
  exact wL_run (zX11_run (z_brok hb hB ⟨by decide, by decide, nF_f (Or.inl ⟨rfl, ref⟩)⟩))
theorem O_wealth {T : Nat × (Nat → Int32)} {d : Nat} {X : mz_X} {g : mz_S} {W : Int} {x : Int} (hI : Inv0 W g) (hW : 0 ≤ W ∧ W ≤ 1000000000) (hx : R32 x) : zC T (d + 220) 385 [mx_R 0, mx_I x, mx_R 179] g (fun kk g1 => zC T (d + 220) 320 [mx_R 99, mx_I x] g1 (fun r g2 => AnsL kk r g2 ∧ InvA (W + 1728) g2) X) X := by
  obtain ⟨wl, wc, wb, we, wx, wt, wp, wi, iw, hB⟩ := id hI
  have hT := wl.2.2.2.2.1
  have hWd := hI.noW
  have e2 : g 99 2 = 0 := by rw [wl.2.2.1.2.1, hT]
  have e10 : g 99 10 = 0 := by rw [wb.2.1.1, hB]
  have e55 : g 99 55 = 0 := by rw [iw.2.1, hWd]
  have ref : zC T (d + 220) 320 [mx_R 99, mx_I x] g (fun r g2 => AnsL 1 r g2 ∧ InvA (W + 1728) g2) X := by
    refine zX12_wealth ?_
    intro g2 f2
    have b := fun r => hI.badL (r := r) hW.1
    rw [← f2] at b
    refine z_brokR hx (by rw [f2, up_i (by decide)]; exact e10) ?_
    exact ⟨fun _ => sX12_fails (zX12_wealth_42 (b _)), fun z => absurd rfl z⟩
  exact wL_wealth (zX11_wealth (z_brok hx hB ⟨by decide, by decide, nF_f (⟨rfl, ref⟩)⟩))
theorem O_ruin {T : Nat × (Nat → Int32)} {d : Nat} {X : mz_X} {g : mz_S} {W : Int} {x x2 : Int} (hI : Inv0 W g) (hW : 0 ≤ W ∧ W ≤ 1000000000) (hx : R32 x) (hx2 : R32 x2) : zC T (d + 220) 384 [mx_R 0, mx_I x, mx_I x2, mx_R 179] g (fun kk g1 => zC T (d + 220) 319 [mx_R 99, mx_I x, mx_I x2] g1 (fun r g2 => AnsI kk r g2 ∧ InvA (W + 1728) g2) X) X := by
  obtain ⟨wl, wc, wb, we, wx, wt, wp, wi, iw, hB⟩ := id hI
  have hT := wl.2.2.2.2.1
  have hWd := hI.noW
  have e2 : g 99 2 = 0 := by rw [wl.2.2.1.2.1, hT]
  have e10 : g 99 10 = 0 := by rw [wb.2.1.1, hB]
  have e55 : g 99 55 = 0 := by rw [iw.2.1, hWd]
  have ref : zC T (d + 220) 319 [mx_R 99, mx_I x, mx_I x2] g (fun r g2 => AnsI 1 r g2 ∧ InvA (W + 1728) g2) X := by
    refine zX12_ruin ?_
    intro g2 f2
    have b := fun r => hI.badI (r := r) hW.1
    rw [← f2] at b
    refine z_brokR hx (by rw [f2, up_i (by decide)]; exact e10) ?_
    exact ⟨fun z => absurd rfl z, fun _ => sX12_fails (b _)⟩
  exact wL_ruin (zX11_ruin (z_brok hx hB ⟨by decide, by decide, nF_f (Or.inl ⟨rfl, ref⟩)⟩))
theorem O_falls {T : Nat × (Nat → Int32)} {d : Nat} {X : mz_X} {g : mz_S} {W : Int} {x : Int} (hI : Inv0 W g) (hW : 0 ≤ W ∧ W ≤ 1000000000) (hx : R32 x) : zC T (d + 220) 382 [mx_R 0, mx_I x, mx_R 179] g (fun kk g1 => zC T (d + 220) 314 [mx_R 99, mx_I x] g1 (fun r g2 => AnsL kk r g2 ∧ InvA (W + 1728) g2) X) X := by
  obtain ⟨wl, wc, wb, we, wx, wt, wp, wi, iw, hB⟩ := id hI
  have hT := wl.2.2.2.2.1
  have hWd := hI.noW
  have e2 : g 99 2 = 0 := by rw [wl.2.2.1.2.1, hT]
  have e10 : g 99 10 = 0 := by rw [wb.2.1.1, hB]
  have e55 : g 99 55 = 0 := by rw [iw.2.1, hWd]
  have ref : zC T (d + 220) 314 [mx_R 99, mx_I x] g (fun r g2 => AnsL 1 r g2 ∧ InvA (W + 1728) g2) X := by
    refine zX12_falls ?_
    intro g2 f2
    have b := fun r => hI.badL (r := r) hW.1
    rw [← f2] at b
    refine z_brokR hx (by rw [f2, up_i (by decide)]; exact e10) ?_
    exact ⟨fun z => absurd rfl z, fun _ => sX12_fails (b _)⟩
  exact wL_falls (zX11_falls (z_brok hx hB ⟨by decide, by decide, nF_f (Or.inl ⟨rfl, ref⟩)⟩))
