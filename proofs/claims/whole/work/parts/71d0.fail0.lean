/-! before the first town: calls that fail, 0 -/
theorem O_lag {T : Nat × (Nat → Int32)} {d : Nat} {X : mz_X} {g : mz_S} {W : Int} {a b : Int} (hI : Inv0 W g) (hW : 0 ≤ W ∧ W ≤ 1000000000) (ha : R32 a) (hb : R32 b) : zC T (d + 220) 353 [mx_R 0, mx_I a, mx_I b, mx_R 179] g (fun kk g1 => zC T (d + 220) 217 [mx_R 99, mx_I a, mx_I b] g1 (fun r g2 => AnsI kk r g2 ∧ InvA (W + 1728) g2) X) X := by
  obtain ⟨wl, wc, wb, we, wx, wt, wp, wi, iw, hB⟩ := id hI
  have hT := wl.2.2.2.2.1
  have hWd := hI.noW
  have e2 : g 99 2 = 0 := by rw [wl.2.2.1.2.1, hT]
  have e10 : g 99 10 = 0 := by rw [wb.2.1.1, hB]
  have e55 : g 99 55 = 0 := by rw [iw.2.1, hWd]
  have ref : zC T (d + 220) 217 [mx_R 99, mx_I a, mx_I b] g (fun r g2 => AnsI 1 r g2 ∧ InvA (W + 1728) g2) X := by
    refine zX12_lag ?_
    intro g2 f2
    have b := fun r => hI.badI (r := r) hW.1
    rw [← f2] at b
    refine z_townR ha (by rw [f2, up_i (by decide)]; exact e2) ?_
    exact ⟨fun _ => zX12_lag_30 (sX12_fails (zX12_lag_35 (b _))), fun z => absurd rfl z⟩
  exact wL_lag (zX11_lag (z_town ha hT ⟨fun _ => zX11_lag_20 (zX11_lag_21 ⟨by decide, by decide, nF_f (⟨rfl, ref⟩)⟩), fun z => absurd rfl z⟩))
theorem O_rateAt {T : Nat × (Nat → Int32)} {d : Nat} {X : mz_X} {g : mz_S} {W : Int} {t co dy : Int} (hI : Inv0 W g) (hW : 0 ≤ W ∧ W ≤ 1000000000) (ht : R32 t) (hc : R32 co) (hd : R32 dy) : zC T (d + 220) 355 [mx_R 0, mx_I t, mx_I co, mx_I dy, mx_R 179] g (fun kk g1 => zC T (d + 220) 223 [mx_R 99, mx_I t, mx_I co, mx_I dy] g1 (fun r g2 => AnsI kk r g2 ∧ InvA (W + 1728) g2) X) X := by
  obtain ⟨wl, wc, wb, we, wx, wt, wp, wi, iw, hB⟩ := id hI
  have hT := wl.2.2.2.2.1
  have hWd := hI.noW
  have e2 : g 99 2 = 0 := by rw [wl.2.2.1.2.1, hT]
  have e10 : g 99 10 = 0 := by rw [wb.2.1.1, hB]
  have e55 : g 99 55 = 0 := by rw [iw.2.1, hWd]
  have ref : zC T (d + 220) 223 [mx_R 99, mx_I t, mx_I co, mx_I dy] g (fun r g2 => AnsI 1 r g2 ∧ InvA (W + 1728) g2) X := by
    refine zX12_rateAt ?_
    intro g2 f2
    have b := fun r => hI.badI (r := r) hW.1
    rw [← f2] at b
    refine z_townR ht (by rw [f2, up_i (by decide)]; exact e2) ?_
    exact ⟨fun z => absurd rfl z, fun _ => sX12_fails (b _)⟩
  exact wL_rateAt (zX11_rateAt (z_town ht hT ⟨by decide, by decide, nF_f (Or.inl ⟨rfl, ref⟩)⟩))
theorem O_road {T : Nat × (Nat → Int32)} {d : Nat} {X : mz_X} {g : mz_S} {W : Int} {a b v : Int} (hI : Inv0 W g) (hW : 0 ≤ W ∧ W ≤ 1000000000) (ha : R32 a) (hb : R32 b) (hv : R32 v) : zC T (d + 220) 352 [mx_R 0, mx_I a, mx_I b, mx_I v, mx_R 179] g (fun kk g1 => zC T (d + 220) 215 [mx_R 99, mx_I a, mx_I b, mx_I v] g1 (fun r g2 => AnsI kk r g2 ∧ InvA (W + 1728) g2) X) X := by
  obtain ⟨wl, wc, wb, we, wx, wt, wp, wi, iw, hB⟩ := id hI
  have hT := wl.2.2.2.2.1
  have hWd := hI.noW
  have e2 : g 99 2 = 0 := by rw [wl.2.2.1.2.1, hT]
  have e10 : g 99 10 = 0 := by rw [wb.2.1.1, hB]
  have e55 : g 99 55 = 0 := by rw [iw.2.1, hWd]
  have ref : zC T (d + 220) 215 [mx_R 99, mx_I a, mx_I b, mx_I v] g (fun r g2 => AnsI 1 r g2 ∧ InvA (W + 1728) g2) X := by
    refine zX12_road ?_
    intro g2 f2
    have b := fun r => hI.badI (r := r) hW.1
    rw [← f2] at b
    refine z_townR ha (by rw [f2, up_i (by decide)]; exact e2) ?_
    exact ⟨fun _ => zX12_road_21 (sX12_fails (b _)), fun z => absurd rfl z⟩
  exact wL_road (zX11_road (z_town ha hT ⟨fun _ => zX11_road_20 (zX11_road_21 ⟨by decide, by decide, nF_f (Or.inl ⟨rfl, ref⟩)⟩), fun z => absurd rfl z⟩))
theorem O_rate {T : Nat × (Nat → Int32)} {d : Nat} {X : mz_X} {g : mz_S} {W : Int} {t co v : Int} (hI : Inv0 W g) (hW : 0 ≤ W ∧ W ≤ 1000000000) (ht : R32 t) (hc : R32 co) (hv : R32 v) : zC T (d + 220) 354 [mx_R 0, mx_I t, mx_I co, mx_I v, mx_R 179] g (fun kk g1 => zC T (d + 220) 221 [mx_R 99, mx_I t, mx_I co, mx_I v] g1 (fun r g2 => AnsI kk r g2 ∧ InvA (W + 1728) g2) X) X := by
  obtain ⟨wl, wc, wb, we, wx, wt, wp, wi, iw, hB⟩ := id hI
  have hT := wl.2.2.2.2.1
  have hWd := hI.noW
  have e2 : g 99 2 = 0 := by rw [wl.2.2.1.2.1, hT]
  have e10 : g 99 10 = 0 := by rw [wb.2.1.1, hB]
  have e55 : g 99 55 = 0 := by rw [iw.2.1, hWd]
  have ref : zC T (d + 220) 221 [mx_R 99, mx_I t, mx_I co, mx_I v] g (fun r g2 => AnsI 1 r g2 ∧ InvA (W + 1728) g2) X := by
    refine zX12_rate ?_
    intro g2 f2
    have b := fun r => hI.badI (r := r) hW.1
    rw [← f2] at b
    refine z_townR ht (by rw [f2, up_i (by decide)]; exact e2) ?_
    exact ⟨fun z => absurd rfl z, fun _ => sX12_fails (b _)⟩
  exact wL_rate (zX11_rate (z_town ht hT ⟨by decide, by decide, nF_f (Or.inl ⟨rfl, ref⟩)⟩))
theorem O_broker {T : Nat × (Nat → Int32)} {d : Nat} {X : mz_X} {g : mz_S} {W : Int} {t kn : Int} (hI : Inv0 W g) (hW : 0 ≤ W ∧ W ≤ 1000000000) (ht : R32 t) (hk : R32 kn) : zC T (d + 220) 356 [mx_R 0, mx_I t, mx_I kn, mx_R 179] g (fun kk g1 => zC T (d + 220) 225 [mx_R 99, mx_I t, mx_I kn] g1 (fun r g2 => AnsI kk r g2 ∧ InvA (W + 1728) g2) X) X := by
  obtain ⟨wl, wc, wb, we, wx, wt, wp, wi, iw, hB⟩ := id hI
  have hT := wl.2.2.2.2.1
  have hWd := hI.noW
  have e2 : g 99 2 = 0 := by rw [wl.2.2.1.2.1, hT]
  have e10 : g 99 10 = 0 := by rw [wb.2.1.1, hB]
  have e55 : g 99 55 = 0 := by rw [iw.2.1, hWd]
  have ref : zC T (d + 220) 225 [mx_R 99, mx_I t, mx_I kn] g (fun r g2 => AnsI 1 r g2 ∧ InvA (W + 1728) g2) X := by
    refine zX12_broker ?_
    intro g2 f2
    have b := fun r => hI.badI (r := r) hW.1
    rw [← f2] at b
    refine z_townR ht (by rw [f2, up_i (by decide)]; exact e2) ?_
    exact ⟨fun z => absurd rfl z, fun _ => sX12_fails (b _)⟩
  exact wL_broker (zX11_broker (z_town ht hT ⟨by decide, by decide, nF_f (Or.inl ⟨rfl, ref⟩)⟩))
theorem O_claim {T : Nat × (Nat → Int32)} {d : Nat} {X : mz_X} {g : mz_S} {W : Int} {a b : Int} (hI : Inv0 W g) (hW : 0 ≤ W ∧ W ≤ 1000000000) (ha : R32 a) (hb : R32 b) : zC T (d + 220) 369 [mx_R 0, mx_I a, mx_I b, mx_R 179] g (fun kk g1 => zC T (d + 220) 238 [mx_R 99, mx_I a, mx_I b] g1 (fun r g2 => AnsL kk r g2 ∧ InvA (W + 1728) g2) X) X := by
  obtain ⟨wl, wc, wb, we, wx, wt, wp, wi, iw, hB⟩ := id hI
  have hT := wl.2.2.2.2.1
  have hWd := hI.noW
  have e2 : g 99 2 = 0 := by rw [wl.2.2.1.2.1, hT]
  have e10 : g 99 10 = 0 := by rw [wb.2.1.1, hB]
  have e55 : g 99 55 = 0 := by rw [iw.2.1, hWd]
  have ref : zC T (d + 220) 238 [mx_R 99, mx_I a, mx_I b] g (fun r g2 => AnsL 1 r g2 ∧ InvA (W + 1728) g2) X := by
    refine zX12_claim ?_
    intro g2 f2
    have b := fun r => hI.badL (r := r) hW.1
    rw [← f2] at b
    refine z_brokR ha (by rw [f2, up_i (by decide)]; exact e10) ?_
    exact ⟨fun _ => zX12_claim_30 (sX12_fails (zX12_claim_36 (b _))), fun z => absurd rfl z⟩
  exact wL_claim (zX11_claim (z_brok ha hB ⟨fun _ => zX11_claim_20 (zX11_claim_21 ⟨by decide, by decide, nF_f (⟨rfl, ref⟩)⟩), fun z => absurd rfl z⟩))
theorem O_heard {T : Nat × (Nat → Int32)} {d : Nat} {X : mz_X} {g : mz_S} {W : Int} {s a b co dy : Int} (hI : Inv0 W g) (hW : 0 ≤ W ∧ W ≤ 1000000000) (hs : R32 s) (ha : R32 a) (hb : R32 b) (hc : R32 co) (hd : R32 dy) : zC T (d + 220) 368 [mx_R 0, mx_I s, mx_I a, mx_I b, mx_I co, mx_I dy, mx_R 179] g (fun kk g1 => zC T (d + 220) 237 [mx_R 99, mx_I s, mx_I a, mx_I b, mx_I co, mx_I dy] g1 (fun r g2 => AnsI kk r g2 ∧ InvA (W + 1728) g2) X) X := by
  obtain ⟨wl, wc, wb, we, wx, wt, wp, wi, iw, hB⟩ := id hI
  have hT := wl.2.2.2.2.1
  have hWd := hI.noW
  have e2 : g 99 2 = 0 := by rw [wl.2.2.1.2.1, hT]
  have e10 : g 99 10 = 0 := by rw [wb.2.1.1, hB]
  have e55 : g 99 55 = 0 := by rw [iw.2.1, hWd]
  have ref : zC T (d + 220) 237 [mx_R 99, mx_I s, mx_I a, mx_I b, mx_I co, mx_I dy] g (fun r g2 => AnsI 1 r g2 ∧ InvA (W + 1728) g2) X := by
    refine zX12_heard ?_
    intro g2 f2
    have b := fun r => hI.badI (r := r) hW.1
    rw [← f2] at b
    refine z_brokR hs (by rw [f2, up_i (by decide)]; exact e10) ?_
    exact ⟨fun _ => zX12_heard_29 (sX12_fails (b _)), fun z => absurd rfl z⟩
  exact wL_heard (zX11_heard (z_brok hs hB ⟨fun _ => zX11_heard_28 (zX11_heard_29 ⟨by decide, by decide, nF_f (Or.inl ⟨rfl, ref⟩)⟩), fun z => absurd rfl z⟩))
theorem O_market {T : Nat × (Nat → Int32)} {d : Nat} {X : mz_X} {g : mz_S} {W : Int} {t kd p : Int} (hI : Inv0 W g) (hW : 0 ≤ W ∧ W ≤ 1000000000) (ht : R32 t) (hk : R32 kd) (hp : R32 p) : zC T (d + 220) 371 [mx_R 0, mx_I t, mx_I kd, mx_I p, mx_R 179] g (fun kk g1 => zC T (d + 220) 286 [mx_R 99, mx_I t, mx_I kd, mx_I p] g1 (fun r g2 => AnsI kk r g2 ∧ InvA (W + 1728) g2) X) X := by
  obtain ⟨wl, wc, wb, we, wx, wt, wp, wi, iw, hB⟩ := id hI
  have hT := wl.2.2.2.2.1
  have hWd := hI.noW
  have e2 : g 99 2 = 0 := by rw [wl.2.2.1.2.1, hT]
  have e10 : g 99 10 = 0 := by rw [wb.2.1.1, hB]
  have e55 : g 99 55 = 0 := by rw [iw.2.1, hWd]
  have ref : zC T (d + 220) 286 [mx_R 99, mx_I t, mx_I kd, mx_I p] g (fun r g2 => AnsI 1 r g2 ∧ InvA (W + 1728) g2) X := by
    refine zX12_market ?_
    intro g2 f2
    have b := fun r => hI.badI (r := r) hW.1
    rw [← f2] at b
    refine z_townR ht (by rw [f2, up_i (by decide)]; exact e2) ?_
    exact ⟨fun z => absurd rfl z, fun _ => sX12_fails (b _)⟩
  exact wL_market (zX11_market (z_town ht hT ⟨by decide, by decide, nF_f (Or.inl ⟨rfl, ref⟩)⟩))
theorem O_settle {T : Nat × (Nat → Int32)} {d : Nat} {X : mz_X} {g : mz_S} {W : Int} {a b co n : Int} (hI : Inv0 W g) (hW : 0 ≤ W ∧ W ≤ 1000000000) (ha : R32 a) (hb : R32 b) (hc : R32 co) (hn : R32 n) : zC T (d + 220) 370 [mx_R 0, mx_I a, mx_I b, mx_I co, mx_I n, mx_R 179] g (fun kk g1 => zC T (d + 220) 285 [mx_R 99, mx_I a, mx_I b, mx_I co, mx_I n] g1 (fun r g2 => AnsI kk r g2 ∧ InvA (W + 1728) g2) X) X := by
  obtain ⟨wl, wc, wb, we, wx, wt, wp, wi, iw, hB⟩ := id hI
  have hT := wl.2.2.2.2.1
  have hWd := hI.noW
  have e2 : g 99 2 = 0 := by rw [wl.2.2.1.2.1, hT]
  have e10 : g 99 10 = 0 := by rw [wb.2.1.1, hB]
  have e55 : g 99 55 = 0 := by rw [iw.2.1, hWd]
  have ref : zC T (d + 220) 285 [mx_R 99, mx_I a, mx_I b, mx_I co, mx_I n] g (fun r g2 => AnsI 1 r g2 ∧ InvA (W + 1728) g2) X := by
    refine zX12_settle ?_
    intro g2 f2
    have b := fun r => hI.badI (r := r) hW.1
    rw [← f2] at b
    refine z_brokR ha (by rw [f2, up_i (by decide)]; exact e10) ?_
    exact ⟨fun _ => zX12_settle_21 (sX12_fails (b _)), fun z => absurd rfl z⟩
  exact wL_settle (zX11_settle (z_brok ha hB ⟨fun _ => zX11_settle_20 (zX11_settle_21 ⟨by decide, by decide, nF_f (Or.inl ⟨rfl, ref⟩)⟩), fun z => absurd rfl z⟩))
theorem O_expect {T : Nat × (Nat → Int32)} {d : Nat} {X : mz_X} {g : mz_S} {W : Int} {b co dy lo hi : Int} (hI : Inv0 W g) (hW : 0 ≤ W ∧ W ≤ 1000000000) (hb : R32 b) (hc : R32 co) (hd : R32 dy) (hl : R32 lo) (hh : R32 hi) : zC T (d + 220) 379 [mx_R 0, mx_I b, mx_I co, mx_I dy, mx_I lo, mx_I hi, mx_R 179] g (fun kk g1 => zC T (d + 220) 303 [mx_R 99, mx_I b, mx_I co, mx_I dy, mx_I lo, mx_I hi] g1 (fun r g2 => AnsI kk r g2 ∧ InvA (W + 1728) g2) X) X := by
  obtain ⟨wl, wc, wb, we, wx, wt, wp, wi, iw, hB⟩ := id hI
  have hT := wl.2.2.2.2.1
  have hWd := hI.noW
  have e2 : g 99 2 = 0 := by rw [wl.2.2.1.2.1, hT]
  have e10 : g 99 10 = 0 := by rw [wb.2.1.1, hB]
  have e55 : g 99 55 = 0 := by rw [iw.2.1, hWd]
  have ref : zC T (d + 220) 303 [mx_R 99, mx_I b, mx_I co, mx_I dy, mx_I lo, mx_I hi] g (fun r g2 => AnsI 1 r g2 ∧ InvA (W + 1728) g2) X := by
    refine zX12_expect ?_
    intro g2 f2
    have b := fun r => hI.badI (r := r) hW.1
    rw [← f2] at b
    refine z_brokR hb (by rw [f2, up_i (by decide)]; exact e10) ?_
    exact ⟨fun z => absurd rfl z, fun _ => sX12_fails (b _)⟩
  exact wL_expect (zX11_expect (z_brok hb hB ⟨by decide, by decide, nF_f (Or.inl ⟨rfl, ref⟩)⟩))
theorem O_goods {T : Nat × (Nat → Int32)} {d : Nat} {X : mz_X} {g : mz_S} {W : Int} {a b co kd n p : Int} (hI : Inv0 W g) (hW : 0 ≤ W ∧ W ≤ 1000000000) (ha : R32 a) (hb : R32 b) (hc : R32 co) (hk : R32 kd) (hn : R32 n) (hp : R32 p) : zC T (d + 220) 372 [mx_R 0, mx_I a, mx_I b, mx_I co, mx_I kd, mx_I n, mx_I p, mx_R 179] g (fun kk g1 => zC T (d + 220) 287 [mx_R 99, mx_I a, mx_I b, mx_I co, mx_I kd, mx_I n, mx_I p] g1 (fun r g2 => AnsI kk r g2 ∧ InvA (W + 1728) g2) X) X := by
  obtain ⟨wl, wc, wb, we, wx, wt, wp, wi, iw, hB⟩ := id hI
  have hT := wl.2.2.2.2.1
  have hWd := hI.noW
  have e2 : g 99 2 = 0 := by rw [wl.2.2.1.2.1, hT]
  have e10 : g 99 10 = 0 := by rw [wb.2.1.1, hB]
  have e55 : g 99 55 = 0 := by rw [iw.2.1, hWd]
  have ref : zC T (d + 220) 287 [mx_R 99, mx_I a, mx_I b, mx_I co, mx_I kd, mx_I n, mx_I p] g (fun r g2 => AnsI 1 r g2 ∧ InvA (W + 1728) g2) X := by
    refine zX12_goods ?_
    intro g2 f2
    have b := fun r => hI.badI (r := r) hW.1
    rw [← f2] at b
    refine z_brokR ha (by rw [f2, up_i (by decide)]; exact e10) ?_
    exact ⟨fun _ => zX12_goods_21 (sX12_fails (b _)), fun z => absurd rfl z⟩
  exact wL_goods (zX11_goods (z_brok ha hB ⟨fun _ => zX11_goods_20 (zX11_goods_21 ⟨by decide, by decide, nF_f (Or.inl ⟨rfl, ref⟩)⟩), fun z => absurd rfl z⟩))
theorem O_lines {T : Nat × (Nat → Int32)} {d : Nat} {X : mz_X} {g : mz_S} {W : Int} {a day what : Int} (hI : Inv0 W g) (hW : 0 ≤ W ∧ W ≤ 1000000000) (ha : R32 a) (hd : R32 day) (hx : R32 what) : zC T (d + 220) 360 [mx_R 0, mx_I a, mx_I day, mx_I what, mx_R 179] g (fun kk g1 => zC T (d + 220) 268 [mx_R 99, mx_I a, mx_I day, mx_I what] g1 (fun r g2 => AnsI kk r g2 ∧ InvA (W + 1728) g2) X) X := by
  obtain ⟨wl, wc, wb, we, wx, wt, wp, wi, iw, hB⟩ := id hI
  have hT := wl.2.2.2.2.1
  have hWd := hI.noW
  have e2 : g 99 2 = 0 := by rw [wl.2.2.1.2.1, hT]
  have e10 : g 99 10 = 0 := by rw [wb.2.1.1, hB]
  have e55 : g 99 55 = 0 := by rw [iw.2.1, hWd]
  have ref : zC T (d + 220) 268 [mx_R 99, mx_I a, mx_I day, mx_I what] g (fun r g2 => AnsI 1 r g2 ∧ InvA (W + 1728) g2) X := by
    refine zX12_lines ?_
    intro g2 f2
    have b := fun r => hI.badI (r := r) hW.1
    rw [← f2] at b
    refine z_townR ha (by rw [f2, up_i (by decide)]; exact e2) ?_
    exact ⟨fun z => absurd rfl z, fun _ => sX12_fails (b _)⟩
  exact wL_lines (zX11_lines (z_town ha hT ⟨by decide, by decide, nF_f (Or.inl ⟨rfl, ref⟩)⟩))
