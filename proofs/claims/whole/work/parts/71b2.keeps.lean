/-! each call keeps the invariant, 2 -/
theorem V_goods {T : Nat × (Nat → Int32)} {d : Nat} {X : mz_X} {g : mz_S} {W : Int} {a b co kd n p : Int} (hI : Inv W g) (hW : 0 ≤ W ∧ W ≤ 1000000000) (ha : R32 a) (hb : R32 b) (hc : R32 co) (hk : R32 kd) (hn : R32 n) (hp : R32 p) : zC T (d + 220) 372 [mx_R 0, mx_I a, mx_I b, mx_I co, mx_I kd, mx_I n, mx_I p, mx_R 179] g (fun kk g1 => zC T (d + 220) 287 [mx_R 99, mx_I a, mx_I b, mx_I co, mx_I kd, mx_I n, mx_I p] g1 (fun r g2 => AnsI kk r g2 ∧ Inv (W + 1728) g2) X) X := by
  obtain ⟨wl, wc, wb, we, wx, wt, wp, wi, iw⟩ := hI
  refine zM (C_goods (d := d + 215) wl wc wb we ha hb hc hk hn hp) (fun _ g1 z => zM z (fun _ g2 h => ?_))
  obtain ⟨h0, hIE, hq⟩ := h
  exact ⟨h0, (IL.fr wl hq.1 (by decide) (by decide)), (hq.2 wc), (IB.fr wb hq.1 (by decide) (by decide)), hIE, (IX.fr wx hq.1 (by decide) (by decide)), (IT.fr wt hq.1 (by decide)), (IP.fr wp hq.1 (by decide) (by decide)), (IC.wk (IC.fr wi hq.1 (by decide) (by decide)) (by omega)), (IW.fr iw hq.1 (by decide) (by decide))⟩
theorem V_hidden {T : Nat × (Nat → Int32)} {d : Nat} {X : mz_X} {g : mz_S} {W : Int} {a b : Int} (hI : Inv W g) (hW : 0 ≤ W ∧ W ≤ 1000000000) (ha : R32 a) (hb : R32 b) : zC T (d + 220) 373 [mx_R 0, mx_I a, mx_I b, mx_R 179] g (fun kk g1 => zC T (d + 220) 288 [mx_R 99, mx_I a, mx_I b] g1 (fun r g2 => AnsL kk r g2 ∧ Inv (W + 1728) g2) X) X := by
  obtain ⟨wl, wc, wb, we, wx, wt, wp, wi, iw⟩ := hI
  refine zM (C_hidden (d := d + 216) wb we ha hb) (fun _ g1 z => zM z (fun _ g2 h => ?_))
  obtain ⟨h0, hq⟩ := h
  exact ⟨h0, (IL.fr wl hq.1 (by decide) (by decide)), (hq.2 wc), (IB.fr wb hq.1 (by decide) (by decide)), (IE.fr we hq.1 (by decide) (by decide)), (IX.fr wx hq.1 (by decide) (by decide)), (IT.fr wt hq.1 (by decide)), (IP.fr wp hq.1 (by decide) (by decide)), (IC.wk (IC.fr wi hq.1 (by decide) (by decide)) (by omega)), (IW.fr iw hq.1 (by decide) (by decide))⟩
theorem V_ring {T : Nat × (Nat → Int32)} {d : Nat} {X : mz_X} {g : mz_S} {W : Int} {co mo x : Int} (hI : Inv W g) (hW : 0 ≤ W ∧ W ≤ 1000000000) (hc : R32 co) (hm : R32 mo) (hx : R32 x) : zC T (d + 220) 374 [mx_R 0, mx_I co, mx_I mo, mx_I x, mx_R 179] g (fun kk g1 => zC T (d + 220) 292 [mx_R 99, mx_I co, mx_I mo, mx_I x] g1 (fun r g2 => AnsI kk r g2 ∧ Inv (W + 1728) g2) X) X := by
  obtain ⟨wl, wc, wb, we, wx, wt, wp, wi, iw⟩ := hI
  refine zM (C_ring (d := d + 208) wb we hc hm hx) (fun _ g1 z => zM z (fun _ g2 h => ?_))
  obtain ⟨h0, hq⟩ := h
  exact ⟨h0, (IL.fr wl hq.1 (by decide) (by decide)), (hq.2 wc), (IB.fr wb hq.1 (by decide) (by decide)), (IE.fr we hq.1 (by decide) (by decide)), (IX.fr wx hq.1 (by decide) (by decide)), (IT.fr wt hq.1 (by decide)), (IP.fr wp hq.1 (by decide) (by decide)), (IC.wk (IC.fr wi hq.1 (by decide) (by decide)) (by omega)), (IW.fr iw hq.1 (by decide) (by decide))⟩
theorem V_cross {T : Nat × (Nat → Int32)} {d : Nat} {X : mz_X} {g : mz_S} {W : Int} {co mo : Int} (hI : Inv W g) (hW : 0 ≤ W ∧ W ≤ 1000000000) (hc : R32 co) (hm : R32 mo) : zC T (d + 220) 375 [mx_R 0, mx_I co, mx_I mo, mx_R 179] g (fun kk g1 => zC T (d + 220) 293 [mx_R 99, mx_I co, mx_I mo] g1 (fun r g2 => AnsI kk r g2 ∧ Inv (W + 1728) g2) X) X := by
  obtain ⟨wl, wc, wb, we, wx, wt, wp, wi, iw⟩ := hI
  refine zM (C_cross (d := d + 208) wl wb we hc hm) (fun _ g1 z => zM z (fun _ g2 h => ?_))
  obtain ⟨h0, hIE, hq⟩ := h
  exact ⟨h0, (IL.fr wl hq.1 (by decide) (by decide)), (hq.2 wc), (IB.fr wb hq.1 (by decide) (by decide)), hIE, (IX.fr wx hq.1 (by decide) (by decide)), (IT.fr wt hq.1 (by decide)), (IP.fr wp hq.1 (by decide) (by decide)), (IC.wk (IC.fr wi hq.1 (by decide) (by decide)) (by omega)), (IW.fr iw hq.1 (by decide) (by decide))⟩
theorem V_fewest {T : Nat × (Nat → Int32)} {d : Nat} {X : mz_X} {g : mz_S} {W : Int} {co st : Int} (hI : Inv W g) (hW : 0 ≤ W ∧ W ≤ 1000000000) (hc : R32 co) (hs : R32 st) : zC T (d + 220) 376 [mx_R 0, mx_I co, mx_I st, mx_R 179] g (fun kk g1 => zC T (d + 220) 301 [mx_R 99, mx_I co, mx_I st] g1 (fun r g2 => AnsI kk r g2 ∧ Inv (W + 1728) g2) X) X := by
  obtain ⟨wl, wc, wb, we, wx, wt, wp, wi, iw⟩ := hI
  refine zM (C_fewest (d := d + 212) wb we hc hs) (fun _ g1 z => zM z (fun _ g2 h => ?_))
  obtain ⟨h0, hq⟩ := h
  exact ⟨h0, (IL.fr wl hq.1 (by decide) (by decide)), (hq.2 wc), (IB.fr wb hq.1 (by decide) (by decide)), (IE.fr we hq.1 (by decide) (by decide)), (IX.fr wx hq.1 (by decide) (by decide)), (IT.fr wt hq.1 (by decide)), (IP.fr wp hq.1 (by decide) (by decide)), (IC.wk (IC.fr wi hq.1 (by decide) (by decide)) (by omega)), (IW.fr iw hq.1 (by decide) (by decide))⟩
theorem V_step {T : Nat × (Nat → Int32)} {d : Nat} {X : mz_X} {g : mz_S} {W : Int} {co st x w : Int} (hI : Inv W g) (hW : 0 ≤ W ∧ W ≤ 1000000000) (hc : R32 co) (hs : R32 st) (hx : R32 x) (hwh : R32 w) : zC T (d + 220) 377 [mx_R 0, mx_I co, mx_I st, mx_I x, mx_I w, mx_R 179] g (fun kk g1 => zC T (d + 220) 302 [mx_R 99, mx_I co, mx_I st, mx_I x, mx_I w] g1 (fun r g2 => AnsI kk r g2 ∧ Inv (W + 1728) g2) X) X := by
  obtain ⟨wl, wc, wb, we, wx, wt, wp, wi, iw⟩ := hI
  refine zM (C_step (d := d + 212) wb we hc hs hx hwh) (fun _ g1 z => zM z (fun _ g2 h => ?_))
  obtain ⟨h0, hq⟩ := h
  exact ⟨h0, (IL.fr wl hq.1 (by decide) (by decide)), (hq.2 wc), (IB.fr wb hq.1 (by decide) (by decide)), (IE.fr we hq.1 (by decide) (by decide)), (IX.fr wx hq.1 (by decide) (by decide)), (IT.fr wt hq.1 (by decide)), (IP.fr wp hq.1 (by decide) (by decide)), (IC.wk (IC.fr wi hq.1 (by decide) (by decide)) (by omega)), (IW.fr iw hq.1 (by decide) (by decide))⟩
theorem V_entry {T : Nat × (Nat → Int32)} {d : Nat} {X : mz_X} {g : mz_S} {W : Int} {e wh : Int} (hI : Inv W g) (hW : 0 ≤ W ∧ W ≤ 1000000000) (he : R32 e) (hw : R32 wh) : zC T (d + 220) 378 [mx_R 0, mx_I e, mx_I wh, mx_R 179] g (fun kk g1 => zC T (d + 220) 239 [mx_R 99, mx_I e, mx_I wh] g1 (fun r g2 => AnsI kk r g2 ∧ Inv (W + 1728) g2) X) X := by
  obtain ⟨wl, wc, wb, we, wx, wt, wp, wi, iw⟩ := hI
  refine zM (C_entry (d := d + 216) we he hw) (fun _ g1 z => zM z (fun _ g2 h => ?_))
  obtain ⟨h0, hq⟩ := h
  exact ⟨h0, (IL.fr wl hq.1 (by decide) (by decide)), (hq.2 wc), (IB.fr wb hq.1 (by decide) (by decide)), (IE.fr we hq.1 (by decide) (by decide)), (IX.fr wx hq.1 (by decide) (by decide)), (IT.fr wt hq.1 (by decide)), (IP.fr wp hq.1 (by decide) (by decide)), (IC.wk (IC.fr wi hq.1 (by decide) (by decide)) (by omega)), (IW.fr iw hq.1 (by decide) (by decide))⟩
theorem V_expect {T : Nat × (Nat → Int32)} {d : Nat} {X : mz_X} {g : mz_S} {W : Int} {b co dy lo hi : Int} (hI : Inv W g) (hW : 0 ≤ W ∧ W ≤ 1000000000) (hb : R32 b) (hc : R32 co) (hd : R32 dy) (hl : R32 lo) (hh : R32 hi) : zC T (d + 220) 379 [mx_R 0, mx_I b, mx_I co, mx_I dy, mx_I lo, mx_I hi, mx_R 179] g (fun kk g1 => zC T (d + 220) 303 [mx_R 99, mx_I b, mx_I co, mx_I dy, mx_I lo, mx_I hi] g1 (fun r g2 => AnsI kk r g2 ∧ Inv (W + 1728) g2) X) X := by
  obtain ⟨wl, wc, wb, we, wx, wt, wp, wi, iw⟩ := hI
  refine zM (C_expect (d := d + 216) wl wb wx hb hc hd hl hh) (fun _ g1 z => zM z (fun _ g2 h => ?_))
  obtain ⟨h0, hIX, hq⟩ := h
  exact ⟨h0, (IL.fr wl hq.1 (by decide) (by decide)), (hq.2 wc), (IB.fr wb hq.1 (by decide) (by decide)), (IE.fr we hq.1 (by decide) (by decide)), hIX, (IT.fr wt hq.1 (by decide)), (IP.fr wp hq.1 (by decide) (by decide)), (IC.wk (IC.fr wi hq.1 (by decide) (by decide)) (by omega)), (IW.fr iw hq.1 (by decide) (by decide))⟩
theorem V_dry {T : Nat × (Nat → Int32)} {d : Nat} {X : mz_X} {g : mz_S} {W : Int} {b co x3 : Int} (hI : Inv W g) (hW : 0 ≤ W ∧ W ≤ 1000000000) (hb : R32 b) (hc : R32 co) : zC T (d + 220) 380 [mx_R 0, mx_I b, mx_I co, mx_I x3, mx_R 179] g (fun kk g1 => zC T (d + 220) 306 [mx_R 99, mx_I b, mx_I co, mx_I x3] g1 (fun r g2 => AnsI kk r g2 ∧ Inv (W + 1728) g2) X) X := by
  obtain ⟨wl, wc, wb, we, wx, wt, wp, wi, iw⟩ := hI
  refine zM (C_dry (d := d + 212) wl wb wx iw hb hc) (fun _ g1 z => zM z (fun _ g2 h => ?_))
  obtain ⟨h0, hq⟩ := h
  exact ⟨h0, (IL.fr wl hq.1 (by decide) (by decide)), (hq.2 wc), (IB.fr wb hq.1 (by decide) (by decide)), (IE.fr we hq.1 (by decide) (by decide)), (IX.fr wx hq.1 (by decide) (by decide)), (IT.fr wt hq.1 (by decide)), (IP.fr wp hq.1 (by decide) (by decide)), (IC.wk (IC.fr wi hq.1 (by decide) (by decide)) (by omega)), (IW.fr iw hq.1 (by decide) (by decide))⟩
theorem V_plan {T : Nat × (Nat → Int32)} {d : Nat} {X : mz_X} {g : mz_S} {W : Int} {co x n wks x6 : Int} (hI : Inv W g) (hW : 0 ≤ W ∧ W ≤ 1000000000) (hc : R32 co) (hn : R32 n) (hw : R32 wks) (h6 : R32 x6) : zC T (d + 220) 381 [mx_R 0, mx_I co, mx_J x, mx_I n, mx_I wks, mx_I x6, mx_R 179] g (fun kk g1 => zC T (d + 220) 308 [mx_R 99, mx_I co, mx_J x, mx_I n, mx_I wks, mx_I x6] g1 (fun r g2 => AnsI kk r g2 ∧ Inv (W + 1728) g2) X) X := by
  obtain ⟨wl, wc, wb, we, wx, wt, wp, wi, iw⟩ := hI
  refine zM (C_plan (d := d + 212) wl wb we wx hc hn hw h6) (fun _ g1 z => zM z (fun _ g2 h => ?_))
  obtain ⟨h0, hIX, hq⟩ := h
  exact ⟨h0, (IL.fr wl hq.1 (by decide) (by decide)), (hq.2 wc), (IB.fr wb hq.1 (by decide) (by decide)), (IE.fr we hq.1 (by decide) (by decide)), hIX, (IT.fr wt hq.1 (by decide)), (IP.fr wp hq.1 (by decide) (by decide)), (IC.wk (IC.fr wi hq.1 (by decide) (by decide)) (by omega)), (IW.fr iw hq.1 (by decide) (by decide))⟩
theorem V_falls {T : Nat × (Nat → Int32)} {d : Nat} {X : mz_X} {g : mz_S} {W : Int} {x : Int} (hI : Inv W g) (hW : 0 ≤ W ∧ W ≤ 1000000000) (hx : R32 x) : zC T (d + 220) 382 [mx_R 0, mx_I x, mx_R 179] g (fun kk g1 => zC T (d + 220) 314 [mx_R 99, mx_I x] g1 (fun r g2 => AnsL kk r g2 ∧ Inv (W + 1728) g2) X) X := by
  obtain ⟨wl, wc, wb, we, wx, wt, wp, wi, iw⟩ := hI
  refine zM (C_falls (d := d + 210) wl wc wb we iw wi (by omega) hx) (fun _ g1 z => zM z (fun _ g2 h => ?_))
  obtain ⟨h0, hIB, hIE, hIW, hIC, hq⟩ := h
  exact ⟨h0, (IL.fr wl hq.1 (by decide) (by decide)), (hq.2 wc), hIB, hIE, (IX.fr wx hq.1 (by decide) (by decide)), (IT.fr wt hq.1 (by decide)), (IP.fr wp hq.1 (by decide) (by decide)), (IC.wk hIC (by omega)), hIW⟩
theorem V_fell {T : Nat × (Nat → Int32)} {d : Nat} {X : mz_X} {g : mz_S} {W : Int} {b : Int} (hI : Inv W g) (hW : 0 ≤ W ∧ W ≤ 1000000000) (hb : R32 b) : zC T (d + 220) 383 [mx_R 0, mx_I b, mx_R 179] g (fun kk g1 => zC T (d + 220) 317 [mx_R 99, mx_I b] g1 (fun r g2 => AnsI kk r g2 ∧ Inv (W + 1728) g2) X) X := by
  obtain ⟨wl, wc, wb, we, wx, wt, wp, wi, iw⟩ := hI
  refine zM (C_fell (d := d + 216) wb hb) (fun _ g1 z => zM z (fun _ g2 h => ?_))
  obtain ⟨h0, hq⟩ := h
  exact ⟨h0, (IL.fr wl hq.1 (by decide) (by decide)), (hq.2 wc), (IB.fr wb hq.1 (by decide) (by decide)), (IE.fr we hq.1 (by decide) (by decide)), (IX.fr wx hq.1 (by decide) (by decide)), (IT.fr wt hq.1 (by decide)), (IP.fr wp hq.1 (by decide) (by decide)), (IC.wk (IC.fr wi hq.1 (by decide) (by decide)) (by omega)), (IW.fr iw hq.1 (by decide) (by decide))⟩
