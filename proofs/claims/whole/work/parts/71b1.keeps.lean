/-! each call keeps the invariant, 1 -/
theorem V_lines {T : Nat × (Nat → Int32)} {d : Nat} {X : mz_X} {g : mz_S} {W : Int} {a day what : Int} (hI : Inv W g) (hW : 0 ≤ W ∧ W ≤ 1000000000) (ha : R32 a) (hd : R32 day) (hx : R32 what) : zC T (d + 220) 360 [mx_R 0, mx_I a, mx_I day, mx_I what, mx_R 179] g (fun kk g1 => zC T (d + 220) 268 [mx_R 99, mx_I a, mx_I day, mx_I what] g1 (fun r g2 => AnsI kk r g2 ∧ Inv (W + 1728) g2) X) X := by
  obtain ⟨wl, wc, wb, we, wx, wt, wp, wi, iw⟩ := hI
  refine zM (C_lines (d := d + 214) wl wi (by omega) ha hd hx) (fun _ g1 z => zM z (fun _ g2 h => ?_))
  obtain ⟨h0, hIC, hq⟩ := h
  exact ⟨h0, (IL.fr wl hq.1 (by decide) (by decide)), (hq.2 wc), (IB.fr wb hq.1 (by decide) (by decide)), (IE.fr we hq.1 (by decide) (by decide)), (IX.fr wx hq.1 (by decide) (by decide)), (IT.fr wt hq.1 (by decide)), (IP.fr wp hq.1 (by decide) (by decide)), (IC.wk hIC (by omega)), (IW.fr iw hq.1 (by decide) (by decide))⟩
theorem V_said {T : Nat × (Nat → Int32)} {d : Nat} {X : mz_X} {g : mz_S} {W : Int} {a b n coin what : Int} (hI : Inv W g) (hW : 0 ≤ W ∧ W ≤ 1000000000) (ha : R32 a) (hb : R32 b) (hc : R32 coin) (hx : R32 what) : zC T (d + 220) 361 [mx_R 0, mx_I a, mx_I b, mx_J n, mx_I coin, mx_I what, mx_R 179] g (fun kk g1 => zC T (d + 220) 273 [mx_R 99, mx_I a, mx_I b, mx_J n, mx_I coin, mx_I what] g1 (fun r g2 => AnsI kk r g2 ∧ Inv (W + 1728) g2) X) X := by
  obtain ⟨wl, wc, wb, we, wx, wt, wp, wi, iw⟩ := hI
  refine zM (C_said (d := d + 210) wl wb wi (by omega) ha hb hc hx) (fun _ g1 z => zM z (fun _ g2 h => ?_))
  obtain ⟨h0, hIC, hq⟩ := h
  exact ⟨h0, (IL.fr wl hq.1 (by decide) (by decide)), (hq.2 wc), (IB.fr wb hq.1 (by decide) (by decide)), (IE.fr we hq.1 (by decide) (by decide)), (IX.fr wx hq.1 (by decide) (by decide)), (IT.fr wt hq.1 (by decide)), (IP.fr wp hq.1 (by decide) (by decide)), (IC.wk hIC (by omega)), (IW.fr iw hq.1 (by decide) (by decide))⟩
theorem V_tell {T : Nat × (Nat → Int32)} {d : Nat} {X : mz_X} {g : mz_S} {W : Int} {a b co n s : Int} (hI : Inv W g) (hW : 0 ≤ W ∧ W ≤ 1000000000) (ha : R32 a) (hb : R32 b) (hc : R32 co) (hn : R32 n) (hs : R32 s) : zC T (d + 220) 362 [mx_R 0, mx_I a, mx_I b, mx_I co, mx_I n, mx_I s, mx_R 179] g (fun kk g1 => zC T (d + 220) 275 [mx_R 99, mx_I a, mx_I b, mx_I co, mx_I n, mx_I s] g1 (fun r g2 => AnsI kk r g2 ∧ Inv (W + 1728) g2) X) X := by
  obtain ⟨wl, wc, wb, we, wx, wt, wp, wi, iw⟩ := hI
  refine zM (C_tell (d := d + 210) wl wc wb we iw wi (by omega) ha hb hc hn hs) (fun _ g1 z => zM z (fun _ g2 h => ?_))
  obtain ⟨h0, hIB, hIW, hIC, hq⟩ := h
  exact ⟨h0, (IL.fr wl hq.1 (by decide) (by decide)), (hq.2 wc), hIB, (IE.fr we hq.1 (by decide) (by decide)), (IX.fr wx hq.1 (by decide) (by decide)), (IT.fr wt hq.1 (by decide)), (IP.fr wp hq.1 (by decide) (by decide)), (IC.wk hIC (by omega)), hIW⟩
theorem V_pay {T : Nat × (Nat → Int32)} {d : Nat} {X : mz_X} {g : mz_S} {W : Int} {x s : Int} (hI : Inv W g) (hW : 0 ≤ W ∧ W ≤ 1000000000) (hx : R32 x) (hs : R32 s) : zC T (d + 220) 363 [mx_R 0, mx_I x, mx_I s, mx_R 179] g (fun kk g1 => zC T (d + 220) 280 [mx_R 99, mx_I x, mx_I s] g1 (fun r g2 => AnsI kk r g2 ∧ Inv (W + 1728) g2) X) X := by
  obtain ⟨wl, wc, wb, we, wx, wt, wp, wi, iw⟩ := hI
  refine zM (C_pay (d := d + 209) wl wb we iw wi (by omega) hx hs) (fun _ g1 z => zM z (fun _ g2 h => ?_))
  obtain ⟨h0, hIB, hIE, hIW, hIC, hq⟩ := h
  exact ⟨h0, (IL.fr wl hq.1 (by decide) (by decide)), (hq.2 wc), hIB, hIE, (IX.fr wx hq.1 (by decide) (by decide)), (IT.fr wt hq.1 (by decide)), (IP.fr wp hq.1 (by decide) (by decide)), (IC.wk hIC (by omega)), hIW⟩
theorem V_back {T : Nat × (Nat → Int32)} {d : Nat} {X : mz_X} {g : mz_S} {W : Int} {x : Int} (hI : Inv W g) (hW : 0 ≤ W ∧ W ≤ 1000000000) (hx : R32 x) : zC T (d + 220) 364 [mx_R 0, mx_I x, mx_R 179] g (fun kk g1 => zC T (d + 220) 281 [mx_R 99, mx_I x] g1 (fun r g2 => AnsI kk r g2 ∧ Inv (W + 1728) g2) X) X := by
  obtain ⟨wl, wc, wb, we, wx, wt, wp, wi, iw⟩ := hI
  refine zM (C_back (d := d + 212) wl wb iw hx) (fun _ g1 z => zM z (fun _ g2 h => ?_))
  obtain ⟨h0, hIB, hIW, hq⟩ := h
  exact ⟨h0, (IL.fr wl hq.1 (by decide) (by decide)), (hq.2 wc), hIB, (IE.fr we hq.1 (by decide) (by decide)), (IX.fr wx hq.1 (by decide) (by decide)), (IT.fr wt hq.1 (by decide)), (IP.fr wp hq.1 (by decide) (by decide)), (IC.wk (IC.fr wi hq.1 (by decide) (by decide)) (by omega)), hIW⟩
theorem V_twin {T : Nat × (Nat → Int32)} {d : Nat} {X : mz_X} {g : mz_S} {W : Int} {x b : Int} (hI : Inv W g) (hW : 0 ≤ W ∧ W ≤ 1000000000) (hx : R32 x) (hb : R32 b) : zC T (d + 220) 365 [mx_R 0, mx_I x, mx_I b, mx_R 179] g (fun kk g1 => zC T (d + 220) 282 [mx_R 99, mx_I x, mx_I b] g1 (fun r g2 => AnsI kk r g2 ∧ Inv (W + 1728) g2) X) X := by
  obtain ⟨wl, wc, wb, we, wx, wt, wp, wi, iw⟩ := hI
  refine zM (C_twin (d := d + 210) wl wb we iw wi (by omega) hx hb) (fun _ g1 z => zM z (fun _ g2 h => ?_))
  obtain ⟨h0, hIW, hIC, hq⟩ := h
  exact ⟨h0, (IL.fr wl hq.1 (by decide) (by decide)), (hq.2 wc), (IB.fr wb hq.1 (by decide) (by decide)), (IE.fr we hq.1 (by decide) (by decide)), (IX.fr wx hq.1 (by decide) (by decide)), (IT.fr wt hq.1 (by decide)), (IP.fr wp hq.1 (by decide) (by decide)), (IC.wk hIC (by omega)), hIW⟩
theorem V_word {T : Nat × (Nat → Int32)} {d : Nat} {X : mz_X} {g : mz_S} {W : Int} {x wh : Int} (hI : Inv W g) (hW : 0 ≤ W ∧ W ≤ 1000000000) (hx : R32 x) (hw : R32 wh) : zC T (d + 220) 366 [mx_R 0, mx_I x, mx_I wh, mx_R 179] g (fun kk g1 => zC T (d + 220) 284 [mx_R 99, mx_I x, mx_I wh] g1 (fun r g2 => AnsI kk r g2 ∧ Inv (W + 1728) g2) X) X := by
  obtain ⟨wl, wc, wb, we, wx, wt, wp, wi, iw⟩ := hI
  refine zM (C_word (d := d + 214) wl iw hx hw) (fun _ g1 z => zM z (fun _ g2 h => ?_))
  obtain ⟨h0, hq⟩ := h
  exact ⟨h0, (IL.fr wl hq.1 (by decide) (by decide)), (hq.2 wc), (IB.fr wb hq.1 (by decide) (by decide)), (IE.fr we hq.1 (by decide) (by decide)), (IX.fr wx hq.1 (by decide) (by decide)), (IT.fr wt hq.1 (by decide)), (IP.fr wp hq.1 (by decide) (by decide)), (IC.wk (IC.fr wi hq.1 (by decide) (by decide)) (by omega)), (IW.fr iw hq.1 (by decide) (by decide))⟩
theorem V_owes {T : Nat × (Nat → Int32)} {d : Nat} {X : mz_X} {g : mz_S} {W : Int} {a b co : Int} (hI : Inv W g) (hW : 0 ≤ W ∧ W ≤ 1000000000) (ha : R32 a) (hb : R32 b) (hc : R32 co) : zC T (d + 220) 367 [mx_R 0, mx_I a, mx_I b, mx_I co, mx_R 179] g (fun kk g1 => zC T (d + 220) 236 [mx_R 99, mx_I a, mx_I b, mx_I co] g1 (fun r g2 => AnsI kk r g2 ∧ Inv (W + 1728) g2) X) X := by
  obtain ⟨wl, wc, wb, we, wx, wt, wp, wi, iw⟩ := hI
  refine zM (C_owes (d := d + 216) wb we ha hb hc) (fun _ g1 z => zM z (fun _ g2 h => ?_))
  obtain ⟨h0, hq⟩ := h
  exact ⟨h0, (IL.fr wl hq.1 (by decide) (by decide)), (hq.2 wc), (IB.fr wb hq.1 (by decide) (by decide)), (IE.fr we hq.1 (by decide) (by decide)), (IX.fr wx hq.1 (by decide) (by decide)), (IT.fr wt hq.1 (by decide)), (IP.fr wp hq.1 (by decide) (by decide)), (IC.wk (IC.fr wi hq.1 (by decide) (by decide)) (by omega)), (IW.fr iw hq.1 (by decide) (by decide))⟩
theorem V_heard {T : Nat × (Nat → Int32)} {d : Nat} {X : mz_X} {g : mz_S} {W : Int} {s a b co dy : Int} (hI : Inv W g) (hW : 0 ≤ W ∧ W ≤ 1000000000) (hs : R32 s) (ha : R32 a) (hb : R32 b) (hc : R32 co) (hd : R32 dy) : zC T (d + 220) 368 [mx_R 0, mx_I s, mx_I a, mx_I b, mx_I co, mx_I dy, mx_R 179] g (fun kk g1 => zC T (d + 220) 237 [mx_R 99, mx_I s, mx_I a, mx_I b, mx_I co, mx_I dy] g1 (fun r g2 => AnsI kk r g2 ∧ Inv (W + 1728) g2) X) X := by
  obtain ⟨wl, wc, wb, we, wx, wt, wp, wi, iw⟩ := hI
  refine zM (C_heard (d := d + 215) wl wb we hs ha hb hc hd) (fun _ g1 z => zM z (fun _ g2 h => ?_))
  obtain ⟨h0, hq⟩ := h
  exact ⟨h0, (IL.fr wl hq.1 (by decide) (by decide)), (hq.2 wc), (IB.fr wb hq.1 (by decide) (by decide)), (IE.fr we hq.1 (by decide) (by decide)), (IX.fr wx hq.1 (by decide) (by decide)), (IT.fr wt hq.1 (by decide)), (IP.fr wp hq.1 (by decide) (by decide)), (IC.wk (IC.fr wi hq.1 (by decide) (by decide)) (by omega)), (IW.fr iw hq.1 (by decide) (by decide))⟩
theorem V_claim {T : Nat × (Nat → Int32)} {d : Nat} {X : mz_X} {g : mz_S} {W : Int} {a b : Int} (hI : Inv W g) (hW : 0 ≤ W ∧ W ≤ 1000000000) (ha : R32 a) (hb : R32 b) : zC T (d + 220) 369 [mx_R 0, mx_I a, mx_I b, mx_R 179] g (fun kk g1 => zC T (d + 220) 238 [mx_R 99, mx_I a, mx_I b] g1 (fun r g2 => AnsL kk r g2 ∧ Inv (W + 1728) g2) X) X := by
  obtain ⟨wl, wc, wb, we, wx, wt, wp, wi, iw⟩ := hI
  refine zM (C_claim (d := d + 214) wl wc wb we ha hb) (fun _ g1 z => zM z (fun _ g2 h => ?_))
  obtain ⟨h0, hq⟩ := h
  exact ⟨h0, (IL.fr wl hq.1 (by decide) (by decide)), (hq.2 wc), (IB.fr wb hq.1 (by decide) (by decide)), (IE.fr we hq.1 (by decide) (by decide)), (IX.fr wx hq.1 (by decide) (by decide)), (IT.fr wt hq.1 (by decide)), (IP.fr wp hq.1 (by decide) (by decide)), (IC.wk (IC.fr wi hq.1 (by decide) (by decide)) (by omega)), (IW.fr iw hq.1 (by decide) (by decide))⟩
theorem V_settle {T : Nat × (Nat → Int32)} {d : Nat} {X : mz_X} {g : mz_S} {W : Int} {a b co n : Int} (hI : Inv W g) (hW : 0 ≤ W ∧ W ≤ 1000000000) (ha : R32 a) (hb : R32 b) (hc : R32 co) (hn : R32 n) : zC T (d + 220) 370 [mx_R 0, mx_I a, mx_I b, mx_I co, mx_I n, mx_R 179] g (fun kk g1 => zC T (d + 220) 285 [mx_R 99, mx_I a, mx_I b, mx_I co, mx_I n] g1 (fun r g2 => AnsI kk r g2 ∧ Inv (W + 1728) g2) X) X := by
  obtain ⟨wl, wc, wb, we, wx, wt, wp, wi, iw⟩ := hI
  refine zM (C_settle (d := d + 215) wl wb we ha hb hc hn) (fun _ g1 z => zM z (fun _ g2 h => ?_))
  obtain ⟨h0, hIB, hIE, hq⟩ := h
  exact ⟨h0, (IL.fr wl hq.1 (by decide) (by decide)), (hq.2 wc), hIB, hIE, (IX.fr wx hq.1 (by decide) (by decide)), (IT.fr wt hq.1 (by decide)), (IP.fr wp hq.1 (by decide) (by decide)), (IC.wk (IC.fr wi hq.1 (by decide) (by decide)) (by omega)), (IW.fr iw hq.1 (by decide) (by decide))⟩
theorem V_market {T : Nat × (Nat → Int32)} {d : Nat} {X : mz_X} {g : mz_S} {W : Int} {t kd p : Int} (hI : Inv W g) (hW : 0 ≤ W ∧ W ≤ 1000000000) (ht : R32 t) (hk : R32 kd) (hp : R32 p) : zC T (d + 220) 371 [mx_R 0, mx_I t, mx_I kd, mx_I p, mx_R 179] g (fun kk g1 => zC T (d + 220) 286 [mx_R 99, mx_I t, mx_I kd, mx_I p] g1 (fun r g2 => AnsI kk r g2 ∧ Inv (W + 1728) g2) X) X := by
  obtain ⟨wl, wc, wb, we, wx, wt, wp, wi, iw⟩ := hI
  refine zM (C_market (d := d + 216) wl we ht hk hp) (fun _ g1 z => zM z (fun _ g2 h => ?_))
  obtain ⟨h0, hIE, hq⟩ := h
  exact ⟨h0, (IL.fr wl hq.1 (by decide) (by decide)), (hq.2 wc), (IB.fr wb hq.1 (by decide) (by decide)), hIE, (IX.fr wx hq.1 (by decide) (by decide)), (IT.fr wt hq.1 (by decide)), (IP.fr wp hq.1 (by decide) (by decide)), (IC.wk (IC.fr wi hq.1 (by decide) (by decide)) (by omega)), (IW.fr iw hq.1 (by decide) (by decide))⟩
