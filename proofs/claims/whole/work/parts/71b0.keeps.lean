/-! each call keeps the invariant, 0 -/
theorem V_go {T : Nat × (Nat → Int32)} {d : Nat} {X : mz_X} {g : mz_S} {W : Int} {x : Int} (hI : Inv W g) (hW : 0 ≤ W ∧ W ≤ 1000000000) (hx : R32 x) : zC T (d + 220) 351 [mx_R 0, mx_I x, mx_R 179] g (fun kk g1 => zC T (d + 220) 211 [mx_R 99, mx_I x] g1 (fun b g2 => AnsI kk b g2 ∧ Inv (W + 1728) g2) X) X := by
  obtain ⟨wl, wc, wb, we, wx, wt, wp, wi, iw⟩ := hI
  refine zM (C_go (d := d + 216) wl hx) (fun _ g1 z => zM z (fun _ g2 h => ?_))
  obtain ⟨h0, hIL, hC, hch, he0, he1⟩ := h
  exact ⟨h0, hIL, (hC wc), (IB.go wb hch (by decide) (by decide) he1), (IE.fr we hch (by decide) (by decide)), (IX.fr wx hch (by decide) (by decide)), (IT.fr wt hch (by decide)), (IP.fr wp hch (by decide) (by decide)), (IC.wk (IC.fr wi hch (by decide) (by decide)) (by omega)), (IW.fr iw hch (by decide) (by decide))⟩
theorem V_town {T : Nat × (Nat → Int32)} {d : Nat} {X : mz_X} {g : mz_S} {W : Int} (hI : Inv W g) (hW : 0 ≤ W ∧ W ≤ 1000000000) : zC T (d + 220) 161 [mx_R 0] g (fun r g1 => zC T (d + 220) 213 [mx_R 99] g1 (fun b g2 => r = b ∧ Inv (W + 1728) g2) X) X := by
  obtain ⟨wl, wc, wb, we, wx, wt, wp, wi, iw⟩ := hI
  refine zM (C_town (d := d + 216) wl) (fun _ g1 z => zM z (fun _ g2 h => ?_))
  obtain ⟨h0, hIL, hC, hch, he0, he1⟩ := h
  exact ⟨h0, hIL, (hC wc), (IB.go wb hch (by decide) (by decide) (Int.le_of_eq (he0 0 (by decide)).symm)), (IE.fr we hch (by decide) (by decide)), (IX.fr wx hch (by decide) (by decide)), (IT.fr wt hch (by decide)), (IP.fr wp hch (by decide) (by decide)), (IC.wk (IC.fr wi hch (by decide) (by decide)) (by omega)), (IW.fr iw hch (by decide) (by decide))⟩
theorem V_road {T : Nat × (Nat → Int32)} {d : Nat} {X : mz_X} {g : mz_S} {W : Int} {a b v : Int} (hI : Inv W g) (hW : 0 ≤ W ∧ W ≤ 1000000000) (ha : R32 a) (hb : R32 b) (hv : R32 v) : zC T (d + 220) 352 [mx_R 0, mx_I a, mx_I b, mx_I v, mx_R 179] g (fun kk g1 => zC T (d + 220) 215 [mx_R 99, mx_I a, mx_I b, mx_I v] g1 (fun r g2 => AnsI kk r g2 ∧ Inv (W + 1728) g2) X) X := by
  obtain ⟨wl, wc, wb, we, wx, wt, wp, wi, iw⟩ := hI
  refine zM (C_road (d := d + 214) wl ha hb hv) (fun _ g1 z => zM z (fun _ g2 h => ?_))
  obtain ⟨h0, hIL, hC, hch⟩ := h
  exact ⟨h0, hIL, (hC wc), (IB.fr wb hch (by decide) (by decide)), (IE.fr we hch (by decide) (by decide)), (IX.fr wx hch (by decide) (by decide)), (IT.fr wt hch (by decide)), (IP.fr wp hch (by decide) (by decide)), (IC.wk (IC.fr wi hch (by decide) (by decide)) (by omega)), (IW.fr iw hch (by decide) (by decide))⟩
theorem V_lag {T : Nat × (Nat → Int32)} {d : Nat} {X : mz_X} {g : mz_S} {W : Int} {a b : Int} (hI : Inv W g) (hW : 0 ≤ W ∧ W ≤ 1000000000) (ha : R32 a) (hb : R32 b) : zC T (d + 220) 353 [mx_R 0, mx_I a, mx_I b, mx_R 179] g (fun kk g1 => zC T (d + 220) 217 [mx_R 99, mx_I a, mx_I b] g1 (fun r g2 => AnsI kk r g2 ∧ Inv (W + 1728) g2) X) X := by
  obtain ⟨wl, wc, wb, we, wx, wt, wp, wi, iw⟩ := hI
  refine zM (C_lag (d := d + 216) wl ha hb) (fun _ g1 z => zM z (fun _ g2 h => ?_))
  obtain ⟨h0, hq⟩ := h
  exact ⟨h0, (IL.fr wl hq.1 (by decide) (by decide)), (hq.2 wc), (IB.fr wb hq.1 (by decide) (by decide)), (IE.fr we hq.1 (by decide) (by decide)), (IX.fr wx hq.1 (by decide) (by decide)), (IT.fr wt hq.1 (by decide)), (IP.fr wp hq.1 (by decide) (by decide)), (IC.wk (IC.fr wi hq.1 (by decide) (by decide)) (by omega)), (IW.fr iw hq.1 (by decide) (by decide))⟩
theorem V_rate {T : Nat × (Nat → Int32)} {d : Nat} {X : mz_X} {g : mz_S} {W : Int} {t co v : Int} (hI : Inv W g) (hW : 0 ≤ W ∧ W ≤ 1000000000) (ht : R32 t) (hc : R32 co) (hv : R32 v) : zC T (d + 220) 354 [mx_R 0, mx_I t, mx_I co, mx_I v, mx_R 179] g (fun kk g1 => zC T (d + 220) 221 [mx_R 99, mx_I t, mx_I co, mx_I v] g1 (fun r g2 => AnsI kk r g2 ∧ Inv (W + 1728) g2) X) X := by
  obtain ⟨wl, wc, wb, we, wx, wt, wp, wi, iw⟩ := hI
  refine zM (C_rate (d := d + 216) wl ht hc hv) (fun _ g1 z => zM z (fun _ g2 h => ?_))
  obtain ⟨h0, hIL, hC, hch, he0⟩ := h
  exact ⟨h0, hIL, (hC wc), (IB.go wb hch (by decide) (by decide) (Int.le_of_eq (he0 0 (by decide)).symm)), (IE.fr we hch (by decide) (by decide)), (IX.fr wx hch (by decide) (by decide)), (IT.fr wt hch (by decide)), (IP.fr wp hch (by decide) (by decide)), (IC.wk (IC.fr wi hch (by decide) (by decide)) (by omega)), (IW.fr iw hch (by decide) (by decide))⟩
theorem V_rateAt {T : Nat × (Nat → Int32)} {d : Nat} {X : mz_X} {g : mz_S} {W : Int} {t co dy : Int} (hI : Inv W g) (hW : 0 ≤ W ∧ W ≤ 1000000000) (ht : R32 t) (hc : R32 co) (hd : R32 dy) : zC T (d + 220) 355 [mx_R 0, mx_I t, mx_I co, mx_I dy, mx_R 179] g (fun kk g1 => zC T (d + 220) 223 [mx_R 99, mx_I t, mx_I co, mx_I dy] g1 (fun r g2 => AnsI kk r g2 ∧ Inv (W + 1728) g2) X) X := by
  obtain ⟨wl, wc, wb, we, wx, wt, wp, wi, iw⟩ := hI
  refine zM (C_rateAt (d := d + 216) wl ht hc hd) (fun _ g1 z => zM z (fun _ g2 h => ?_))
  obtain ⟨h0, hq⟩ := h
  exact ⟨h0, (IL.fr wl hq.1 (by decide) (by decide)), (hq.2 wc), (IB.fr wb hq.1 (by decide) (by decide)), (IE.fr we hq.1 (by decide) (by decide)), (IX.fr wx hq.1 (by decide) (by decide)), (IT.fr wt hq.1 (by decide)), (IP.fr wp hq.1 (by decide) (by decide)), (IC.wk (IC.fr wi hq.1 (by decide) (by decide)) (by omega)), (IW.fr iw hq.1 (by decide) (by decide))⟩
theorem V_broker {T : Nat × (Nat → Int32)} {d : Nat} {X : mz_X} {g : mz_S} {W : Int} {t kn : Int} (hI : Inv W g) (hW : 0 ≤ W ∧ W ≤ 1000000000) (ht : R32 t) (hk : R32 kn) : zC T (d + 220) 356 [mx_R 0, mx_I t, mx_I kn, mx_R 179] g (fun kk g1 => zC T (d + 220) 225 [mx_R 99, mx_I t, mx_I kn] g1 (fun r g2 => AnsI kk r g2 ∧ Inv (W + 1728) g2) X) X := by
  obtain ⟨wl, wc, wb, we, wx, wt, wp, wi, iw⟩ := hI
  refine zM (C_broker (d := d + 216) wl wb ht hk) (fun _ g1 z => zM z (fun _ g2 h => ?_))
  obtain ⟨h0, hIB, hq, he0, he1⟩ := h
  exact ⟨h0, (IL.fr wl hq.1 (by decide) (by decide)), (hq.2 wc), hIB, (IE.fr we hq.1 (by decide) (by decide)), (IX.fr wx hq.1 (by decide) (by decide)), (IT.fr wt hq.1 (by decide)), (IP.fr wp hq.1 (by decide) (by decide)), (IC.wk (IC.fr wi hq.1 (by decide) (by decide)) (by omega)), (IW.brk iw hq.1 (by decide) (by decide) he0)⟩
theorem V_put {T : Nat × (Nat → Int32)} {d : Nat} {X : mz_X} {g : mz_S} {W : Int} {b co n : Int} (hI : Inv W g) (hW : 0 ≤ W ∧ W ≤ 1000000000) (hb : R32 b) (hc : R32 co) (hn : R32 n) : zC T (d + 220) 357 [mx_R 0, mx_I b, mx_I co, mx_I n, mx_R 179] g (fun kk g1 => zC T (d + 220) 229 [mx_R 99, mx_I b, mx_I co, mx_I n] g1 (fun r g2 => AnsI kk r g2 ∧ Inv (W + 1728) g2) X) X := by
  obtain ⟨wl, wc, wb, we, wx, wt, wp, wi, iw⟩ := hI
  refine zM (C_put (d := d + 215) wb hb hc hn) (fun _ g1 z => zM z (fun _ g2 h => ?_))
  obtain ⟨h0, hIB, hq⟩ := h
  exact ⟨h0, (IL.fr wl hq.1 (by decide) (by decide)), (hq.2 wc), hIB, (IE.fr we hq.1 (by decide) (by decide)), (IX.fr wx hq.1 (by decide) (by decide)), (IT.fr wt hq.1 (by decide)), (IP.fr wp hq.1 (by decide) (by decide)), (IC.wk (IC.fr wi hq.1 (by decide) (by decide)) (by omega)), (IW.fr iw hq.1 (by decide) (by decide))⟩
theorem V_drawer {T : Nat × (Nat → Int32)} {d : Nat} {X : mz_X} {g : mz_S} {W : Int} {b co : Int} (hI : Inv W g) (hW : 0 ≤ W ∧ W ≤ 1000000000) (hb : R32 b) (hc : R32 co) : zC T (d + 220) 358 [mx_R 0, mx_I b, mx_I co, mx_R 179] g (fun kk g1 => zC T (d + 220) 230 [mx_R 99, mx_I b, mx_I co] g1 (fun r g2 => AnsI kk r g2 ∧ Inv (W + 1728) g2) X) X := by
  obtain ⟨wl, wc, wb, we, wx, wt, wp, wi, iw⟩ := hI
  refine zM (C_drawer (d := d + 216) wb hb hc) (fun _ g1 z => zM z (fun _ g2 h => ?_))
  obtain ⟨h0, hq⟩ := h
  exact ⟨h0, (IL.fr wl hq.1 (by decide) (by decide)), (hq.2 wc), (IB.fr wb hq.1 (by decide) (by decide)), (IE.fr we hq.1 (by decide) (by decide)), (IX.fr wx hq.1 (by decide) (by decide)), (IT.fr wt hq.1 (by decide)), (IP.fr wp hq.1 (by decide) (by decide)), (IC.wk (IC.fr wi hq.1 (by decide) (by decide)) (by omega)), (IW.fr iw hq.1 (by decide) (by decide))⟩
theorem V_feed {T : Nat × (Nat → Int32)} {d : Nat} {X : mz_X} {g : mz_S} {W : Int} {a b c e f : Int} (hI : Inv W g) (hW : 0 ≤ W ∧ W ≤ 1000000000) : zC T (d + 220) 169 [mx_R 0, mx_I a, mx_I b, mx_I c, mx_I e, mx_I f] g (fun r g1 => zC T (d + 220) 240 [mx_R 99, mx_I a, mx_I b, mx_I c, mx_I e, mx_I f] g1 (fun b g2 => r = b ∧ Inv (W + 1728) g2) X) X := by
  obtain ⟨wl, wc, wb, we, wx, wt, wp, wi, iw⟩ := hI
  refine zM (C_feed (d := d + 216) wp) (fun _ g1 z => zM z (fun _ g2 h => ?_))
  obtain ⟨h0, hIP, hq, he0⟩ := h
  exact ⟨h0, (IL.fr wl hq.1 (by decide) (by decide)), (hq.2 wc), (IB.fr wb hq.1 (by decide) (by decide)), (IE.fr we hq.1 (by decide) (by decide)), (IX.fr wx hq.1 (by decide) (by decide)), (IT.fr wt hq.1 (by decide)), hIP, (IC.wk (IC.fr wi hq.1 (by decide) (by decide)) (by omega)), (IW.fr iw hq.1 (by decide) (by decide))⟩
theorem V_text {T : Nat × (Nat → Int32)} {d : Nat} {X : mz_X} {g : mz_S} {W : Int} {n towns day : Int} (hI : Inv W g) (hW : 0 ≤ W ∧ W ≤ 1000000000) (hn : R32 n) (ht : R32 towns) (hd : R32 day) : zC T (d + 220) 359 [mx_R 0, mx_I n, mx_I towns, mx_I day, mx_R 179] g (fun kk g1 => zC T (d + 220) 264 [mx_R 99, mx_I n, mx_I towns, mx_I day] g1 (fun r g2 => AnsI kk r g2 ∧ Inv (W + 1728) g2) X) X := by
  obtain ⟨wl, wc, wb, we, wx, wt, wp, wi, iw⟩ := hI
  refine zM (C_text (d := d + 0) wi wp hn ht hd) (fun _ g1 z => zM z (fun _ g2 h => ?_))
  obtain ⟨h0, hIC, hIP, hq⟩ := h
  exact ⟨h0, (IL.fr wl hq.1 (by decide) (by decide)), (hq.2 wc), (IB.fr wb hq.1 (by decide) (by decide)), (IE.fr we hq.1 (by decide) (by decide)), (IX.fr wx hq.1 (by decide) (by decide)), (IT.fr wt hq.1 (by decide)), hIP, (IC.wk hIC (by omega)), (IW.fr iw hq.1 (by decide) (by decide))⟩
theorem V_fault {T : Nat × (Nat → Int32)} {d : Nat} {X : mz_X} {g : mz_S} {W : Int} {x : Int} (hI : Inv W g) (hW : 0 ≤ W ∧ W ≤ 1000000000) (hx : R32 x) : zC T (d + 220) 171 [mx_R 0, mx_I x] g (fun r g1 => zC T (d + 220) 265 [mx_R 99, mx_I x] g1 (fun b g2 => r = b ∧ Inv (W + 1728) g2) X) X := by
  obtain ⟨wl, wc, wb, we, wx, wt, wp, wi, iw⟩ := hI
  refine zM (C_fault (d := d + 216) wi.f34 wi.f35 hx) (fun _ g1 z => zM z (fun _ g2 h => ?_))
  obtain ⟨h0, hq⟩ := h
  exact ⟨h0, (IL.fr wl hq.1 (by decide) (by decide)), (hq.2 wc), (IB.fr wb hq.1 (by decide) (by decide)), (IE.fr we hq.1 (by decide) (by decide)), (IX.fr wx hq.1 (by decide) (by decide)), (IT.fr wt hq.1 (by decide)), (IP.fr wp hq.1 (by decide) (by decide)), (IC.wk (IC.fr wi hq.1 (by decide) (by decide)) (by omega)), (IW.fr iw hq.1 (by decide) (by decide))⟩
