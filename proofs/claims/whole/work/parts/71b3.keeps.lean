/-! each call keeps the invariant, 3 -/
theorem V_ruin {T : Nat × (Nat → Int32)} {d : Nat} {X : mz_X} {g : mz_S} {W : Int} {x x2 : Int} (hI : Inv W g) (hW : 0 ≤ W ∧ W ≤ 1000000000) (hx : R32 x) (hx2 : R32 x2) : zC T (d + 220) 384 [mx_R 0, mx_I x, mx_I x2, mx_R 179] g (fun kk g1 => zC T (d + 220) 319 [mx_R 99, mx_I x, mx_I x2] g1 (fun r g2 => AnsI kk r g2 ∧ Inv (W + 1728) g2) X) X := by
  obtain ⟨wl, wc, wb, we, wx, wt, wp, wi, iw⟩ := hI
  refine zM (C_ruin (d := d + 209) wl wc wb we wi (by omega) hx hx2) (fun _ g1 z => zM z (fun _ g2 h => ?_))
  obtain ⟨h0, hIC, hq⟩ := h
  exact ⟨h0, (IL.fr wl hq.1 (by decide) (by decide)), (hq.2 wc), (IB.fr wb hq.1 (by decide) (by decide)), (IE.fr we hq.1 (by decide) (by decide)), (IX.fr wx hq.1 (by decide) (by decide)), (IT.fr wt hq.1 (by decide)), (IP.fr wp hq.1 (by decide) (by decide)), (IC.wk hIC (by omega)), (IW.fr iw hq.1 (by decide) (by decide))⟩
theorem V_wealth {T : Nat × (Nat → Int32)} {d : Nat} {X : mz_X} {g : mz_S} {W : Int} {x : Int} (hI : Inv W g) (hW : 0 ≤ W ∧ W ≤ 1000000000) (hx : R32 x) : zC T (d + 220) 385 [mx_R 0, mx_I x, mx_R 179] g (fun kk g1 => zC T (d + 220) 320 [mx_R 99, mx_I x] g1 (fun r g2 => AnsL kk r g2 ∧ Inv (W + 1728) g2) X) X := by
  obtain ⟨wl, wc, wb, we, wx, wt, wp, wi, iw⟩ := hI
  refine zM (C_wealth (d := d + 209) wl wc wb we wi (by omega) hx) (fun _ g1 z => zM z (fun _ g2 h => ?_))
  obtain ⟨h0, hIC, hq⟩ := h
  exact ⟨h0, (IL.fr wl hq.1 (by decide) (by decide)), (hq.2 wc), (IB.fr wb hq.1 (by decide) (by decide)), (IE.fr we hq.1 (by decide) (by decide)), (IX.fr wx hq.1 (by decide) (by decide)), (IT.fr wt hq.1 (by decide)), (IP.fr wp hq.1 (by decide) (by decide)), (IC.wk hIC (by omega)), (IW.fr iw hq.1 (by decide) (by decide))⟩
theorem V_run {T : Nat × (Nat → Int32)} {d : Nat} {X : mz_X} {g : mz_S} {W : Int} {b days x : Int} (hI : Inv W g) (hW : 0 ≤ W ∧ W ≤ 1000000000) (hb : R32 b) (hd : R32 days) (hx : R32 x) : zC T (d + 220) 386 [mx_R 0, mx_I b, mx_I days, mx_I x, mx_R 179] g (fun kk g1 => zC T (d + 220) 321 [mx_R 99, mx_I b, mx_I days, mx_I x] g1 (fun r g2 => AnsI kk r g2 ∧ Inv (W + 1728) g2) X) X := by
  obtain ⟨wl, wc, wb, we, wx, wt, wp, wi, iw⟩ := hI
  refine zM (C_run (d := d + 212) wl wc wb we hb hd hx) (fun _ g1 z => zM z (fun _ g2 h => ?_))
  obtain ⟨h0, hq⟩ := h
  exact ⟨h0, (IL.fr wl hq.1 (by decide) (by decide)), (hq.2 wc), (IB.fr wb hq.1 (by decide) (by decide)), (IE.fr we hq.1 (by decide) (by decide)), (IX.fr wx hq.1 (by decide) (by decide)), (IT.fr wt hq.1 (by decide)), (IP.fr wp hq.1 (by decide) (by decide)), (IC.wk (IC.fr wi hq.1 (by decide) (by decide)) (by omega)), (IW.fr iw hq.1 (by decide) (by decide))⟩
theorem V_tray {T : Nat × (Nat → Int32)} {d : Nat} {X : mz_X} {g : mz_S} {W : Int} {t s n : Int} (hI : Inv W g) (hW : 0 ≤ W ∧ W ≤ 1000000000) (ht : R32 t) (hs : R32 s) (hn : R32 n) : zC T (d + 220) 387 [mx_R 0, mx_I t, mx_I s, mx_I n] g (fun kk g1 => zC T (d + 220) 323 [mx_R 99, mx_I t, mx_I s, mx_I n] g1 (fun _ g2 => AnsV kk g2 ∧ Inv (W + 1728) g2) X) X := by
  obtain ⟨wl, wc, wb, we, wx, wt, wp, wi, iw⟩ := hI
  refine zM (C_tray (d := d + 216) wt ht hs hn) (fun _ g1 z => zM z (fun _ g2 h => ?_))
  obtain ⟨h0, hIT, hq⟩ := h
  exact ⟨h0, (IL.fr wl hq.1 (by decide) (by decide)), (hq.2 wc), (IB.fr wb hq.1 (by decide) (by decide)), (IE.fr we hq.1 (by decide) (by decide)), (IX.fr wx hq.1 (by decide) (by decide)), hIT, (IP.fr wp hq.1 (by decide) (by decide)), (IC.wk (IC.fr wi hq.1 (by decide) (by decide)) (by omega)), (IW.fr iw hq.1 (by decide) (by decide))⟩
theorem V_write {T : Nat × (Nat → Int32)} {d : Nat} {X : mz_X} {g : mz_S} {W : Int} {t p v : Int} (hI : Inv W g) (hW : 0 ≤ W ∧ W ≤ 1000000000) (ht : R32 t) (hp : R32 p) (hv : R64 v) : zC T (d + 220) 388 [mx_R 0, mx_I t, mx_I p, mx_J v, mx_R 179] g (fun kk g1 => zC T (d + 220) 325 [mx_R 99, mx_I t, mx_I p, mx_J v] g1 (fun r g2 => AnsL kk r g2 ∧ Inv (W + 1728) g2) X) X := by
  obtain ⟨wl, wc, wb, we, wx, wt, wp, wi, iw⟩ := hI
  refine zM (C_write (d := d + 216) wt ht hp hv) (fun _ g1 z => zM z (fun _ g2 h => ?_))
  obtain ⟨h0, hIT, hq⟩ := h
  exact ⟨h0, (IL.fr wl hq.1 (by decide) (by decide)), (hq.2 wc), (IB.fr wb hq.1 (by decide) (by decide)), (IE.fr we hq.1 (by decide) (by decide)), (IX.fr wx hq.1 (by decide) (by decide)), hIT, (IP.fr wp hq.1 (by decide) (by decide)), (IC.wk (IC.fr wi hq.1 (by decide) (by decide)) (by omega)), (IW.fr iw hq.1 (by decide) (by decide))⟩
theorem V_read {T : Nat × (Nat → Int32)} {d : Nat} {X : mz_X} {g : mz_S} {W : Int} {t p : Int} (hI : Inv W g) (hW : 0 ≤ W ∧ W ≤ 1000000000) (ht : R32 t) (hp : R32 p) : zC T (d + 220) 389 [mx_R 0, mx_I t, mx_I p, mx_R 179] g (fun kk g1 => zC T (d + 220) 326 [mx_R 99, mx_I t, mx_I p] g1 (fun r g2 => AnsL kk r g2 ∧ Inv (W + 1728) g2) X) X := by
  obtain ⟨wl, wc, wb, we, wx, wt, wp, wi, iw⟩ := hI
  refine zM (C_read (d := d + 216) wt ht hp) (fun _ g1 z => zM z (fun _ g2 h => ?_))
  obtain ⟨h0, hq⟩ := h
  exact ⟨h0, (IL.fr wl hq.1 (by decide) (by decide)), (hq.2 wc), (IB.fr wb hq.1 (by decide) (by decide)), (IE.fr we hq.1 (by decide) (by decide)), (IX.fr wx hq.1 (by decide) (by decide)), (IT.fr wt hq.1 (by decide)), (IP.fr wp hq.1 (by decide) (by decide)), (IC.wk (IC.fr wi hq.1 (by decide) (by decide)) (by omega)), (IW.fr iw hq.1 (by decide) (by decide))⟩
theorem V_pour {T : Nat × (Nat → Int32)} {d : Nat} {X : mz_X} {g : mz_S} {W : Int} {f p t a n : Int} (hI : Inv W g) (hW : 0 ≤ W ∧ W ≤ 1000000000) (hf : R32 f) (hp : R32 p) (ht : R32 t) (ha : R32 a) (hn : R32 n) : zC T (d + 220) 390 [mx_R 0, mx_I f, mx_I p, mx_I t, mx_I a, mx_I n] g (fun kk g1 => zC T (d + 220) 327 [mx_R 99, mx_I f, mx_I p, mx_I t, mx_I a, mx_I n] g1 (fun _ g2 => AnsV kk g2 ∧ Inv (W + 1728) g2) X) X := by
  obtain ⟨wl, wc, wb, we, wx, wt, wp, wi, iw⟩ := hI
  refine zM (C_pour (d := d + 216) wt hf hp ht ha hn) (fun _ g1 z => zM z (fun _ g2 h => ?_))
  obtain ⟨h0, hIT, hq⟩ := h
  exact ⟨h0, (IL.fr wl hq.1 (by decide) (by decide)), (hq.2 wc), (IB.fr wb hq.1 (by decide) (by decide)), (IE.fr we hq.1 (by decide) (by decide)), (IX.fr wx hq.1 (by decide) (by decide)), hIT, (IP.fr wp hq.1 (by decide) (by decide)), (IC.wk (IC.fr wi hq.1 (by decide) (by decide)) (by omega)), (IW.fr iw hq.1 (by decide) (by decide))⟩
theorem V_book {T : Nat × (Nat → Int32)} {d : Nat} {X : mz_X} {g : mz_S} {W : Int} {b t : Int} (hI : Inv W g) (hW : 0 ≤ W ∧ W ≤ 1000000000) (hb : R32 b) (ht : R32 t) : zC T (d + 220) 391 [mx_R 0, mx_I b, mx_I t, mx_R 179] g (fun kk g1 => zC T (d + 220) 328 [mx_R 99, mx_I b, mx_I t] g1 (fun r g2 => AnsI kk r g2 ∧ Inv (W + 1728) g2) X) X := by
  obtain ⟨wl, wc, wb, we, wx, wt, wp, wi, iw⟩ := hI
  refine zM (C_book (d := d + 215) wb we wt hb ht) (fun _ g1 z => zM z (fun _ g2 h => ?_))
  obtain ⟨h0, hq⟩ := h
  exact ⟨h0, (IL.fr wl hq.1 (by decide) (by decide)), (hq.2 wc), (IB.fr wb hq.1 (by decide) (by decide)), (IE.fr we hq.1 (by decide) (by decide)), (IX.fr wx hq.1 (by decide) (by decide)), (IT.fr wt hq.1 (by decide)), (IP.fr wp hq.1 (by decide) (by decide)), (IC.wk (IC.fr wi hq.1 (by decide) (by decide)) (by omega)), (IW.fr iw hq.1 (by decide) (by decide))⟩
theorem V_count {T : Nat × (Nat → Int32)} {d : Nat} {X : mz_X} {g : mz_S} {W : Int} {x : Int} (hI : Inv W g) (hW : 0 ≤ W ∧ W ≤ 1000000000) (hx : R32 x) : zC T (d + 220) 206 [mx_R 0, mx_I x] g (fun r g1 => zC T (d + 220) 329 [mx_R 99, mx_I x] g1 (fun b g2 => r = b ∧ Inv (W + 1728) g2) X) X := by
  obtain ⟨wl, wc, wb, we, wx, wt, wp, wi, iw⟩ := hI
  refine zM (C_count (d := d + 216) wl wb we wx wp wi.f36 iw.2.1 hx) (fun _ g1 z => zM z (fun _ g2 h => ?_))
  obtain ⟨h0, hq⟩ := h
  exact ⟨h0, (IL.fr wl hq.1 (by decide) (by decide)), (hq.2 wc), (IB.fr wb hq.1 (by decide) (by decide)), (IE.fr we hq.1 (by decide) (by decide)), (IX.fr wx hq.1 (by decide) (by decide)), (IT.fr wt hq.1 (by decide)), (IP.fr wp hq.1 (by decide) (by decide)), (IC.wk (IC.fr wi hq.1 (by decide) (by decide)) (by omega)), (IW.fr iw hq.1 (by decide) (by decide))⟩
