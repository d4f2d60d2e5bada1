/-! before the first town: the other calls, 1 -/
theorem O_entry {T : Nat × (Nat → Int32)} {d : Nat} {X : mz_X} {g : mz_S} {W : Int} {e wh : Int} (hI : Inv0 W g) (hW : 0 ≤ W ∧ W ≤ 1000000000) (he : R32 e) (hw : R32 wh) : zC T (d + 220) 378 [mx_R 0, mx_I e, mx_I wh, mx_R 179] g (fun kk g1 => zC T (d + 220) 239 [mx_R 99, mx_I e, mx_I wh] g1 (fun r g2 => AnsI kk r g2 ∧ InvA (W + 1728) g2) X) X := by
  obtain ⟨wl, wc, wb, we, wx, wt, wp, wi, iw, hB⟩ := hI
  refine zM (C_entry (d := d + 216) we he hw) (fun _ g1 z => zM z (fun _ g2 h => ?_))
  obtain ⟨h0, hq⟩ := h
  exact ⟨h0, Or.inr ⟨(IL0.fr wl hq.1 (by decide) (by decide)), (hq.2 wc), (IB.fr wb hq.1 (by decide) (by decide)), (IE.fr we hq.1 (by decide) (by decide)), (IX.fr wx hq.1 (by decide) (by decide)), (IT.fr wt hq.1 (by decide)), (IP.fr wp hq.1 (by decide) (by decide)), (IC.wk (IC.fr wi hq.1 (by decide) (by decide)) (by omega)), (IW.fr iw hq.1 (by decide) (by decide)), (by rw [hq.1.1 9 (by decide) (by decide)]; exact hB)⟩⟩
theorem O_plan {T : Nat × (Nat → Int32)} {d : Nat} {X : mz_X} {g : mz_S} {W : Int} {co x n wks x6 : Int} (hI : Inv0 W g) (hW : 0 ≤ W ∧ W ≤ 1000000000) (hc : R32 co) (hn : R32 n) (hw : R32 wks) (h6 : R32 x6) : zC T (d + 220) 381 [mx_R 0, mx_I co, mx_J x, mx_I n, mx_I wks, mx_I x6, mx_R 179] g (fun kk g1 => zC T (d + 220) 308 [mx_R 99, mx_I co, mx_J x, mx_I n, mx_I wks, mx_I x6] g1 (fun r g2 => AnsI kk r g2 ∧ InvA (W + 1728) g2) X) X := by
  obtain ⟨wl, wc, wb, we, wx, wt, wp, wi, iw, hB⟩ := hI
  refine zM (C0_plan (d := d + 212) wl wb we wx hc hn hw h6) (fun _ g1 z => zM z (fun _ g2 h => ?_))
  obtain ⟨h0, hIX, hq⟩ := h
  exact ⟨h0, Or.inr ⟨(IL0.fr wl hq.1 (by decide) (by decide)), (hq.2 wc), (IB.fr wb hq.1 (by decide) (by decide)), (IE.fr we hq.1 (by decide) (by decide)), hIX, (IT.fr wt hq.1 (by decide)), (IP.fr wp hq.1 (by decide) (by decide)), (IC.wk (IC.fr wi hq.1 (by decide) (by decide)) (by omega)), (IW.fr iw hq.1 (by decide) (by decide)), (by rw [hq.1.1 9 (by decide) (by decide)]; exact hB)⟩⟩
theorem O_fell {T : Nat × (Nat → Int32)} {d : Nat} {X : mz_X} {g : mz_S} {W : Int} {b : Int} (hI : Inv0 W g) (hW : 0 ≤ W ∧ W ≤ 1000000000) (hb : R32 b) : zC T (d + 220) 383 [mx_R 0, mx_I b, mx_R 179] g (fun kk g1 => zC T (d + 220) 317 [mx_R 99, mx_I b] g1 (fun r g2 => AnsI kk r g2 ∧ InvA (W + 1728) g2) X) X := by
  obtain ⟨wl, wc, wb, we, wx, wt, wp, wi, iw, hB⟩ := hI
  refine zM (C_fell (d := d + 216) wb hb) (fun _ g1 z => zM z (fun _ g2 h => ?_))
  obtain ⟨h0, hq⟩ := h
  exact ⟨h0, Or.inr ⟨(IL0.fr wl hq.1 (by decide) (by decide)), (hq.2 wc), (IB.fr wb hq.1 (by decide) (by decide)), (IE.fr we hq.1 (by decide) (by decide)), (IX.fr wx hq.1 (by decide) (by decide)), (IT.fr wt hq.1 (by decide)), (IP.fr wp hq.1 (by decide) (by decide)), (IC.wk (IC.fr wi hq.1 (by decide) (by decide)) (by omega)), (IW.fr iw hq.1 (by decide) (by decide)), (by rw [hq.1.1 9 (by decide) (by decide)]; exact hB)⟩⟩
theorem O_tray {T : Nat × (Nat → Int32)} {d : Nat} {X : mz_X} {g : mz_S} {W : Int} {t s n : Int} (hI : Inv0 W g) (hW : 0 ≤ W ∧ W ≤ 1000000000) (ht : R32 t) (hs : R32 s) (hn : R32 n) : zC T (d + 220) 387 [mx_R 0, mx_I t, mx_I s, mx_I n] g (fun kk g1 => zC T (d + 220) 323 [mx_R 99, mx_I t, mx_I s, mx_I n] g1 (fun _ g2 => AnsV kk g2 ∧ InvA (W + 1728) g2) X) X := by
  obtain ⟨wl, wc, wb, we, wx, wt, wp, wi, iw, hB⟩ := hI
  refine zM (C_tray (d := d + 216) wt ht hs hn) (fun _ g1 z => zM z (fun _ g2 h => ?_))
  obtain ⟨h0, hIT, hq⟩ := h
  exact ⟨h0, Or.inr ⟨(IL0.fr wl hq.1 (by decide) (by decide)), (hq.2 wc), (IB.fr wb hq.1 (by decide) (by decide)), (IE.fr we hq.1 (by decide) (by decide)), (IX.fr wx hq.1 (by decide) (by decide)), hIT, (IP.fr wp hq.1 (by decide) (by decide)), (IC.wk (IC.fr wi hq.1 (by decide) (by decide)) (by omega)), (IW.fr iw hq.1 (by decide) (by decide)), (by rw [hq.1.1 9 (by decide) (by decide)]; exact hB)⟩⟩
theorem O_write {T : Nat × (Nat → Int32)} {d : Nat} {X : mz_X} {g : mz_S} {W : Int} {t p v : Int} (hI : Inv0 W g) (hW : 0 ≤ W ∧ W ≤ 1000000000) (ht : R32 t) (hp : R32 p) (hv : R64 v) : zC T (d + 220) 388 [mx_R 0, mx_I t, mx_I p, mx_J v, mx_R 179] g (fun kk g1 => zC T (d + 220) 325 [mx_R 99, mx_I t, mx_I p, mx_J v] g1 (fun r g2 => AnsL kk r g2 ∧ InvA (W + 1728) g2) X) X := by
  obtain ⟨wl, wc, wb, we, wx, wt, wp, wi, iw, hB⟩ := hI
  refine zM (C_write (d := d + 216) wt ht hp hv) (fun _ g1 z => zM z (fun _ g2 h => ?_))
  obtain ⟨h0, hIT, hq⟩ := h
  exact ⟨h0, Or.inr ⟨(IL0.fr wl hq.1 (by decide) (by decide)), (hq.2 wc), (IB.fr wb hq.1 (by decide) (by decide)), (IE.fr we hq.1 (by decide) (by decide)), (IX.fr wx hq.1 (by decide) (by decide)), hIT, (IP.fr wp hq.1 (by decide) (by decide)), (IC.wk (IC.fr wi hq.1 (by decide) (by decide)) (by omega)), (IW.fr iw hq.1 (by decide) (by decide)), (by rw [hq.1.1 9 (by decide) (by decide)]; exact hB)⟩⟩
theorem O_read {T : Nat × (Nat → Int32)} {d : Nat} {X : mz_X} {g : mz_S} {W : Int} {t p : Int} (hI : Inv0 W g) (hW : 0 ≤ W ∧ W ≤ 1000000000) (ht : R32 t) (hp : R32 p) : zC T (d + 220) 389 [mx_R 0, mx_I t, mx_I p, mx_R 179] g (fun kk g1 => zC T (d + 220) 326 [mx_R 99, mx_I t, mx_I p] g1 (fun r g2 => AnsL kk r g2 ∧ InvA (W + 1728) g2) X) X := by
  obtain ⟨wl, wc, wb, we, wx, wt, wp, wi, iw, hB⟩ := hI
  refine zM (C_read (d := d + 216) wt ht hp) (fun _ g1 z => zM z (fun _ g2 h => ?_))
  obtain ⟨h0, hq⟩ := h
  exact ⟨h0, Or.inr ⟨(IL0.fr wl hq.1 (by decide) (by decide)), (hq.2 wc), (IB.fr wb hq.1 (by decide) (by decide)), (IE.fr we hq.1 (by decide) (by decide)), (IX.fr wx hq.1 (by decide) (by decide)), (IT.fr wt hq.1 (by decide)), (IP.fr wp hq.1 (by decide) (by decide)), (IC.wk (IC.fr wi hq.1 (by decide) (by decide)) (by omega)), (IW.fr iw hq.1 (by decide) (by decide)), (by rw [hq.1.1 9 (by decide) (by decide)]; exact hB)⟩⟩
theorem O_pour {T : Nat × (Nat → Int32)} {d : Nat} {X : mz_X} {g : mz_S} {W : Int} {f p t a n : Int} (hI : Inv0 W g) (hW : 0 ≤ W ∧ W ≤ 1000000000) (hf : R32 f) (hp : R32 p) (ht : R32 t) (ha : R32 a) (hn : R32 n) : zC T (d + 220) 390 [mx_R 0, mx_I f, mx_I p, mx_I t, mx_I a, mx_I n] g (fun kk g1 => zC T (d + 220) 327 [mx_R 99, mx_I f, mx_I p, mx_I t, mx_I a, mx_I n] g1 (fun _ g2 => AnsV kk g2 ∧ InvA (W + 1728) g2) X) X := by
  obtain ⟨wl, wc, wb, we, wx, wt, wp, wi, iw, hB⟩ := hI
  refine zM (C_pour (d := d + 216) wt hf hp ht ha hn) (fun _ g1 z => zM z (fun _ g2 h => ?_))
  obtain ⟨h0, hIT, hq⟩ := h
  exact ⟨h0, Or.inr ⟨(IL0.fr wl hq.1 (by decide) (by decide)), (hq.2 wc), (IB.fr wb hq.1 (by decide) (by decide)), (IE.fr we hq.1 (by decide) (by decide)), (IX.fr wx hq.1 (by decide) (by decide)), hIT, (IP.fr wp hq.1 (by decide) (by decide)), (IC.wk (IC.fr wi hq.1 (by decide) (by decide)) (by omega)), (IW.fr iw hq.1 (by decide) (by decide)), (by rw [hq.1.1 9 (by decide) (by decide)]; exact hB)⟩⟩
theorem O_book {T : Nat × (Nat → Int32)} {d : Nat} {X : mz_X} {g : mz_S} {W : Int} {b t : Int} (hI : Inv0 W g) (hW : 0 ≤ W ∧ W ≤ 1000000000) (hb : R32 b) (ht : R32 t) : zC T (d + 220) 391 [mx_R 0, mx_I b, mx_I t, mx_R 179] g (fun kk g1 => zC T (d + 220) 328 [mx_R 99, mx_I b, mx_I t] g1 (fun r g2 => AnsI kk r g2 ∧ InvA (W + 1728) g2) X) X := by
  obtain ⟨wl, wc, wb, we, wx, wt, wp, wi, iw, hB⟩ := hI
  refine zM (C_book (d := d + 215) wb we wt hb ht) (fun _ g1 z => zM z (fun _ g2 h => ?_))
  obtain ⟨h0, hq⟩ := h
  exact ⟨h0, Or.inr ⟨(IL0.fr wl hq.1 (by decide) (by decide)), (hq.2 wc), (IB.fr wb hq.1 (by decide) (by decide)), (IE.fr we hq.1 (by decide) (by decide)), (IX.fr wx hq.1 (by decide) (by decide)), (IT.fr wt hq.1 (by decide)), (IP.fr wp hq.1 (by decide) (by decide)), (IC.wk (IC.fr wi hq.1 (by decide) (by decide)) (by omega)), (IW.fr iw hq.1 (by decide) (by decide)), (by rw [hq.1.1 9 (by decide) (by decide)]; exact hB)⟩⟩
theorem O_count {T : Nat × (Nat → Int32)} {d : Nat} {X : mz_X} {g : mz_S} {W : Int} {x : Int} (hI : Inv0 W g) (hW : 0 ≤ W ∧ W ≤ 1000000000) (hx : R32 x) : zC T (d + 220) 206 [mx_R 0, mx_I x] g (fun r g1 => zC T (d + 220) 329 [mx_R 99, mx_I x] g1 (fun b g2 => r = b ∧ InvA (W + 1728) g2) X) X := by
  obtain ⟨wl, wc, wb, we, wx, wt, wp, wi, iw, hB⟩ := hI
  refine zM (C0_count (d := d + 216) wl wb we wx wp wi.f36 iw.2.1 hx) (fun _ g1 z => zM z (fun _ g2 h => ?_))
  obtain ⟨h0, hq⟩ := h
  exact ⟨h0, Or.inr ⟨(IL0.fr wl hq.1 (by decide) (by decide)), (hq.2 wc), (IB.fr wb hq.1 (by decide) (by decide)), (IE.fr we hq.1 (by decide) (by decide)), (IX.fr wx hq.1 (by decide) (by decide)), (IT.fr wt hq.1 (by decide)), (IP.fr wp hq.1 (by decide) (by decide)), (IC.wk (IC.fr wi hq.1 (by decide) (by decide)) (by omega)), (IW.fr iw hq.1 (by decide) (by decide)), (by rw [hq.1.1 9 (by decide) (by decide)]; exact hB)⟩⟩
