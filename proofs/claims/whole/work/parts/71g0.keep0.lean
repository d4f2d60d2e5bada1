/-! before the first town: the other calls, 0 -/
theorem O_go {T : Nat × (Nat → Int32)} {d : Nat} {X : mz_X} {g : mz_S} {W : Int} {x : Int} (hI : Inv0 W g) (hW : 0 ≤ W ∧ W ≤ 1000000000) (hx : R32 x) : zC T (d + 220) 351 [mx_R 0, mx_I x, mx_R 179] g (fun kk g1 => zC T (d + 220) 211 [mx_R 99, mx_I x] g1 (fun b g2 => AnsI kk b g2 ∧ InvA (W + 1728) g2) X) X := by
  obtain ⟨wl, wc, wb, we, wx, wt, wp, wi, iw, hB⟩ := hI
  refine zM (C0_go (d := d + 216) wl hx) (fun _ g1 z => zM z (fun _ g2 h => ?_))
  obtain ⟨h0, hIL, hC, hch, he0, he1⟩ := h
  exact ⟨h0, Or.inr ⟨hIL, (hC wc), (IB.go wb hch (by decide) (by decide) he1), (IE.fr we hch (by decide) (by decide)), (IX.fr wx hch (by decide) (by decide)), (IT.fr wt hch (by decide)), (IP.fr wp hch (by decide) (by decide)), (IC.wk (IC.fr wi hch (by decide) (by decide)) (by omega)), (IW.fr iw hch (by decide) (by decide)), (by rw [hch.1 9 (by decide) (by decide)]; exact hB)⟩⟩
theorem O_put {T : Nat × (Nat → Int32)} {d : Nat} {X : mz_X} {g : mz_S} {W : Int} {b co n : Int} (hI : Inv0 W g) (hW : 0 ≤ W ∧ W ≤ 1000000000) (hb : R32 b) (hc : R32 co) (hn : R32 n) : zC T (d + 220) 357 [mx_R 0, mx_I b, mx_I co, mx_I n, mx_R 179] g (fun kk g1 => zC T (d + 220) 229 [mx_R 99, mx_I b, mx_I co, mx_I n] g1 (fun r g2 => AnsI kk r g2 ∧ InvA (W + 1728) g2) X) X := by
  obtain ⟨wl, wc, wb, we, wx, wt, wp, wi, iw, hB⟩ := hI
  refine zM (C_put (d := d + 215) wb hb hc hn) (fun _ g1 z => zM z (fun _ g2 h => ?_))
  obtain ⟨h0, hIB, hq⟩ := h
  exact ⟨h0, Or.inr ⟨(IL0.fr wl hq.1 (by decide) (by decide)), (hq.2 wc), hIB, (IE.fr we hq.1 (by decide) (by decide)), (IX.fr wx hq.1 (by decide) (by decide)), (IT.fr wt hq.1 (by decide)), (IP.fr wp hq.1 (by decide) (by decide)), (IC.wk (IC.fr wi hq.1 (by decide) (by decide)) (by omega)), (IW.fr iw hq.1 (by decide) (by decide)), (by rw [hq.1.1 9 (by decide) (by decide)]; exact hB)⟩⟩
theorem O_drawer {T : Nat × (Nat → Int32)} {d : Nat} {X : mz_X} {g : mz_S} {W : Int} {b co : Int} (hI : Inv0 W g) (hW : 0 ≤ W ∧ W ≤ 1000000000) (hb : R32 b) (hc : R32 co) : zC T (d + 220) 358 [mx_R 0, mx_I b, mx_I co, mx_R 179] g (fun kk g1 => zC T (d + 220) 230 [mx_R 99, mx_I b, mx_I co] g1 (fun r g2 => AnsI kk r g2 ∧ InvA (W + 1728) g2) X) X := by
  obtain ⟨wl, wc, wb, we, wx, wt, wp, wi, iw, hB⟩ := hI
  refine zM (C_drawer (d := d + 216) wb hb hc) (fun _ g1 z => zM z (fun _ g2 h => ?_))
  obtain ⟨h0, hq⟩ := h
  exact ⟨h0, Or.inr ⟨(IL0.fr wl hq.1 (by decide) (by decide)), (hq.2 wc), (IB.fr wb hq.1 (by decide) (by decide)), (IE.fr we hq.1 (by decide) (by decide)), (IX.fr wx hq.1 (by decide) (by decide)), (IT.fr wt hq.1 (by decide)), (IP.fr wp hq.1 (by decide) (by decide)), (IC.wk (IC.fr wi hq.1 (by decide) (by decide)) (by omega)), (IW.fr iw hq.1 (by decide) (by decide)), (by rw [hq.1.1 9 (by decide) (by decide)]; exact hB)⟩⟩
theorem O_feed {T : Nat × (Nat → Int32)} {d : Nat} {X : mz_X} {g : mz_S} {W : Int} {a b c e f : Int} (hI : Inv0 W g) (hW : 0 ≤ W ∧ W ≤ 1000000000)  : zC T (d + 220) 169 [mx_R 0, mx_I a, mx_I b, mx_I c, mx_I e, mx_I f] g (fun r g1 => zC T (d + 220) 240 [mx_R 99, mx_I a, mx_I b, mx_I c, mx_I e, mx_I f] g1 (fun b g2 => r = b ∧ InvA (W + 1728) g2) X) X := by
  obtain ⟨wl, wc, wb, we, wx, wt, wp, wi, iw, hB⟩ := hI
  refine zM (C_feed (d := d + 216) wp) (fun _ g1 z => zM z (fun _ g2 h => ?_))
  obtain ⟨h0, hIP, hq, he0⟩ := h
  exact ⟨h0, Or.inr ⟨(IL0.fr wl hq.1 (by decide) (by decide)), (hq.2 wc), (IB.fr wb hq.1 (by decide) (by decide)), (IE.fr we hq.1 (by decide) (by decide)), (IX.fr wx hq.1 (by decide) (by decide)), (IT.fr wt hq.1 (by decide)), hIP, (IC.wk (IC.fr wi hq.1 (by decide) (by decide)) (by omega)), (IW.fr iw hq.1 (by decide) (by decide)), (by rw [hq.1.1 9 (by decide) (by decide)]; exact hB)⟩⟩
theorem O_text {T : Nat × (Nat → Int32)} {d : Nat} {X : mz_X} {g : mz_S} {W : Int} {n towns day : Int} (hI : Inv0 W g) (hW : 0 ≤ W ∧ W ≤ 1000000000) (hn : R32 n) (ht : R32 towns) (hd : R32 day) : zC T (d + 220) 359 [mx_R 0, mx_I n, mx_I towns, mx_I day, mx_R 179] g (fun kk g1 => zC T (d + 220) 264 [mx_R 99, mx_I n, mx_I towns, mx_I day] g1 (fun r g2 => AnsI kk r g2 ∧ InvA (W + 1728) g2) X) X := by
  obtain ⟨wl, wc, wb, we, wx, wt, wp, wi, iw, hB⟩ := hI
  refine zM (C_text (d := d + 0) wi wp hn ht hd) (fun _ g1 z => zM z (fun _ g2 h => ?_))
  obtain ⟨h0, hIC, hIP, hq⟩ := h
  exact ⟨h0, Or.inr ⟨(IL0.fr wl hq.1 (by decide) (by decide)), (hq.2 wc), (IB.fr wb hq.1 (by decide) (by decide)), (IE.fr we hq.1 (by decide) (by decide)), (IX.fr wx hq.1 (by decide) (by decide)), (IT.fr wt hq.1 (by decide)), hIP, (IC.wk hIC (by omega)), (IW.fr iw hq.1 (by decide) (by decide)), (by rw [hq.1.1 9 (by decide) (by decide)]; exact hB)⟩⟩
theorem O_fault {T : Nat × (Nat → Int32)} {d : Nat} {X : mz_X} {g : mz_S} {W : Int} {x : Int} (hI : Inv0 W g) (hW : 0 ≤ W ∧ W ≤ 1000000000) (hx : R32 x) : zC T (d + 220) 171 [mx_R 0, mx_I x] g (fun r g1 => zC T (d + 220) 265 [mx_R 99, mx_I x] g1 (fun b g2 => r = b ∧ InvA (W + 1728) g2) X) X := by
  obtain ⟨wl, wc, wb, we, wx, wt, wp, wi, iw, hB⟩ := hI
  refine zM (C_fault (d := d + 216) wi.f34 wi.f35 hx) (fun _ g1 z => zM z (fun _ g2 h => ?_))
  obtain ⟨h0, hq⟩ := h
  exact ⟨h0, Or.inr ⟨(IL0.fr wl hq.1 (by decide) (by decide)), (hq.2 wc), (IB.fr wb hq.1 (by decide) (by decide)), (IE.fr we hq.1 (by decide) (by decide)), (IX.fr wx hq.1 (by decide) (by decide)), (IT.fr wt hq.1 (by decide)), (IP.fr wp hq.1 (by decide) (by decide)), (IC.wk (IC.fr wi hq.1 (by decide) (by decide)) (by omega)), (IW.fr iw hq.1 (by decide) (by decide)), (by rw [hq.1.1 9 (by decide) (by decide)]; exact hB)⟩⟩
theorem O_owes {T : Nat × (Nat → Int32)} {d : Nat} {X : mz_X} {g : mz_S} {W : Int} {a b co : Int} (hI : Inv0 W g) (hW : 0 ≤ W ∧ W ≤ 1000000000) (ha : R32 a) (hb : R32 b) (hc : R32 co) : zC T (d + 220) 367 [mx_R 0, mx_I a, mx_I b, mx_I co, mx_R 179] g (fun kk g1 => zC T (d + 220) 236 [mx_R 99, mx_I a, mx_I b, mx_I co] g1 (fun r g2 => AnsI kk r g2 ∧ InvA (W + 1728) g2) X) X := by
  obtain ⟨wl, wc, wb, we, wx, wt, wp, wi, iw, hB⟩ := hI
  refine zM (C_owes (d := d + 216) wb we ha hb hc) (fun _ g1 z => zM z (fun _ g2 h => ?_))
  obtain ⟨h0, hq⟩ := h
  exact ⟨h0, Or.inr ⟨(IL0.fr wl hq.1 (by decide) (by decide)), (hq.2 wc), (IB.fr wb hq.1 (by decide) (by decide)), (IE.fr we hq.1 (by decide) (by decide)), (IX.fr wx hq.1 (by decide) (by decide)), (IT.fr wt hq.1 (by decide)), (IP.fr wp hq.1 (by decide) (by decide)), (IC.wk (IC.fr wi hq.1 (by decide) (by decide)) (by omega)), (IW.fr iw hq.1 (by decide) (by decide)), (by rw [hq.1.1 9 (by decide) (by decide)]; exact hB)⟩⟩
theorem O_hidden {T : Nat × (Nat → Int32)} {d : Nat} {X : mz_X} {g : mz_S} {W : Int} {a b : Int} (hI : Inv0 W g) (hW : 0 ≤ W ∧ W ≤ 1000000000) (ha : R32 a) (hb : R32 b) : zC T (d + 220) 373 [mx_R 0, mx_I a, mx_I b, mx_R 179] g (fun kk g1 => zC T (d + 220) 288 [mx_R 99, mx_I a, mx_I b] g1 (fun r g2 => AnsL kk r g2 ∧ InvA (W + 1728) g2) X) X := by
  obtain ⟨wl, wc, wb, we, wx, wt, wp, wi, iw, hB⟩ := hI
  refine zM (C_hidden (d := d + 216) wb we ha hb) (fun _ g1 z => zM z (fun _ g2 h => ?_))
  obtain ⟨h0, hq⟩ := h
  exact ⟨h0, Or.inr ⟨(IL0.fr wl hq.1 (by decide) (by decide)), (hq.2 wc), (IB.fr wb hq.1 (by decide) (by decide)), (IE.fr we hq.1 (by decide) (by decide)), (IX.fr wx hq.1 (by decide) (by decide)), (IT.fr wt hq.1 (by decide)), (IP.fr wp hq.1 (by decide) (by decide)), (IC.wk (IC.fr wi hq.1 (by decide) (by decide)) (by omega)), (IW.fr iw hq.1 (by decide) (by decide)), (by rw [hq.1.1 9 (by decide) (by decide)]; exact hB)⟩⟩
theorem O_ring {T : Nat × (Nat → Int32)} {d : Nat} {X : mz_X} {g : mz_S} {W : Int} {co mo x : Int} (hI : Inv0 W g) (hW : 0 ≤ W ∧ W ≤ 1000000000) (hc : R32 co) (hm : R32 mo) (hx : R32 x) : zC T (d + 220) 374 [mx_R 0, mx_I co, mx_I mo, mx_I x, mx_R 179] g (fun kk g1 => zC T (d + 220) 292 [mx_R 99, mx_I co, mx_I mo, mx_I x] g1 (fun r g2 => AnsI kk r g2 ∧ InvA (W + 1728) g2) X) X := by
  obtain ⟨wl, wc, wb, we, wx, wt, wp, wi, iw, hB⟩ := hI
  refine zM (C_ring (d := d + 208) wb we hc hm hx) (fun _ g1 z => zM z (fun _ g2 h => ?_))
  obtain ⟨h0, hq⟩ := h
  exact ⟨h0, Or.inr ⟨(IL0.fr wl hq.1 (by decide) (by decide)), (hq.2 wc), (IB.fr wb hq.1 (by decide) (by decide)), (IE.fr we hq.1 (by decide) (by decide)), (IX.fr wx hq.1 (by decide) (by decide)), (IT.fr wt hq.1 (by decide)), (IP.fr wp hq.1 (by decide) (by decide)), (IC.wk (IC.fr wi hq.1 (by decide) (by decide)) (by omega)), (IW.fr iw hq.1 (by decide) (by decide)), (by rw [hq.1.1 9 (by decide) (by decide)]; exact hB)⟩⟩
theorem O_cross {T : Nat × (Nat → Int32)} {d : Nat} {X : mz_X} {g : mz_S} {W : Int} {co mo : Int} (hI : Inv0 W g) (hW : 0 ≤ W ∧ W ≤ 1000000000) (hc : R32 co) (hm : R32 mo) : zC T (d + 220) 375 [mx_R 0, mx_I co, mx_I mo, mx_R 179] g (fun kk g1 => zC T (d + 220) 293 [mx_R 99, mx_I co, mx_I mo] g1 (fun r g2 => AnsI kk r g2 ∧ InvA (W + 1728) g2) X) X := by
  obtain ⟨wl, wc, wb, we, wx, wt, wp, wi, iw, hB⟩ := hI
  refine zM (C0_cross (d := d + 208) hB wb we hc hm) (fun _ g1 z => zM z (fun _ g2 h => ?_))
  obtain ⟨h0, hIE, hq⟩ := h
  exact ⟨h0, Or.inr ⟨(IL0.fr wl hq.1 (by decide) (by decide)), (hq.2 wc), (IB.fr wb hq.1 (by decide) (by decide)), hIE, (IX.fr wx hq.1 (by decide) (by decide)), (IT.fr wt hq.1 (by decide)), (IP.fr wp hq.1 (by decide) (by decide)), (IC.wk (IC.fr wi hq.1 (by decide) (by decide)) (by omega)), (IW.fr iw hq.1 (by decide) (by decide)), (by rw [hq.1.1 9 (by decide) (by decide)]; exact hB)⟩⟩
theorem O_fewest {T : Nat × (Nat → Int32)} {d : Nat} {X : mz_X} {g : mz_S} {W : Int} {co st : Int} (hI : Inv0 W g) (hW : 0 ≤ W ∧ W ≤ 1000000000) (hc : R32 co) (hs : R32 st) : zC T (d + 220) 376 [mx_R 0, mx_I co, mx_I st, mx_R 179] g (fun kk g1 => zC T (d + 220) 301 [mx_R 99, mx_I co, mx_I st] g1 (fun r g2 => AnsI kk r g2 ∧ InvA (W + 1728) g2) X) X := by
  obtain ⟨wl, wc, wb, we, wx, wt, wp, wi, iw, hB⟩ := hI
  refine zM (C_fewest (d := d + 212) wb we hc hs) (fun _ g1 z => zM z (fun _ g2 h => ?_))
  obtain ⟨h0, hq⟩ := h
  exact ⟨h0, Or.inr ⟨(IL0.fr wl hq.1 (by decide) (by decide)), (hq.2 wc), (IB.fr wb hq.1 (by decide) (by decide)), (IE.fr we hq.1 (by decide) (by decide)), (IX.fr wx hq.1 (by decide) (by decide)), (IT.fr wt hq.1 (by decide)), (IP.fr wp hq.1 (by decide) (by decide)), (IC.wk (IC.fr wi hq.1 (by decide) (by decide)) (by omega)), (IW.fr iw hq.1 (by decide) (by decide)), (by rw [hq.1.1 9 (by decide) (by decide)]; exact hB)⟩⟩
theorem O_step {T : Nat × (Nat → Int32)} {d : Nat} {X : mz_X} {g : mz_S} {W : Int} {co st x w : Int} (hI : Inv0 W g) (hW : 0 ≤ W ∧ W ≤ 1000000000) (hc : R32 co) (hs : R32 st) (hx : R32 x) (hwh : R32 w) : zC T (d + 220) 377 [mx_R 0, mx_I co, mx_I st, mx_I x, mx_I w, mx_R 179] g (fun kk g1 => zC T (d + 220) 302 [mx_R 99, mx_I co, mx_I st, mx_I x, mx_I w] g1 (fun r g2 => AnsI kk r g2 ∧ InvA (W + 1728) g2) X) X := by
  obtain ⟨wl, wc, wb, we, wx, wt, wp, wi, iw, hB⟩ := hI
  refine zM (C_step (d := d + 212) wb we hc hs hx hwh) (fun _ g1 z => zM z (fun _ g2 h => ?_))
  obtain ⟨h0, hq⟩ := h
  exact ⟨h0, Or.inr ⟨(IL0.fr wl hq.1 (by decide) (by decide)), (hq.2 wc), (IB.fr wb hq.1 (by decide) (by decide)), (IE.fr we hq.1 (by decide) (by decide)), (IX.fr wx hq.1 (by decide) (by decide)), (IT.fr wt hq.1 (by decide)), (IP.fr wp hq.1 (by decide) (by decide)), (IC.wk (IC.fr wi hq.1 (by decide) (by decide)) (by omega)), (IW.fr iw hq.1 (by decide) (by decide)), (by rw [hq.1.1 9 (by decide) (by decide)]; exact hB)⟩⟩
