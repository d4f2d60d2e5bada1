/-! the call falls, whole -/
abbrev fyS : List Nat := [13, 14, 15, 16, 17, 18, 19, 20, 21, 22, 23, 55, 86, 109, 110, 111, 112, 113, 114, 115, 116, 117, 118, 140, 130, 131, 132, 133, 168, 169, 170, 171, 172, 173, 174, 179]
theorem C_falls {T : Nat × (Nat → Int32)} {d : Nat} {X X' : mz_X} {g : mz_S} {W x : Int} (wl : IL g) (wc : WfC g) (wb : IB g) (we : IE g) (iw : IW g) (wi : IC W g) (hW : 0 ≤ W ∧ W < 2147470000) (hx : R32 x) : zC T (d + 10) 382 [mx_R 0, mx_I x, mx_R 179] g (fun kk g1 => zC T (d + 10) 314 [mx_R 99, mx_I x] g1 (fun r g2 => AnsL kk r g2 ∧ IB g2 ∧ IE g2 ∧ IW g2 ∧ IC (W + 13) g2 ∧ Qy fzS [0, 16, 50, 54] g g2) X') X := by
  have hw := wb.1.1
  obtain ⟨m, em⟩ := Int.eq_ofNat_of_zero_le hw.1
  obtain ⟨nt, al, tw, h36, w11, w46⟩ := wi.txw
  have es0 : ES g W g := ⟨Ch.rf g, ⟨wl.1, wc⟩, rfl, w11, w46⟩
  have rs0 : RS g nt g := ⟨wl.2.2.1, wb.2.1, we.2.2.1, h36, fun _ _ => rfl⟩
  have bad : ∀ n r : Int, 1 ≤ n ∧ n ≤ 3 → AnsL n r (mx_up (mx_up g 99 0 0) 99 0 n) ∧ IB (mx_up (mx_up g 99 0 0) 99 0 n) ∧ IE (mx_up (mx_up g 99 0 0) 99 0 n) ∧ IW (mx_up (mx_up g 99 0 0) 99 0 n) ∧ IC (W + 13) (mx_up (mx_up g 99 0 0) 99 0 n) ∧ Qy fzS [0, 16, 50, 54] g (mx_up (mx_up g 99 0 0) 99 0 n) := fun n r hn =>
    ⟨⟨by omega, up_s, fun z => by omega⟩, wb.fr (ch_bad g n) (by decide) (by decide), we.fr (ch_bad g n) (by decide) (by decide), iw.fr (ch_bad g n) (by decide) (by decide), (wi.wk (by omega)).fr (ch_bad g n) (by decide) (by decide), (ch_bad g n).sub (fun q hq => by cases hq) (by decide), fun z => z.fr (ch_bad g n) (by decide)⟩
  have rs2 : RS g nt (mx_up g 99 0 0) := rs0.fr (S := []) (F := [0]) (ch_0 g 0) (by decide) (by decide)
  refine wL_falls (zX11_falls (sX11_isBroker (d := d + 6) hx (by omega) ⟨by decide, by decide, sX11_needFound (fun h1 => ?_) (fun h1 => Or.inl ⟨rfl, ?_⟩)⟩))
  · obtain ⟨y, ey⟩ := Int.eq_ofNat_of_zero_le h1.1
    subst ey
    have r13 := (wb.1.2.1 y (by omega)).2.2.2
    refine sX0_hasFallen (d := d + 7) (by omega) (by rw [show ((y : Int)).toNat = y by omega]; omega) ?_
    rw [show ((y : Int)).toNat = y by omega]
    first | with_reducible refine b_eq (fun h2 => ?_) (fun h2 => ?_) | with_reducible refine b_ne (fun h2 => ?_) (fun h2 => ?_)
    · refine zX11_falls_24 ⟨by decide, by decide, nS_f (Or.inr ⟨rfl, ?_⟩)⟩
      refine zX12_falls ?_
      rintro _ rfl
      refine sX12_isBrokerC (d := d + 7) rs2.2.1 wb.1 hx ?_
      first | with_reducible refine b_eq (fun q => ?_) (fun q => ?_) | with_reducible refine b_ne (fun q => ?_) (fun q => ?_)
      · refine sX12_hasFallen (d := d + 8) wb.1 rs2.2.1 (by omega) ?_
        rw [show ((y : Int)).toNat = y by omega]
        first | with_reducible refine b_eq (fun q2 => ?_) (fun q2 => ?_) | with_reducible refine b_ne (fun q2 => ?_) (fun q2 => ?_)
        · exact absurd h2 q2
        · exact sX12_fails (bad 2 _ (by omega))
      · exact absurd h1 q
    · have hst : g 13 y = -1 := Decidable.not_not.mp h2
      have hb := we.1.1
      have bA := faA_bnd (nt := nt) (al := al) wl.1 wb.1 we em (show y < m by omega)
      have eN := faN_cnt (c := g) (nt := nt) (m := m) (y := y) (al := al)
      have n1 := cntP_le (p := faS g nt al m y) m
      have n2 := cntP_le (p := faA g nt al m y) m
      refine zX11_falls_24 ⟨by decide, by decide, nS_t ?_⟩
      refine sX4_foresee (d := d) (nt := nt) (m := m) (al := al) wl.1 wb.1 we tw em (by omega) es0 hW (fun Gf es hS h14 => ?_)
      have e15 : Gf 15 2 = g 15 2 := by rw [es.1.1 15 (by decide) (by decide)]
      refine sX6_hasRoom (d := d + 7) (by rw [e15]; exact hb) (by omega) ⟨by decide, by decide, sX11_needState (fun room => ?_) (fun room => Or.inr ⟨rfl, ?_⟩)⟩
      · rw [e15, eN] at room
        have cb := faBs_ch g y
        have eb : ∀ q, q ≠ 13 → q ≠ 109 → faBs g y q = g q := fun q a b => by
          unfold faBs
          funext j
          rw [up_q b, up_q a]
        refine sX4_carryOut (d := d + 3) (c := g) (b := faBs g y) (nt := nt) (al := al) (E := faV g nt al m y) wl.1 wb.1 we iw.1 em (by omega) es hS h14 faV_4 faV_5 (by rw [eb 15 (by decide) (by decide)]; exact ⟨hb.1, room⟩) ⟨fun q hq => ?_, ?_⟩ (fun P cP mP p13 p14 p14' p55 _ => ?_)
        · show Gf q = faBs g y q
          rw [eb q (by simp at hq; omega) (by simp at hq; omega)]
          exact es.1.1 q (by simp at hq ⊢; omega) (by simp at hq; omega)
        · rw [eb 1 (by decide) (by decide), es.1.1 1 (by decide) (by decide)]
        obtain ⟨P2, eP2⟩ : ∃ P2, P2 = mx_up P 179 0 (faT g nt al m y - faU g nt al m y) := ⟨_, rfl⟩
        rw [← eP2]
        have c179 : Ch [179] [] P P2 := by rw [eP2]; exact (Ch.rf P).up (by decide) (by decide)
        have cf : Ch fyS [0, 16, 50, 54] Gf P2 := (cP.sub (by decide) (fun f hf => by cases hf)).tr (c179.sub (by decide) (fun f hf => by cases hf))
        have cg : Ch fzS [0, 16, 50, 54] g P2 := (es.1.sub (by decide) (fun f hf => by cases hf)).tr (cf.sub (by decide) (fun f hf => hf))
        have eP : ∀ q, q ∉ esS → q ∉ caS → q ≠ 179 → q ≠ 99 → P2 q = g q := fun q a b e f => by
          rw [c179.1 q (fun z => e (List.mem_singleton.mp z)) f, cP.1 q b f]; exact es.1.1 q a f
        have cgR : Ch (esS ++ caS ++ [179]) [] g P2 := ((es.1.sub (by decide) (fun f hf => hf)).tr (cP.sub (by decide) (fun f hf => hf))).tr (c179.sub (by decide) (fun f hf => hf))
        have rs3 := rs0.fr cgR (by decide) (by decide)
        have rw3 : ReW g P2 := iw.2.fr cgR (by decide) (by decide)
        refine sX12_fallsA (d := d + 1) (d' := d + 9) (c := g) (nt := nt) (m := m) (al := al) rfl wl.1 wb.1 we tw rs3 em (by omega) hx hst (fun G v cG z0 hv hG => ⟨fun _ => ?_, fun z => ?_⟩)
        · have rs4 := rs3.fr cG (by decide) (by decide)
          refine sX12_fallen (d := d + 4) (c := g) (b := faBs g y) (nt := nt) (al := al) (E := faV g nt al m y) wl.1 wb.1 we iw.1 rs4.1 rs4.2.1 (rw3.fr cG (by decide) (by decide)) em (by omega) hv hG faV_4 faV_5 (by rw [cb.2 16 (by decide), we.2.2.1.1]; exact ⟨hb.1, room⟩) ⟨fun q hq => ?_, ?_, ?_⟩ (fun G2 c2 mQ f109 f110 f110' f140 => ?_)
          · show G q = faBs g y q
            rw [eb q (by simp at hq; omega) (by simp at hq; omega), cG.1 q (by simp at hq ⊢; omega) (by simp at hq; omega)]
            exact cgR.1 q (by simp at hq ⊢; omega) (by simp at hq; omega)
          · show G 99 16 = faBs g y 99 16
            rw [cb.2 16 (by decide), cG.2 16 (by decide), cgR.2 16 (by decide)]
          · rw [cb.2 1 (by decide), cG.2 1 (by decide), cgR.2 1 (by decide)]
          have cP2 : Ch [109, 110, 111, 112, 113, 114, 115, 116, 117, 118, 140, 130, 131, 132, 133, 168, 169, 170, 171, 172, 173, 174] [0, 16, 50, 54] P2 G2 := (cG.sub (by decide) (by decide)).tr (c2.sub (by decide) (by decide))
          have call : Ch fzS [0, 16, 50, 54] g G2 := cg.tr (cP2.sub (by decide) (fun f hf => hf))
          have cfall : Ch fyS [0, 16, 50, 54] Gf G2 := cf.tr (cP2.sub (by decide) (fun f hf => hf))
          have g109 : ∀ x, G 109 x = g 109 x := fun x => by rw [cG.1 109 (by decide) (by decide), cgR.1 109 (by decide) (by decide)]
          have g110 : ∀ x, G 110 x = g 110 x := fun x => by rw [cG.1 110 (by decide) (by decide), cgR.1 110 (by decide) (by decide)]
          have low : ∀ q, q < 100 → q ≠ 99 → G2 q = P q := fun q a b => by
            rw [cP2.1 q (by simp; omega) b, c179.1 q (by simp; omega) b]
          have mP2 : mvP (faBs g y) 0 (faV g nt al m y) (cntP (faS g nt al m y) m + cntP (faA g nt al m y) m) G2 := mP.fr (c179.sub (S' := fyS) (F' := [0, 16, 50, 54]) (by decide) (fun f hf => by cases hf) |>.tr (cP2.sub (by decide) (fun f hf => hf)) |> fun _ => (c179.sub (S' := [179, 109, 110, 111, 112, 113, 114, 115, 116, 117, 118, 140, 130, 131, 132, 133, 168, 169, 170, 171, 172, 173, 174]) (F' := [0, 16, 50, 54]) (by decide) (fun f hf => by cases hf)).tr (cP2.sub (by decide) (fun f hf => hf))) (by decide)
          refine ⟨⟨by omega, ?_, fun _ => ?_⟩, ?_, ?_, ?_, ?_, call, fun _ => es.2.1.2.fr cfall (by decide)⟩
          · rw [c2.2 0 (by decide)]; exact z0
          · rw [cP2.1 179 (by decide) (by decide), eP2, up_s]
          · refine fall_IB (nt := nt) (al := al) wl wb we em (by omega) call (fun x => by rw [low 13 (by omega) (by omega)]; exact p13 x) (fun x => by rw [f109 x, g109]) (fun x hx => by rw [low 14 (by omega) (by omega)]; exact p14 x hx) (fun i hi => by rw [low 14 (by omega) (by omega)]; exact p14' i hi) f110 (fun i hi => by rw [f110' i hi, g110])
          · have ie := fa_ie (nt := nt) (al := al) wl wb.1 we em (show y < m by omega) hst room
            have cV := mvV_ch (faBs g y) 0 (faV g nt al m y) (cntP (faS g nt al m y) m + cntP (faA g nt al m y) m)
            refine ie.cg (fun q hq => ?_) mQ.2.1
            by_cases z : q = 13
            · subst z
              rw [cV.1 13 (by decide) (by decide)]
              funext x
              rw [low 13 (by omega) (by omega), p13]
              unfold faBs
              rw [up_q (by decide)]
              by_cases e : x = y
              · rw [if_pos e, e, up_s]
              · rw [if_neg e, up_i e]
            · by_cases z2 : q < 26
              · exact mP2.1 q (by simp at hq ⊢; omega)
              · exact mQ.1 q (by simp at hq ⊢; omega)
          · exact fall_IW wl wb.1 iw (show y < 12 by omega) call (fun i hi => by rw [low 55 (by omega) (by omega)]; exact p55 i hi) f140
          · refine (wi.wk (W' := W + 13) (by omega)).walk call (by decide) (by decide) ?_ ?_ ?_
            · rw [cfall.1 39 (by decide) (by decide)]; exact es.2.2.1
            · rw [cfall.1 39 (by decide) (by decide)]; exact es.2.2.2.1
            · rw [cfall.1 39 (by decide) (by decide), cfall.1 46 (by decide) (by decide)]; exact es.2.2.2.2
        · exfalso
          refine z ?_
          rw [cG.2 16 (by decide), cgR.2 16 (by decide), we.2.2.1.1, eN, w32_of (by omega) (by omega), w32_of (by omega) (by omega)]
          exact room
      · rw [e15] at room
        have rs3 := rs0.fr es.1 (by decide) (by decide)
        refine sX12_fallsA (d := d + 1) (d' := d + 9) (c := g) (nt := nt) (m := m) (al := al) rfl wl.1 wb.1 we tw rs3 em (by omega) hx hst (fun G v cG z0 hv hG => ⟨fun z => ?_, fun _ => ?_⟩)
        · exfalso
          rw [cG.2 16 (by decide), es.1.2 16 (by decide), we.2.2.1.1, w32_of (by omega) (by omega), w32_of (by omega) (by omega)] at z
          exact room z
        · refine sX12_fails ?_
          have cG2 : Ch [130, 131, 132, 133, 168, 169, 170, 171, 172, 173, 174, 179] [0, 50, 54] Gf (mx_up G 99 0 2) := (cG.up9 (by decide)).sub (by decide) (fun f hf => hf)
          have call : Ch (esS ++ [130, 131, 132, 133, 168, 169, 170, 171, 172, 173, 174, 179]) [0, 50, 54] g (mx_up G 99 0 2) := (es.1.sub (by decide) (fun f hf => by cases hf)).tr (cG2.sub (by decide) (fun f hf => hf))
          exact ⟨⟨by omega, up_s, fun z => by omega⟩, wb.fr call (by decide) (by decide), we.fr call (by decide) (by decide), iw.fr call (by decide) (by decide), es.ic wi cG2 (by decide) (by omega), call.sub (by decide) (by decide), fun _ => es.2.1.2.fr cG2 (by decide)⟩
  · refine zX12_falls ?_
    rintro _ rfl
    refine sX12_isBrokerC (d := d + 7) rs2.2.1 wb.1 hx ?_
    first | with_reducible refine b_eq (fun q => ?_) (fun q => ?_) | with_reducible refine b_ne (fun q => ?_) (fun q => ?_)
    · exact absurd q h1
    · exact sX12_fails (bad 1 _ (by omega))
