/-! the call ruin: class against reference -/
theorem C_ruin {T : Nat × (Nat → Int32)} {d : Nat} {X X' : mz_X} {g : mz_S} {W x x2 : Int} (wl : IL g) (wc : WfC g) (wb : IB g) (we : IE g) (wi : IC W g) (hW : 0 ≤ W ∧ W < 2147470000) (hx : R32 x) (hx2 : R32 x2) : zC T (d + 11) 384 [mx_R 0, mx_I x, mx_I x2, mx_R 179] g (fun kk g1 => zC T (d + 11) 319 [mx_R 99, mx_I x, mx_I x2] g1 (fun r g2 => AnsI kk r g2 ∧ IC (W + 1728) g2 ∧ Qy wcS [0, 50, 54] g g2) X') X := by
  have hw := wb.1.1
  obtain ⟨m, em⟩ := Int.eq_ofNat_of_zero_le hw.1
  obtain ⟨nt, al, tw, h36, w11, w46⟩ := wi.txw
  have es0 : ES g W g := ⟨Ch.rf g, ⟨wl.1, wc⟩, rfl, w11, w46⟩
  have rs0 : RS g nt g := ⟨wl.2.2.1, wb.2.1, we.2.2.1, h36, fun _ _ => rfl⟩
  have bad : ∀ n : Int, 1 ≤ n ∧ n ≤ 3 → AnsI n 0 (mx_up (mx_up g 99 0 0) 99 0 n) ∧ IC (W + 1728) (mx_up (mx_up g 99 0 0) 99 0 n) ∧ Qy wcS [0, 50, 54] g (mx_up (mx_up g 99 0 0) 99 0 n) := fun n hn =>
    ⟨⟨by omega, up_s, fun z => by omega⟩, (wi.wk (by omega)).fr (ch_bad g n) (by decide) (by decide), (ch_bad g n).sub (fun q hq => by cases hq) (by decide), fun z => z.fr (ch_bad g n) (by decide)⟩
  have rs2 : RS g nt (mx_up g 99 0 0) := rs0.fr (S := []) (F := [0]) (ch_0 g 0) (by decide) (by decide)
  refine wL_ruin (zX11_ruin (sX11_isBroker (d := d + 7) hx (by omega) ⟨by decide, by decide, sX11_needFound (fun h1 => ?_) (fun h1 => Or.inl ⟨rfl, ?_⟩)⟩))
  · refine sX11_within hx2 (by omega) (by omega) ⟨by decide, by decide, sX11_needArgument (fun h2 => ?_) (fun h2 => Or.inr ⟨rfl, ?_⟩)⟩
    · obtain ⟨b, eb⟩ := Int.eq_ofNat_of_zero_le h1.1
      subst eb
      refine sX4_bringDown (d := d) wl.1 wb.1 we tw em (by omega) es0 hW (fun G R es hn hf h15 h16 => ?_)
      have ref : ∀ v, ((w32 x2 = w32 0 → v = G 86 15) ∧ (¬ w32 x2 = w32 0 → v = G 86 16)) → zC T (d + 11) 319 [mx_R 99, mx_I (b : Int), mx_I x2] (mx_up G 179 0 (w32 v)) (fun r g2 => AnsI 0 r g2 ∧ IC (W + 1728) g2 ∧ Qy wcS [0, 50, 54] g g2) X' := by
        intro v hv
        refine zX12_ruin ?_
        intro g2 e2
        have c2 : Ch [130, 131, 132, 133, 168, 169, 170, 171, 172, 173, 174, 179] [0] G g2 := by
          rw [e2]; exact ((Ch.rf G).up (by decide) (by decide)).up9 (by decide)
        have cg2 : Ch (esS ++ [130, 131, 132, 133, 168, 169, 170, 171, 172, 173, 174, 179]) [0] g g2 := (es.1.sub (by decide) (fun f hf => by cases hf)).tr (c2.sub (by decide) (by decide))
        have rs3 := rs0.fr cg2 (by decide) (by decide)
        refine sX12_isBrokerC (d := d + 8) rs3.2.1 wb.1 hx ?_
        first | with_reducible refine b_eq (fun q => ?_) (fun q => ?_) | with_reducible refine b_ne (fun q => ?_) (fun q => ?_)
        · refine sX12_withinW (d := d + 9) hx2 (by omega) (by omega) ?_
          first | with_reducible refine b_eq (fun q2 => ?_) (fun q2 => ?_) | with_reducible refine b_ne (fun q2 => ?_) (fun q2 => ?_)
          · refine sX12_standingOnes (d := d + 8) (c := g) wb.1 rs3.2.1 (fun n hn1 hn2 => ?_)
            have eS : zb (mx_ior (mx_ishl 1 (b : Int)) (mx_iand (mx_ixor (n : Int) (-1)) (mx_ishl 1 (g2 99 10) - 1))) = ruS0 g m b := by
              funext i
              unfold ruS0
              rcases Nat.lt_or_ge i 32 with hi | hi
              · rw [rs3.2.1.1, em, zb_ior, zb_bit (by omega) hi, zb_iand, zb_not hi, zb_low m (by omega) i hi, zb_nat (by omega), hn2 i, em]
                by_cases q1 : i < m
                · by_cases q2 : g 13 i = -1
                  · simp [q1, q2]
                  · simp [q1, q2]
                · simp [q1]
              · rw [zb_big hi, decide_eq_false (by omega), decide_eq_false (by omega)]
                rfl
            refine sX12_ruinL (d := d + 1) (c := g) (nt := nt) (m := m) (y := b) (al := al) wl.1 wb.1 we tw rs3 em (by omega) eS (fun G2 R' D' c3 hn' hf' hD' => ?_)
            have eR := ru_uniq hn hf hn' hf'
            have c5 : Ch [130, 131, 132, 133, 168, 169, 170, 171, 172, 173, 174, 179] [0, 50, 54] G G2 := (c2.sub (by decide) (by decide)).tr (c3.sub (by decide) (by decide))
            have fin : ∀ r, w32 v = w32 r → AnsI 0 r G2 ∧ IC (W + 1728) G2 ∧ Qy wcS [0, 50, 54] g G2 := fun r hr => by
              refine ⟨⟨by omega, ?_, fun _ => ?_⟩, es.ic wi c5 (by decide) (by omega), ?_, fun _ => es.2.1.2.fr c5 (by decide)⟩
              · rw [c3.2 0 (by decide), e2, up_s]
              · rw [c3.1 179 (by decide) (by decide), e2, up_q (by decide), up_s]
                exact hr
              · exact (es.1.sub (by decide) (fun f hf => by cases hf)).tr (c5.sub (by decide) (by decide))
            refine ⟨fun z => fin D' ?_, fun z => fin _ ?_⟩
            · rw [hv.1 z]
              refine zb_ext (fun i _ => ?_)
              rw [h15, hD', eR]
            · rw [hv.2 z, h16, eR]
          · exact absurd h2 q2
        · exact absurd h1 q
      refine ⟨fun z => zX11_ruin_46 (ref _ ⟨fun y => absurd y z, fun _ => rfl⟩), fun z => zX11_ruin_46 (ref _ ⟨fun _ => rfl, fun y => absurd (Decidable.not_not.mp z) y⟩)⟩
    · refine zX12_ruin ?_
      rintro _ rfl
      refine sX12_isBrokerC (d := d + 8) rs2.2.1 wb.1 hx ?_
      first | with_reducible refine b_eq (fun q => ?_) (fun q => ?_) | with_reducible refine b_ne (fun q => ?_) (fun q => ?_)
      · refine sX12_withinW (d := d + 9) hx2 (by omega) (by omega) ?_
        first | with_reducible refine b_eq (fun q2 => ?_) (fun q2 => ?_) | with_reducible refine b_ne (fun q2 => ?_) (fun q2 => ?_)
        · exact absurd q2 h2
        · exact sX12_fails (bad 2 (by omega))
      · exact absurd h1 q
  · refine zX12_ruin ?_
    rintro _ rfl
    refine sX12_isBrokerC (d := d + 8) rs2.2.1 wb.1 hx ?_
    first | with_reducible refine b_eq (fun q => ?_) (fun q => ?_) | with_reducible refine b_ne (fun q => ?_) (fun q => ?_)
    · exact absurd q h1
    · exact sX12_fails (bad 1 (by omega))
