/-! the call wealth, whole -/
def wcS : List Nat := [8, 39, 45, 46, 47, 86, 87, 88, 89, 90, 91, 92, 93, 94, 130, 131, 132, 133, 168, 169, 170, 171, 172, 173, 174, 179]
theorem ES.ic {g G G2 : mz_S} {W W' : Int} {F : List Nat} (w : IC W' g) (es : ES g W G) (c2 : Ch [130, 131, 132, 133, 168, 169, 170, 171, 172, 173, 174, 179] F G G2) (hF : ∀ f ∈ [34, 35, 36], f ∉ F) (hW : W' ≤ W) : IC W G2 := by
  have cg : Ch (esS ++ [130, 131, 132, 133, 168, 169, 170, 171, 172, 173, 174, 179]) F g G2 := (es.1.sub (by decide) (fun f hf => by cases hf)).tr (c2.sub (by decide) (fun f hf => hf))
  have e39 : G2 39 = G 39 := c2.1 39 (by decide) (by decide)
  have e46 : G2 46 = G 46 := c2.1 46 (by decide) (by decide)
  refine (w.wk hW).walk cg (by decide) hF ?_ ?_ ?_
  · rw [e39]; exact es.2.2.1
  · rw [e39]; exact es.2.2.2.1
  · rw [e39, e46]; exact es.2.2.2.2
theorem CaE.zero {c g : mz_S} {nt m : Nat} {al : Nat → List pA} (h : g 86 5 = 0) : CaE c nt al m g := fun z _ hb => by
  rw [h, zb_0] at hb
  exact absurd hb (by decide)
theorem sX4_wealthOf {T : Nat × (Nat → Int32)} {d : Nat} {Q : mz_K} {X : mz_X} {g : mz_S} {c : mz_S} {nt m x : Nat} {al : Nat → List pA} {W : Int} (wlc : WfL0 c) (wb : WfB c) (ie : IE c) (tw : TxW c nt al) (em : c 9 1 = (m : Int)) (hx : x < m) (es : ES c W g) (hW : 0 ≤ W ∧ W < 2147480000) (k : ∀ g' S, ES c (W + 144) g' → (∀ i, i < 32 → zb S i = decide ((i : Int) < c 9 1 ∧ ¬ c 13 i = -1)) → Q (weF c nt al m (zb S) x) g') : zC T (d + 9) 66 [mx_R 86, mx_I (x : Int)] g Q X := by
  have hw := wb.1
  refine zX4_wealthOf ?_
  intro g1 e1
  have es1 : ES c W g1 := by rw [e1]; exact es.up (by decide)
  refine sX0_fallenSet (d := d + 6) (es1.wb wb) (fun S _ _ hS => ?_)
  intro g3 e3
  have es3 : ES c W g3 := by rw [e3]; exact es1.up (by decide)
  refine sX4_measureWealth (d := d) (D := S) wlc wb ie tw em es3 (CaE.zero (by rw [e3, up_i (by decide), e1, up_s])) (by rw [e3, up_s]) hW (fun G esG _ _ h94 => ?_)
  refine s_inN ?_ (fun ea => ?_)
  · omega
  try simp only [ea]
  clear ea
  rw [h94 x hx]
  exact k G S esG (fun i hi => by rw [hS i hi, es1.em, es1.1.1 13 (by decide) (by decide)])
theorem C_wealth {T : Nat × (Nat → Int32)} {d : Nat} {X X' : mz_X} {g : mz_S} {W x : Int} (wl : IL g) (wc : WfC g) (wb : IB g) (we : IE g) (wi : IC W g) (hW : 0 ≤ W ∧ W < 2147480000) (hx : R32 x) : zC T (d + 11) 385 [mx_R 0, mx_I x, mx_R 179] g (fun kk g1 => zC T (d + 11) 320 [mx_R 99, mx_I x] g1 (fun r g2 => AnsL kk r g2 ∧ IC (W + 144) g2 ∧ Qy wcS [0, 50, 54] g g2) X') X := by
  have hw := wb.1.1
  obtain ⟨m, em⟩ := Int.eq_ofNat_of_zero_le hw.1
  obtain ⟨nt, al, tw, h36, w11, w46⟩ := wi.txw
  have es0 : ES g W g := ⟨Ch.rf g, ⟨wl.1, wc⟩, rfl, w11, w46⟩
  have rs0 : RS g nt g := ⟨wl.2.2.1, wb.2.1, we.2.2.1, h36, fun _ _ => rfl⟩
  refine wL_wealth (zX11_wealth (sX11_isBroker (d := d + 7) hx (by omega) ⟨by decide, by decide, sX11_needFound (fun h1 => ?_) (fun h1 => ⟨rfl, ?_⟩)⟩))
  · obtain ⟨b, eb⟩ := Int.eq_ofNat_of_zero_le h1.1
    subst eb
    refine sX4_wealthOf (d := d) wl.1 wb.1 we tw em (by omega) es0 hW (fun G S es hS => ?_)
    refine zX12_wealth ?_
    intro g2 e2
    have c2 : Ch [130, 131, 132, 133, 168, 169, 170, 171, 172, 173, 174, 179] [0] G g2 := by
      rw [e2]; exact ((Ch.rf G).up (by decide) (by decide)).up9 (by decide)
    have cg2 : Ch (esS ++ [130, 131, 132, 133, 168, 169, 170, 171, 172, 173, 174, 179]) [0] g g2 := (es.1.sub (by decide) (fun f hf => by cases hf)).tr (c2.sub (by decide) (by decide))
    have rs2 := rs0.fr cg2 (by decide) (by decide)
    have wb2 : WfB g2 := wb.1.ch cg2 (by decide)
    refine sX12_isBrokerC (d := d + 8) rs2.2.1 wb.1 hx ?_
    first | with_reducible refine b_eq (fun q => ?_) (fun q => ?_) | with_reducible refine b_ne (fun q => ?_) (fun q => ?_)
    · omega
    · refine sX12_standingOnes (d := d + 8) (c := g) wb.1 rs2.2.1 (fun n hn hn2 => ?_)
      refine sX12_wealthOf (d := d + 1) (c := g) (nt := nt) (m := m) (al := al) wl.1 wb.1 we tw rs2 em (by omega) (fun G2 c3 => ?_)
      refine zX12_wealth_42 ?_
      have eS : zb (mx_iand (mx_ixor (n : Int) (-1)) (mx_ishl 1 (g2 99 10) - 1)) = zb S := by
        funext i
        rcases Nat.lt_or_ge i 32 with hi | hi
        · rw [rs2.2.1.1, em, zb_iand, zb_not hi, zb_low m (by omega) i hi, zb_nat (by omega), hn2 i, hS i hi, em]
          by_cases q1 : i < m
          · by_cases q2 : g 13 i = -1
            · simp [q1, q2]
            · simp [q1, q2]
          · simp [q1]
        · rw [zb_big hi, zb_big hi]
      have c5 : Ch [130, 131, 132, 133, 168, 169, 170, 171, 172, 173, 174, 179] [0, 50, 54] G G2 := (c2.sub (by decide) (by decide)).tr (c3.sub (by decide) (by decide))
      refine ⟨⟨by omega, ?_, fun _ => ?_⟩, es.ic wi c5 (by decide) (by omega), ?_, fun _ => es.2.1.2.fr c5 (by decide)⟩
      · rw [c3.2 0 (by decide), e2, up_s]
      · rw [eS, c3.1 179 (by decide) (by decide), e2, up_q (by decide), up_s]
      · exact (es.1.sub (by decide) (fun f hf => by cases hf)).tr (c5.sub (by decide) (by decide))
  · refine zX12_wealth ?_
    intro g2 e2
    have rs2 : RS g nt g2 := rs0.fr (S := []) (F := [0]) (by rw [e2]; exact ch_0 g 0) (by decide) (by decide)
    refine sX12_isBrokerC (d := d + 8) rs2.2.1 wb.1 hx ?_
    first | with_reducible refine b_eq (fun q => ?_) (fun q => ?_) | with_reducible refine b_ne (fun q => ?_) (fun q => ?_)
    · refine sX12_fails (zX12_wealth_42 ?_)
      rw [e2]
      exact ⟨⟨by omega, up_s, fun z => absurd z (by decide)⟩, (wi.wk (by omega)).fr (ch_bad g 1) (by decide) (by decide), (ch_bad g 1).sub (fun q hq => by cases hq) (by decide), fun z => z.fr (ch_bad g 1) (by decide)⟩
    · exact absurd q h1
