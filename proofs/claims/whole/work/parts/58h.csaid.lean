/-! the call said -/
theorem C_said {T : Nat × (Nat → Int32)} {d : Nat} {X X' : mz_X} {g : mz_S} {W a b n coin what : Int} (wl : IL g) (wb : IB g) (w : IC W g) (hW : W < 2147483647) (ha : R32 a) (hb : R32 b) (hc : R32 coin) (hx : R32 what) : zC T (d + 10) 361 [mx_R 0, mx_I a, mx_I b, mx_J n, mx_I coin, mx_I what, mx_R 179] g (fun kk g1 => zC T (d + 10) 273 [mx_R 99, mx_I a, mx_I b, mx_J n, mx_I coin, mx_I what] g1 (fun r g2 => AnsI kk r g2 ∧ IC (W + 1) g2 ∧ Qy [39, 45, 46, 47, 130, 131, 132, 133, 179] [0, 50, 54] g g2) X') X := by
  have hn := wb.1.1
  have w1 : IC (W + 1) g := w.wk (by omega)
  have rl := wl.2.2.1
  have rb := wb.2.1
  have wf := wl.1
  have wB := wb.1
  have ref : ∀ k : Int, (k = 1 ∧ ¬ ((0 ≤ a ∧ a ≤ g 9 1 - 1) ∧ (0 ≤ b ∧ b ≤ g 9 1 - 1))) ∨ (k = 2 ∧ ((0 ≤ a ∧ a ≤ g 9 1 - 1) ∧ (0 ≤ b ∧ b ≤ g 9 1 - 1)) ∧ ¬ ((0 ≤ coin ∧ coin ≤ 3) ∧ (0 ≤ what ∧ what ≤ 8))) → zC T (d + 10) 273 [mx_R 99, mx_I a, mx_I b, mx_J n, mx_I coin, mx_I what] g (fun r g2 => AnsI k r g2 ∧ IC (W + 1) g2 ∧ Qy [39, 45, 46, 47, 130, 131, 132, 133, 179] [0, 50, 54] g g2) X' := by
    intro k hk
    have bad : AnsI k 0 (mx_up (mx_up g 99 0 0) 99 0 k) ∧ IC (W + 1) (mx_up (mx_up g 99 0 0) 99 0 k) ∧ Qy [39, 45, 46, 47, 130, 131, 132, 133, 179] [0, 50, 54] g (mx_up (mx_up g 99 0 0) 99 0 k) := by
      have q := qy_bad (S := [39, 45, 46, 47, 130, 131, 132, 133, 179]) (F := [0, 50, 54]) (Ch.rf g) (fun z => z) (by decide) k (by omega)
      exact ⟨q.1, w1.fr (ch_bad g k) (by decide) (by decide), q.2⟩
    refine zX12_said ?_
    intro g1 e1
    have rb1 : ReB g g1 := by rw [e1]; exact rb.fr (ch_0 g 0) (by decide) (by decide)
    rw [← e1] at bad
    refine sX12_isBrokerC rb1 wB ha ?_
    first | with_reducible refine b_eq (fun y1 => ?_) (fun y1 => ?_) | with_reducible refine b_ne (fun y1 => ?_) (fun y1 => ?_)
    · rcases hk with ⟨rfl, _⟩ | ⟨rfl, h, _⟩
      · exact zX12_said_21 (sX12_fails bad)
      · exact absurd h.1 y1
    · refine sX12_isBrokerC rb1 wB hb ?_
      first | with_reducible refine b_eq (fun y2 => ?_) (fun y2 => ?_) | with_reducible refine b_ne (fun y2 => ?_) (fun y2 => ?_)
      · rcases hk with ⟨rfl, h⟩ | ⟨rfl, h, h'⟩
        · exact absurd ⟨y1, y2⟩ h
        · refine sX12_isCoin hc ?_
          first | with_reducible refine b_eq (fun y3 => ?_) (fun y3 => ?_) | with_reducible refine b_ne (fun y3 => ?_) (fun y3 => ?_)
          · exact zX12_said_48 (sX12_fails bad)
          · refine sX12_withinW (by omega) (by omega) (by omega) ?_
            first | with_reducible refine b_eq (fun y4 => ?_) (fun y4 => ?_) | with_reducible refine b_ne (fun y4 => ?_) (fun y4 => ?_)
            · exact absurd ⟨y3, y4⟩ h'
            · exact zX12_said_48 (sX12_fails bad)
      · rcases hk with ⟨rfl, _⟩ | ⟨rfl, h, _⟩
        · exact zX12_said_21 (sX12_fails bad)
        · exact absurd h.2 y2
  refine wL_said (zX11_said (sX11_isBroker ha hn ?_))
  first | with_reducible refine b_eq (fun h1 => ?_) (fun h1 => ?_) | with_reducible refine b_ne (fun h1 => ?_) (fun h1 => ?_)
  · exact zX11_said_20 (zX11_said_21 ⟨by decide, by decide, nF_f (Or.inl ⟨rfl, ref 1 (Or.inl ⟨rfl, fun z => h1 z.1⟩)⟩)⟩)
  refine sX11_isBroker hb hn ?_
  first | with_reducible refine b_eq (fun h2 => ?_) (fun h2 => ?_) | with_reducible refine b_ne (fun h2 => ?_) (fun h2 => ?_)
  · exact zX11_said_20 (zX11_said_21 ⟨by decide, by decide, nF_f (Or.inl ⟨rfl, ref 1 (Or.inl ⟨rfl, fun z => h2 z.2⟩)⟩)⟩)
  refine zX11_said_21 ⟨by decide, by decide, nF_t (sX11_isCoin hc ?_)⟩
  first | with_reducible refine b_eq (fun h3 => ?_) (fun h3 => ?_) | with_reducible refine b_ne (fun h3 => ?_) (fun h3 => ?_)
  · exact zX11_said_47 (zX11_said_48 ⟨by decide, by decide, nA_f (Or.inr ⟨rfl, ref 2 (Or.inr ⟨rfl, ⟨h1, h2⟩, fun z => h3 z.1⟩)⟩)⟩)
  refine sX11_within hx (by omega) (by omega) ?_
  first | with_reducible refine b_eq (fun h4 => ?_) (fun h4 => ?_) | with_reducible refine b_ne (fun h4 => ?_) (fun h4 => ?_)
  · exact zX11_said_47 (zX11_said_48 ⟨by decide, by decide, nA_f (Or.inr ⟨rfl, ref 2 (Or.inr ⟨rfl, ⟨h1, h2⟩, fun z => h4 z.2⟩)⟩)⟩)
  obtain ⟨nt, al, tw, e36, wk1, wk2⟩ := w.txw
  obtain ⟨A, eA⟩ := Int.eq_ofNat_of_zero_le h1.1
  obtain ⟨B, eB⟩ := Int.eq_ofNat_of_zero_le h2.1
  obtain ⟨s, es⟩ := Int.eq_ofNat_of_zero_le h4.1
  subst eA eB es
  have ra := wB.2.1 A (by omega)
  have w0 := wf.1
  obtain ⟨town, et⟩ := Int.eq_ofNat_of_zero_le ra.1.1
  obtain ⟨dy, ed⟩ := Int.eq_ofNat_of_zero_le w0.1
  refine zX11_said_48 ⟨by decide, by decide, nA_t ?_⟩
  refine sX3_ask (d := d + 2) wf wB tw (by omega) (by omega) et ed (by omega) (by omega) wk2 (fun g1 c1 p3 v1 v2 => ?_)
  obtain ⟨r, er⟩ : ∃ r, r = askP (nmF g A B n coin) (cnF al (fC g al nt town dy)) (fC g al nt town dy).length s (fC g al nt town dy).length := ⟨_, rfl⟩
  rw [← er]
  obtain ⟨gc, egc⟩ : ∃ gc, gc = mx_up g1 179 0 (w32 r) := ⟨_, rfl⟩
  rw [← egc]
  have cc : Ch [39, 45, 46, 47, 179] [] g gc := by rw [egc]; exact (c1.sub (by decide) (by decide)).up (by decide) (by decide)
  refine zX12_said ?_
  intro g2 e2
  have c2 : Ch [39, 45, 46, 47, 179] [0] g g2 := by rw [e2]; exact (cc.sub (by decide) (by decide)).up9 (by decide)
  have rb2 : ReB g g2 := rb.fr c2 (by decide) (by decide)
  have rl2 : ReL g g2 := rl.fr c2 (by decide) (by decide)
  refine sX12_isBrokerC rb2 wB ha ?_
  first | with_reducible refine b_eq (fun y1 => ?_) (fun y1 => ?_) | with_reducible refine b_ne (fun y1 => ?_) (fun y1 => ?_)
  · exact absurd h1 y1
  · refine sX12_isBrokerC rb2 wB hb ?_
    first | with_reducible refine b_eq (fun y2 => ?_) (fun y2 => ?_) | with_reducible refine b_ne (fun y2 => ?_) (fun y2 => ?_)
    · refine sX12_isCoin hc ?_
      first | with_reducible refine b_eq (fun y3 => ?_) (fun y3 => ?_) | with_reducible refine b_ne (fun y3 => ?_) (fun y3 => ?_)
      · exact absurd h3 y3
      · refine sX12_withinW (by omega) (by omega) (by omega) ?_
        first | with_reducible refine b_eq (fun y4 => ?_) (fun y4 => ?_) | with_reducible refine b_ne (fun y4 => ?_) (fun y4 => ?_)
        · refine sX12_asks (d := d + 4) (c := g) wf rl2 wB rb2 tw (by rw [c2.2 36 (by decide)]; exact e36) (fun q hq => c2.1 q (by simp at hq ⊢; omega) (by simp at hq; omega)) (by omega) (by omega) et ed (fun g3 c3 v3 => ?_)
          refine s_inN ?_ (fun ea => ?_)
          · omega
          try simp only [ea]
          clear ea
          rw [v3 s (by omega), ← er]
          have c4 : Ch [39, 45, 46, 47, 130, 131, 132, 133, 179] [0, 50, 54] g g3 := (c2.sub (by decide) (by decide)).tr (c3.sub (by decide) (by decide))
          have q39 : g3 39 = g1 39 := by rw [c3.1 39 (by decide) (by decide), e2, up_at, if_neg (by decide), egc, up_at, if_neg (by decide)]
          have q46 : g3 46 = g1 46 := by rw [c3.1 46 (by decide) (by decide), e2, up_at, if_neg (by decide), egc, up_at, if_neg (by decide)]
          refine ⟨⟨by omega, ?_, fun _ => ?_⟩, ?_, c4, fun z => z.fr c4 (by decide)⟩
          · rw [c3.2 0 (by decide), e2, up_s]
          · rw [c3.1 179 (by decide) (by decide), e2, up_q (by decide), egc, up_s]
          · exact w1.walk c4 (by decide) (by decide) (by rw [q39]; exact p3) (by rw [q39, v1]; omega) (by rw [q39, q46]; exact v2)
        · exact absurd h4 y4
    · exact absurd h2 y2
