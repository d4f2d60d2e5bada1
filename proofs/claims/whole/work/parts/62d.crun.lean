/-! a run: the reference, the call -/
theorem encL {c r : mz_S} (rl : ReL c r) (wl : WfL0 c) (wb : WfB c) {b k : Nat} (hb : b < 12) (hk : k < 12) : (ruG c b k = -1 ∧ r 101 (c 10 b * 8 + c 10 k).toNat = 1000000) ∨ (0 ≤ ruG c b k ∧ ruG c b k ≤ 9999 ∧ r 101 (c 10 b * 8 + c 10 k).toNat = ruG c b k) := by
  have ra := wb.2.1 b hb
  have rk := wb.2.1 k hk
  exact rl.lag wl (i := (c 10 b * 8 + c 10 k).toNat) (by omega)
theorem sX12_run_at {T : Nat × (Nat → Int32)} {d : Nat} {Q : mz_K} {X : mz_X} {g : mz_S} {c : mz_S} {b m D : Nat} {x3 : Int} {v : Int} {L : List Nat} {o8 o9 : Option mx_v} (wl : WfL0 c) (wb : WfB c) (w : WfG c) (em : c 9 1 = (m : Int)) (h10 : g 99 10 = (m : Int)) (rl : ReL c g) (h106 : ∀ j, j < 12 → g 106 j = c 10 j) (hb : b < 12) (h168 : ∀ x ∈ L, g 168 x = claimC c b x) (hL : ∀ x ∈ L, x < m ∧ 0 ≤ ruG c b x) (pw : L.Pairwise (ruB (ruG c b))) : ∀ (left x4 : Int), (0 ≤ left ∧ left ≤ 400000000) → StP v (fun x => x ∈ L) → Q (ruS (claimC c b) L left) g → aX12_run T (d + 1) Q X 135 [some (mx_R 99), some (mx_I (b : Int)), some (mx_I (D : Int)), some (mx_I x3), some (mx_I x4), some (mx_J left), none, some (mx_I v), o8, o9] [] g (0, 0) := by
  have hw := wb.1
  have ra := wb.2.1 b hb
  induction L generalizing v o8 o9 with
  | nil =>
    intro left x4 hl hv kk
    refine zX12_run_135 ?_
    rw [w32_0]
    refine ⟨fun _ => kk, fun z => absurd (hv.nz.mpr (fun i _ => List.not_mem_nil)) z⟩
  | cons f L ih =>
    intro left x4 hl hv kk
    have hf := hL f (List.mem_cons_self ..)
    obtain ⟨p1, p2⟩ := List.pairwise_cons.mp pw
    have bnf := claimC_bnd wl w (a := b) (b := f) hb (by omega)
    have efr := h168 f (List.mem_cons_self ..)
    refine zX12_run_135 ?_
    rw [w32_0]
    refine ⟨fun z => absurd (List.mem_cons_self ..) (hv.nz.mp z f (by omega)), fun _ => ?_⟩
    -- the least of those that are left
    have scan : ∀ n t : Nat, t + n = m → ∀ x8 : Int, ((f < t ∧ x8 = (f : Int)) ∨ (t ≤ f ∧ ((x8 = -1 ∧ ∀ j ∈ f :: L, t ≤ j) ∨ ∃ j, j ∈ L ∧ j < t ∧ x8 = (j : Int)))) → aX12_run T (d + 1) Q X 146 [some (mx_R 99), some (mx_I (b : Int)), some (mx_I (D : Int)), some (mx_I x3), some (mx_I x4), some (mx_J left), none, some (mx_I v), some (mx_I x8), some (mx_I (t : Int))] [] g (0, 0) := by
      intro n
      induction n with
      | zero =>
        intro t ht x8 h8
        refine zX12_run_146 ?_
        rw [h10]
        first | with_reducible refine c_lt ?_ ?_ (fun z => ?_) (fun z => ?_) | with_reducible refine c_le ?_ ?_ (fun z => ?_) (fun z => ?_) | with_reducible refine c_eq ?_ ?_ (fun z => ?_) (fun z => ?_) | with_reducible refine c_ne ?_ ?_ (fun z => ?_) (fun z => ?_)
        · omega
        · omega
        · have e8 : x8 = (f : Int) := by
            rcases h8 with h | h
            · exact h.2
            · omega
          subst e8
          refine s_inN ?_ (fun ea => ?_)
          · omega
          try simp only [ea]
          clear ea
          rw [efr]
          have kk : Q (if left - claimC c b f < 0 then (f : Int) else ruS (claimC c b) L (left - claimC c b f)) g := kk
          rw [lc_le, w64_of (n := claimC c b f) (by omega) (by omega), w64_of (n := left) (by omega) (by omega)]
          refine ⟨fun z2 => ?_, fun z2 => ?_⟩
          · refine s_inN ?_ (fun ea => ?_)
            · omega
            try simp only [ea]
            clear ea
            rw [if_neg (by omega)] at kk
            refine ih (fun x hx => h168 x (List.mem_cons_of_mem _ hx)) (fun x hx => hL x (List.mem_cons_of_mem _ hx)) p2 (left - claimC c b f) x4 (by omega) ((hv.xor (k := f) (by omega) (List.mem_cons_self ..)).cg (fun i hi => ?_)) kk
            rw [List.mem_cons]
            constructor
            · rintro ⟨x1 | x1, x2⟩
              · exact absurd x1 x2
              · exact x1
            · intro x1
              refine ⟨Or.inr x1, fun e => ?_⟩
              subst e
              have := p1 _ x1
              unfold ruB at this
              omega
          · rw [if_pos (by omega)] at kk
            exact kk
        · omega
      | succ n ih2 =>
        intro t ht x8 h8
        refine zX12_run_146 ?_
        rw [h10]
        have nx : ∀ x8 : Int, ((f < t + 1 ∧ x8 = (f : Int)) ∨ (t + 1 ≤ f ∧ ((x8 = -1 ∧ ∀ j ∈ f :: L, t + 1 ≤ j) ∨ ∃ j, j ∈ L ∧ j < t + 1 ∧ x8 = (j : Int)))) → aX12_run T (d + 1) Q X 223 [some (mx_R 99), some (mx_I (b : Int)), some (mx_I (D : Int)), some (mx_I x3), some (mx_I x4), some (mx_J left), none, some (mx_I v), some (mx_I x8), some (mx_I (t : Int))] [] g (0, 0) := by
          intro x8 h8
          refine zX12_run_223 ?_
          rw [show (t : Int) + 1 = ((t + 1 : Nat) : Int) by omega]
          exact ih2 (t + 1) (by omega) x8 h8
        have hvt := hv t (by omega)
        first | with_reducible refine c_lt ?_ ?_ (fun z => ?_) (fun z => ?_) | with_reducible refine c_le ?_ ?_ (fun z => ?_) (fun z => ?_) | with_reducible refine c_eq ?_ ?_ (fun z => ?_) (fun z => ?_) | with_reducible refine c_ne ?_ ?_ (fun z => ?_) (fun z => ?_)
        · omega
        · omega
        · omega
        · rw [zb_holds (by omega)]
          by_cases hin : t ∈ f :: L
          · rw [show bI (zb v t) = 1 by rw [hvt.mpr hin]; rfl]
            refine ⟨fun z2 => absurd rfl z2, fun _ => ?_⟩
            have r8 : x8 = -1 ∨ ∃ j, j ∈ f :: L ∧ j < t ∧ x8 = (j : Int) := by
              rcases h8 with ⟨h, e⟩ | ⟨_, ⟨e, _⟩ | ⟨j, h1, h2, e⟩⟩
              · exact Or.inr ⟨f, List.mem_cons_self .., h, e⟩
              · exact Or.inl e
              · exact Or.inr ⟨j, List.mem_cons_of_mem _ h1, h2, e⟩
            have taken : (¬ f < t) → aX12_run T (d + 1) Q X 219 [some (mx_R 99), some (mx_I (b : Int)), some (mx_I (D : Int)), some (mx_I x3), some (mx_I x4), some (mx_J left), none, some (mx_I v), some (mx_I x8), some (mx_I (t : Int))] [] g (0, 0) := by
              intro hft
              refine zX12_run_219 (nx _ ?_)
              by_cases e : t = f
              · exact Or.inl ⟨by omega, by rw [e]⟩
              · refine Or.inr ⟨by omega, Or.inr ⟨t, ?_, by omega, rfl⟩⟩
                rcases List.mem_cons.mp hin with y | y
                · exact absurd y e
                · exact y
            have tm := hL t hin
            rcases r8 with e8 | ⟨j, hj, hjt, e8⟩
            · subst e8
              refine ⟨fun _ => taken (fun q => ?_), fun z2 => absurd rfl z2⟩
              rcases h8 with ⟨_, e⟩ | ⟨h, _⟩ <;> omega
            · have jm := hL j hj
              subst e8
              first | with_reducible refine c_lt ?_ ?_ (fun z2 => ?_) (fun z2 => ?_) | with_reducible refine c_le ?_ ?_ (fun z2 => ?_) (fun z2 => ?_) | with_reducible refine c_eq ?_ ?_ (fun z2 => ?_) (fun z2 => ?_) | with_reducible refine c_ne ?_ ?_ (fun z2 => ?_) (fun z2 => ?_)
              · omega
              · omega
              · omega
              · have Lt := encL rl wl wb hb (show t < 12 by omega)
                have Lj := encL rl wl wb hb (show j < 12 by omega)
                have rt := wb.2.1 t (by omega)
                have rj := wb.2.1 j (by omega)
                refine s_inN ?_ (fun ea => ?_)
                · omega
                try simp only [ea]
                clear ea
                refine s_inN ?_ (fun ea => ?_)
                · omega
                try simp only [ea]
                clear ea
                rw [h106 b hb, h106 t (by omega), show 8 * c 10 b + c 10 t = c 10 b * 8 + c 10 t by omega]
                refine s_in (by omega) (fun ea => ?_)
                rw [ea]
                refine s_inN ?_ (fun ea => ?_)
                · omega
                try simp only [ea]
                clear ea
                refine s_inN ?_ (fun ea => ?_)
                · omega
                try simp only [ea]
                clear ea
                rw [h106 j (by omega), show 8 * c 10 b + c 10 j = c 10 b * 8 + c 10 j by omega]
                refine s_in (by omega) (fun eb => ?_)
                rw [eb]
                first | with_reducible refine c_lt ?_ ?_ (fun z3 => ?_) (fun z3 => ?_) | with_reducible refine c_le ?_ ?_ (fun z3 => ?_) (fun z3 => ?_) | with_reducible refine c_eq ?_ ?_ (fun z3 => ?_) (fun z3 => ?_) | with_reducible refine c_ne ?_ ?_ (fun z3 => ?_) (fun z3 => ?_)
                · omega
                · omega
                · -- stays
                  refine nx _ ?_
                  rcases h8 with ⟨h, e⟩ | ⟨h, ⟨e, _⟩ | ⟨j', h1, h2, e⟩⟩
                  · exact Or.inl ⟨by omega, e⟩
                  · omega
                  · by_cases e2 : t = f
                    · subst e2
                      have := p1 j' h1
                      unfold ruB at this
                      have ej : j' = j := by omega
                      subst ej
                      omega
                    · exact Or.inr ⟨by omega, Or.inr ⟨j', h1, by omega, e⟩⟩
                · refine taken (fun q => ?_)
                  rcases h8 with ⟨h, e⟩ | ⟨h, _⟩
                  · have ej : j = f := by omega
                    subst ej
                    rcases List.mem_cons.mp hin with y | y
                    · omega
                    · have := p1 t y
                      unfold ruB at this
                      omega
                  · omega
          · rw [show bI (zb v t) = 0 by
              cases hz : zb v t with
              | true => exact absurd (hvt.mp hz) hin
              | false => rfl]
            refine ⟨fun _ => nx _ ?_, fun z2 => absurd (by decide) z2⟩
            rcases h8 with ⟨h, e⟩ | ⟨h, ⟨e, e2⟩ | ⟨j, h1, h2, e⟩⟩
            · exact Or.inl ⟨by omega, e⟩
            · have : t ≠ f := fun y => hin (y ▸ List.mem_cons_self ..)
              refine Or.inr ⟨by omega, Or.inl ⟨e, fun j hj => ?_⟩⟩
              have := e2 j hj
              by_cases y : j = t
              · subst y; exact absurd hj hin
              · omega
            · have : t ≠ f := fun y => hin (y ▸ List.mem_cons_self ..)
              exact Or.inr ⟨by omega, Or.inr ⟨j, h1, by omega, e⟩⟩
    exact scan m 0 (by omega) (-1) (Or.inr ⟨by omega, Or.inl ⟨rfl, fun j _ => by omega⟩⟩)
theorem C_run {T : Nat × (Nat → Int32)} {d : Nat} {X X' : mz_X} {g : mz_S} {b days x : Int} (wl : IL g) (wc : WfC g) (wb : IB g) (we : IE g) (hb : R32 b) (hd : R32 days) (hx : R32 x) : zC T (d + 8) 386 [mx_R 0, mx_I b, mx_I days, mx_I x, mx_R 179] g (fun kk g1 => zC T (d + 8) 321 [mx_R 99, mx_I b, mx_I days, mx_I x] g1 (fun r g2 => AnsI kk r g2 ∧ Qy [8, 168, 179] [0] g g2) X') X := by
  have hw := wb.1.1
  have wB := wb.1
  have bad : ∀ n : Int, 1 ≤ n ∧ n ≤ 3 → AnsI n 0 (mx_up (mx_up g 99 0 0) 99 0 n) ∧ Qy [8, 168, 179] [0] g (mx_up (mx_up g 99 0 0) 99 0 n) := fun n hn => qy_bad (Ch.rf g) (fun z => z) (by decide) n hn
  have no : ∀ k : Int, (k = 1 ∧ ¬ (0 ≤ b ∧ b ≤ g 9 1 - 1)) ∨ (k = 2 ∧ (0 ≤ b ∧ b ≤ g 9 1 - 1) ∧ ¬ ((0 ≤ days ∧ days ≤ 100) ∧ (0 ≤ x ∧ x ≤ 1))) → zC T (d + 8) 321 [mx_R 99, mx_I b, mx_I days, mx_I x] g (fun r g2 => AnsI k r g2 ∧ Qy [8, 168, 179] [0] g g2) X' := by
    intro k hk
    have bad := bad k (by omega)
    refine zX12_run ?_
    intro g2 e2
    have rb := wb.2.1.fr (ch_0 g 0) (S := []) (F := [0]) (by decide) (by decide)
    rw [← e2] at rb bad
    refine sX12_isBrokerC rb wB hb ?_
    first | with_reducible refine b_eq (fun y1 => ?_) (fun y1 => ?_) | with_reducible refine b_ne (fun y1 => ?_) (fun y1 => ?_)
    · refine sX12_withinW (by omega) (by omega) (by omega) ?_
      have k2 : k = 2 := by omega
      subst k2
      first | with_reducible refine b_eq (fun y2 => ?_) (fun y2 => ?_) | with_reducible refine b_ne (fun y2 => ?_) (fun y2 => ?_)
      · exact zX12_run_41 (sX12_fails bad)
      · refine sX12_withinW (by omega) (by omega) (by omega) ?_
        first | with_reducible refine b_eq (fun y3 => ?_) (fun y3 => ?_) | with_reducible refine b_ne (fun y3 => ?_) (fun y3 => ?_)
        · exact (show False by omega).elim
        · exact zX12_run_41 (sX12_fails bad)
    · have k1 : k = 1 := by omega
      subst k1
      exact sX12_fails bad
  refine wL_run (zX11_run (sX11_isBroker hb hw ⟨by decide, by decide, sX11_needFound (fun h1 => sX11_within hd (by omega) (by omega) ?_) (fun h1 => Or.inl ⟨rfl, no 1 (Or.inl ⟨rfl, h1⟩)⟩)⟩))
  first | with_reducible refine b_eq (fun h2 => ?_) (fun h2 => ?_) | with_reducible refine b_ne (fun h2 => ?_) (fun h2 => ?_)
  · exact zX11_run_31 (zX11_run_32 ⟨by decide, by decide, nA_f (Or.inr ⟨rfl, no 2 (Or.inr ⟨rfl, h1, fun z => h2 z.1⟩)⟩)⟩)
  refine sX11_within hx (by omega) (by omega) ?_
  first | with_reducible refine b_eq (fun h3 => ?_) (fun h3 => ?_) | with_reducible refine b_ne (fun h3 => ?_) (fun h3 => ?_)
  · exact zX11_run_31 (zX11_run_32 ⟨by decide, by decide, nA_f (Or.inr ⟨rfl, no 2 (Or.inr ⟨rfl, h1, fun z => h3 z.2⟩)⟩)⟩)
  refine zX11_run_32 ⟨by decide, by decide, nA_t ?_⟩
  obtain ⟨B, rfl⟩ := Int.eq_ofNat_of_zero_le h1.1
  obtain ⟨D, rfl⟩ := Int.eq_ofNat_of_zero_le h2.1
  obtain ⟨m, em⟩ := Int.eq_ofNat_of_zero_le hw.1
  have hB : B < 12 := by omega
  have hD : D ≤ 100 := by omega
  have gr : ∀ y, y < m → -1 ≤ ruG g B y ∧ ruG g B y ≤ 9999 := fun y hy => ruG_rng wl.1 wb.1 hB (by omega)
  have bd := dworthC_bnd wl.1 wb.1 hB
  -- the reference
  have ref : ∀ G1 v0, Sm8 g G1 → WfL G1 → ((x = 0 → ∀ v, StP v (fun y => y < m ∧ ruP g B (D : Int) y) → w32 v0 = w32 v) ∧ (¬ x = 0 → v0 = ruS (claimC g B) (ruO (ruP g B (D : Int)) (ruG g B) m 0 (D + 1)) (dworthC g B))) → zC T (d + 8) 321 [mx_R 99, mx_I (B : Int), mx_I (D : Int), mx_I x] (mx_up G1 179 0 (w32 v0)) (fun r g2 => AnsI 0 r g2 ∧ Qy [8, 168, 179] [0] g g2) X' := by
    intro G1 v0 s1 w1 hv0
    refine zX12_run ?_
    intro g2 e2
    have c2 : Ch [8, 179] [0] g g2 := by rw [e2]; exact (((s1.ch (F := [])).sub (by decide) (by decide)).up (by decide) (by decide)).up9 (by decide)
    have q8 : g2 8 = G1 8 := by rw [e2, up_at, if_neg (by decide), up_at, if_neg (by decide)]
    have rb := wb.2.1.fr c2 (by decide) (by decide)
    have rl := wl.2.2.1.fr c2 (by decide) (by decide)
    have re := we.2.2.1.fr c2 (by decide) (by decide)
    refine sX12_isBrokerC rb wB hb ?_
    first | with_reducible refine b_eq (fun y1 => ?_) (fun y1 => ?_) | with_reducible refine b_ne (fun y1 => ?_) (fun y1 => ?_)
    rotate_left
    · exact absurd h1 y1
    refine sX12_withinW (by omega) (by omega) (by omega) ?_
    first | with_reducible refine b_eq (fun y2 => ?_) (fun y2 => ?_) | with_reducible refine b_ne (fun y2 => ?_) (fun y2 => ?_)
    · exact absurd h2 y2
    refine sX12_withinW (by omega) (by omega) (by omega) ?_
    first | with_reducible refine b_eq (fun y3 => ?_) (fun y3 => ?_) | with_reducible refine b_ne (fun y3 => ?_) (fun y3 => ?_)
    rotate_left
    · exact absurd h3 y3
    refine sX12_standingOnes (c := g) (d := d + 5) wB rb (fun n hn hbits => ?_)
    have hst : StP (n : Int) (fun i => (i : Int) < g 9 1 ∧ g 13 i = -1) := fun i hi => by
      rw [zb_nat (by omega), hbits i, decide_eq_true_iff]
    refine sX12_creditors (c := g) (d := d + 1) (m := m) wl.1 wB we.1 we.2.1 rl rb re em hB hst (fun G3 v c3 h168 hv => ?_)
    have c4 : Ch [8, 168, 179] [0] g G3 := (c2.sub (by decide) (by decide)).tr (c3.sub (by decide) (by decide))
    have fin : ∀ r, w32 r = w32 v0 → AnsI 0 r G3 ∧ Qy [8, 168, 179] [0] g G3 := fun r hr => ⟨⟨by omega, by rw [c3.2 0 (by decide), e2, up_s], fun _ => by rw [c3.1 179 (by decide) (by decide), e2, up_q (by decide), up_s, hr]⟩, c4, fun _ => w1.2.cg (fun q hq => by
      by_cases z : q = 8
      · subst z; rw [c3.1 8 (by decide) (by decide), q8]
      · rw [c4.1 q (by simp at hq ⊢; omega) (by simp at hq; omega)]
        exact (s1 q z).symm) (by rw [c4.1 1 (by decide) (by decide), s1 1 (by decide)]) (by rw [c4.1 1 (by decide) (by decide), s1 1 (by decide)])⟩
    have h10 : G3 99 10 = (m : Int) := by rw [c4.2 10 (by decide), wb.2.1.1, em]
    have rl3 := rl.fr c3 (by decide) (by decide)
    have h106 : ∀ j, j < 12 → G3 106 j = g 10 j := fun j hj => by rw [c4.1 106 (by decide) (by decide)]; exact (wb.2.1.2.1 j hj).1
    have rB := wB.2.1 B hB
    have far : ∀ n t : Nat, t + n = m → ∀ v, StP v (fun y => y < m ∧ y ≠ B ∧ ((y : Int) < g 9 1 ∧ g 13 y = -1) ∧ 0 < claimC g B y ∧ (y < t → ¬ ruG g B y = -1 ∧ ruG g B y ≤ (D : Int))) → aX12_run T (d + 7) (fun r g2 => AnsI 0 r g2 ∧ Qy [8, 168, 179] [0] g g2) X' 61 [some (mx_R 99), some (mx_I (B : Int)), some (mx_I (D : Int)), some (mx_I x), some (mx_I v), some (mx_I (t : Int)), none, none, none, none] [] G3 (0, 0) := by
      intro n
      induction n with
      | zero =>
        intro t ht v hv
        have tm : t = m := by omega
        have hvP : StP v (fun y => y < m ∧ ruP g B (D : Int) y) := hv.cg (fun i hi => by
          constructor
          · rintro ⟨x1, x2, x3, x4, x5⟩
            have := x5 (by omega)
            exact ⟨x1, x3.2, x4, this.1, this.2⟩
          · rintro ⟨x1, x2, x3, x4, x5⟩
            refine ⟨x1, fun e => ?_, ⟨by omega, x2⟩, x3, fun _ => ⟨x4, x5⟩⟩
            subst e
            rw [claim_self we hB] at x3
            omega)
        refine zX12_run_61 ?_
        rw [h10]
        first | with_reducible refine c_lt ?_ ?_ (fun z => ?_) (fun z => ?_) | with_reducible refine c_le ?_ ?_ (fun z => ?_) (fun z => ?_) | with_reducible refine c_eq ?_ ?_ (fun z => ?_) (fun z => ?_) | with_reducible refine c_ne ?_ ?_ (fun z => ?_) (fun z => ?_)
        · omega
        · omega
        · first | with_reducible refine c_lt ?_ ?_ (fun z2 => ?_) (fun z2 => ?_) | with_reducible refine c_le ?_ ?_ (fun z2 => ?_) (fun z2 => ?_) | with_reducible refine c_eq ?_ ?_ (fun z2 => ?_) (fun z2 => ?_) | with_reducible refine c_ne ?_ ?_ (fun z2 => ?_) (fun z2 => ?_)
          · omega
          · omega
          · refine sX12_estateOf (c := g) (d := d + 3) wl.1 wB rl3 (rb.fr c3 (by decide) (by decide)) hB ?_
            refine sX12_run_at (c := g) (d := d + 6) (m := m) (D := D) (L := ruO (ruP g B (D : Int)) (ruG g B) m 0 (D + 1)) wl.1 wB we.1 em h10 rl3 h106 hB (fun y hy => ?_) (fun y hy => ?_) (ruO_pw _ _) (dworthC g B) v bd (hvP.cg (fun i hi => ?_)) (fin _ (by rw [hv0.2 z2]))
            · have := (ruO_mem _ _).mp hy
              refine (h168 y this.1).1 ⟨fun e => ?_, by omega, this.2.1.1⟩
              have := this.2.1.2.1
              rw [e, claim_self we hB] at this
              omega
            · have := (ruO_mem _ _).mp hy
              exact ⟨this.1, by omega⟩
            · rw [ruO_mem]
              constructor
              · rintro ⟨x1, x2⟩
                have := gr i x1
                refine ⟨x1, x2, ?_, ?_⟩ <;> omega
              · rintro ⟨x1, x2, _⟩; exact ⟨x1, x2⟩
          · exact fin _ (hv0.1 (by omega) v hvP).symm
        · omega
      | succ n ih =>
        intro t ht v hv
        have rt := wB.2.1 t (by omega)
        have Lt := encL rl3 wl.1 wB hB (show t < 12 by omega)
        refine zX12_run_61 ?_
        rw [h10]
        first | with_reducible refine c_lt ?_ ?_ (fun z => ?_) (fun z => ?_) | with_reducible refine c_le ?_ ?_ (fun z => ?_) (fun z => ?_) | with_reducible refine c_eq ?_ ?_ (fun z => ?_) (fun z => ?_) | with_reducible refine c_ne ?_ ?_ (fun z => ?_) (fun z => ?_)
        · omega
        · omega
        · omega
        · refine s_inN ?_ (fun ea => ?_)
          · omega
          try simp only [ea]
          clear ea
          refine s_inN ?_ (fun ea => ?_)
          · omega
          try simp only [ea]
          clear ea
          rw [h106 B hB, h106 t (by omega), show 8 * g 10 B + g 10 t = g 10 B * 8 + g 10 t by omega]
          refine s_in (by omega) (fun ea => ?_)
          rw [ea]
          have nx : ∀ v2, StP v2 (fun y => y < m ∧ y ≠ B ∧ ((y : Int) < g 9 1 ∧ g 13 y = -1) ∧ 0 < claimC g B y ∧ (y < t + 1 → ¬ ruG g B y = -1 ∧ ruG g B y ≤ (D : Int))) → ∀ s1, mx_iand v s1 = v2 → aX12_run T (d + 7) (fun r g2 => AnsI 0 r g2 ∧ Qy [8, 168, 179] [0] g g2) X' 108 [some (mx_R 99), some (mx_I (B : Int)), some (mx_I (D : Int)), some (mx_I x), some (mx_I v), some (mx_I (t : Int)), none, none, none, none] [mx_I s1, mx_I v] G3 (0, 0) := by
            intro v2 h2 s1 e1
            refine zX12_run_108 ?_
            rw [e1, show (t : Int) + 1 = ((t + 1 : Nat) : Int) by omega]
            exact ih (t + 1) (by omega) v2 h2
          first | with_reducible refine c_lt ?_ ?_ (fun z2 => ?_) (fun z2 => ?_) | with_reducible refine c_le ?_ ?_ (fun z2 => ?_) (fun z2 => ?_) | with_reducible refine c_eq ?_ ?_ (fun z2 => ?_) (fun z2 => ?_) | with_reducible refine c_ne ?_ ?_ (fun z2 => ?_) (fun z2 => ?_)
          · omega
          · omega
          · refine nx _ ((hv.minus (k := t) (by omega)).cg (fun i hi => ?_)) _ rfl
            constructor
            · rintro ⟨⟨x1, x2, x3, x4, x5⟩, x6⟩
              exact ⟨x1, x2, x3, x4, fun y => x5 (by omega)⟩
            · rintro ⟨x1, x2, x3, x4, x5⟩
              refine ⟨⟨x1, x2, x3, x4, fun y => x5 (by omega)⟩, fun e => ?_⟩
              subst e
              have := x5 (by omega)
              omega
          · refine nx (mx_iand v (-1)) (fun i hi => ?_) _ rfl
            rw [zb_iand, zb_m1 i hi, Bool.and_true, hv i hi]
            constructor
            · rintro ⟨x1, x2, x3, x4, x5⟩
              refine ⟨x1, x2, x3, x4, fun y => ?_⟩
              by_cases e : i = t
              · subst e; omega
              · exact x5 (by omega)
            · rintro ⟨x1, x2, x3, x4, x5⟩
              exact ⟨x1, x2, x3, x4, fun y => x5 (by omega)⟩
    exact far m 0 (by omega) v (hv.cg (fun i hi => ⟨fun q => ⟨q.1, q.2.1, q.2.2.1, q.2.2.2, fun y => absurd y (Nat.not_lt_zero _)⟩, fun q => ⟨q.1, q.2.1, q.2.2.1, q.2.2.2.1⟩⟩))
  first | with_reducible refine c_lt ?_ ?_ (fun z => ?_) (fun z => ?_) | with_reducible refine c_le ?_ ?_ (fun z => ?_) (fun z => ?_) | with_reducible refine c_eq ?_ ?_ (fun z => ?_) (fun z => ?_) | with_reducible refine c_ne ?_ ?_ (fun z => ?_) (fun z => ?_)
  · omega
  · omega
  · refine sX4_firstUnpaid (d := d) (m := m) ⟨wl.1, wc⟩ wB we.1 em hB hD (fun G1 s1 w1 => zX11_run_60 (ref G1 _ s1 w1 ⟨fun q => absurd q z, fun _ => rfl⟩))
  · refine sX4_comers (d := d + 1) (m := m) ⟨wl.1, wc⟩ wB we.1 em hB (by omega) (fun G1 v s1 w1 hv => zX11_run_60 (ref G1 _ s1 w1 ⟨fun _ v' hv' => hv.ext hv', fun q => absurd (by omega) q⟩))
