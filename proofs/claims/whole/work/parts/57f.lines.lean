/-! lines on both sides -/
theorem rStand {T : Nat × (Nat → Int32)} {d : Nat} {Q : mz_K} {X : mz_X} {g G : mz_S} {nt town day : Nat} {al : Nat → List pA} (h : TxW g nt al) (h36 : G 99 36 = (nt : Int)) (e : ∀ q ∈ [120, 121, 122, 124, 125, 126], G q = g q) (hw : town < 32) (hd : day ≤ 999) (k : ∀ G', Ch [130] [50] G G' → LR G' (cnF al (fC g al nt town day)) (fC g al nt town day).length → (∀ p, p < (fC g al nt town day).length → G' 130 p = ((24 * ((fC g al nt town day).getD p (0, 0)).1 + ((fC g al nt town day).getD p (0, 0)).2 : Nat) : Int)) → Q 0 G') : zC T (d + 1) 266 [mx_R 99, mx_I (town : Int), mx_I (day : Int)] G Q X := by
  obtain ⟨h1, h2, h3, L, b, h4, h5, h6⟩ := h
  have eF : flat (szA al) (flC (g 40) (upT (g 42) (fun t => zb (G 120 t) town) ((day : Int) + 1) 0) nt) = fC g al nt town day := by
    unfold fC
    rw [flC_cg h3 (P' := stP g town day) (fun t ht => ?_)]
    have tx := h6 t ht
    have e0 : ∀ a b : Bool, (a = true ↔ b = true) → a = b := by decide
    refine e0 _ _ ?_
    rw [upT_iff, e 120 (by decide), tx.2.2.1]
    unfold stP
    rw [Bool.and_eq_true, decide_eq_true_eq]
    constructor
    · rintro ⟨a, b⟩; exact ⟨a, by omega⟩
    · rintro ⟨a, b⟩; exact ⟨a, by omega⟩
  refine sX12_stand (nt := nt) (o := g 40) (since := g 42) (sz := szA al) h3 h36 h1 (fun t ht => ?_) (fun t ht => ?_) hd hw (fun G' hG' => ?_)
  · have tx := h6 t ht
    rw [e 121 (by decide)]
    exact ⟨tx.2.2.2.1, tx.2.1⟩
  · have tx := h6 t ht
    rw [e 122 (by decide)]
    exact ⟨by rw [tx.2.2.2.2.1, tx.2.2.2.2.2.1]; rfl, tx.2.2.2.2.2.2.1⟩
  · rw [eF] at hG'
    refine k G' hG'.1 ⟨hG'.2.1, fun p hp => ?_⟩ hG'.2.2
    have m : (fC g al nt town day).getD p (0, 0) ∈ fC g al nt town day := by
      rw [List.getD_eq_getElem?_getD, List.getElem?_eq_getElem hp]
      exact List.getElem_mem hp
    have mm := flat_mem.mp m
    have tt := (flC_all h3).mp mm.1
    have v := hG'.2.2 p hp
    unfold cnF
    generalize (fC g al nt town day).getD p (0, 0) = x at mm tt v
    have tx := h6 _ tt.1
    have hx : x.2 < (al x.1).length := mm.2
    have h24 := tx.2.2.2.2.2.2.1
    obtain ⟨a, la, _⟩ := tx.2.2.2.2.2.2.2.2.1 x.2 hx
    have q : ∀ q ∈ [124, 125, 126], G' q = g q := fun q hq => by rw [hG'.1.1 q (by simp at hq ⊢; omega) (by simp at hq; omega), e q (by simp at hq ⊢; omega)]
    refine ⟨24 * x.1 + x.2, by omega, v, ?_, ?_, ?_⟩
    · rw [q 125 (by decide)]; exact la.2.2.2.1
    · rw [q 124 (by decide)]; exact la.2.2.2.2.1
    · rw [q 126 (by decide)]; exact la.2.2.2.2.2.1
theorem lines_R {T : Nat × (Nat → Int32)} {d : Nat} {Q : mz_K} {X : mz_X} {g : mz_S} {cn : Nat → pA} {M : Nat} {x1 x2 x3 : Int} {b : Bool} (hw : LnP cn M) (hl : LR g cn M) (hx : R32 x3) (hb : x3 = 0 ↔ b = false) (k : Q (cntV cn M b M : Int) g) : aX12_lines T (d + 1) Q X 54 [some (mx_R 99), some (mx_I x1), some (mx_I x2), some (mx_I x3), some (mx_I 0), some (mx_I 0)] [] g (0, 0) := by
  have hM := hw.1
  have main : ∀ n p : Nat, p + n = M → ∀ x4 : Int, x4 = (cntV cn M b p : Int) → aX12_lines T (d + 1) Q X 54 [some (mx_R 99), some (mx_I x1), some (mx_I x2), some (mx_I x3), some (mx_I x4), some (mx_I (p : Int))] [] g (0, 0) := by
    intro n
    induction n with
    | zero =>
      intro p hp x4 h4
      refine zX12_lines_54 ?_
      rw [hl.1]
      first | with_reducible refine c_lt ?_ ?_ (fun z => ?_) (fun z => ?_) | with_reducible refine c_le ?_ ?_ (fun z => ?_) (fun z => ?_) | with_reducible refine c_eq ?_ ?_ (fun z => ?_) (fun z => ?_) | with_reducible refine c_ne ?_ ?_ (fun z => ?_) (fun z => ?_)
      · omega
      · omega
      · rw [h4, show p = M by omega]; exact k
      · omega
    | succ n ih =>
      intro p hp x4 h4
      have nx : ∀ c : Int, c = (if b = false ∨ vd cn M p then 1 else 0) → aX12_lines T (d + 1) Q X 83 [some (mx_R 99), some (mx_I x1), some (mx_I x2), some (mx_I x3), some (mx_I x4), some (mx_I (p : Int))] [mx_I c, mx_I x4] g (0, 0) := by
        intro c hc
        refine zX12_lines_83 ?_
        rw [show (p : Int) + 1 = ((p + 1 : Nat) : Int) by omega]
        refine ih (p + 1) (by omega) (x4 + c) ?_
        rw [h4, hc]
        show _ = ((cntV cn M b p + (if b = false ∨ vd cn M p then 1 else 0) : Nat) : Int)
        split <;> omega
      refine zX12_lines_54 ?_
      rw [hl.1]
      first | with_reducible refine c_lt ?_ ?_ (fun z => ?_) (fun z => ?_) | with_reducible refine c_le ?_ ?_ (fun z => ?_) (fun z => ?_) | with_reducible refine c_eq ?_ ?_ (fun z => ?_) (fun z => ?_) | with_reducible refine c_ne ?_ ?_ (fun z => ?_) (fun z => ?_)
      · omega
      · omega
      · omega
      · first | with_reducible refine c_lt ?_ ?_ (fun z2 => ?_) (fun z2 => ?_) | with_reducible refine c_le ?_ ?_ (fun z2 => ?_) (fun z2 => ?_) | with_reducible refine c_eq ?_ ?_ (fun z2 => ?_) (fun z2 => ?_) | with_reducible refine c_ne ?_ ?_ (fun z2 => ?_) (fun z2 => ?_)
        · omega
        · omega
        · refine zX12_lines_78 (nx 1 ?_)
          rw [if_pos (Or.inl (hb.mp z2))]
        · refine sX12_isVoid hw hl (by omega) ?_
          first | with_reducible refine b_eq (fun z3 => ?_) (fun z3 => ?_) | with_reducible refine b_ne (fun z3 => ?_) (fun z3 => ?_)
          · refine nx 0 ?_
            rw [if_neg (fun y => y.elim (fun w => z2 (hb.mpr w)) z3)]
          · refine zX12_lines_78 (nx 1 ?_)
            rw [if_pos (Or.inr z3)]
  exact main M 0 (by omega) 0 rfl
theorem IC.txw {W : Int} {g : mz_S} (w : IC W g) : ∃ (nt : Nat) (al : Nat → List pA), TxW g nt al ∧ g 99 36 = (nt : Int) ∧ (0 ≤ g 39 11 ∧ g 39 11 ≤ W) ∧ ∀ i, i < 1000 → 0 ≤ g 46 i ∧ g 46 i ≤ g 39 11 := by
  obtain ⟨nt, L, b, al, h1, h2, h3, h4, h5, h6, h7, h8, h9, h10, h11, h12, h13⟩ := w
  exact ⟨nt, al, ⟨h1, h2, h9, L, b, by omega, by omega, h8⟩, h3, h10, h11⟩
theorem IC.wk {W W' : Int} {g : mz_S} (w : IC W g) (h : W ≤ W') : IC W' g := by
  obtain ⟨nt, L, b, al, h1, h2, h3, h4, h5, h6, h7, h8, h9, h10, h11, h12, h13⟩ := w
  exact ⟨nt, L, b, al, h1, h2, h3, h4, h5, h6, h7, h8, h9, ⟨h10.1, by omega⟩, h11, h12, h13⟩
/-- after a walk -/
theorem IC.walk {W : Int} {S F : List Nat} {g g' : mz_S} (w : IC W g) (h : Ch S F g g') (hS : ∀ q ∈ [31, 32, 33, 34, 35, 36, 37, 38, 40, 41, 42, 43, 44, 120, 121, 122, 123, 124, 125, 126, 127, 128, 129], q ∉ S) (hF : ∀ f ∈ [34, 35, 36], f ∉ F) (h3 : g' 39 3 = g 39 3) (h11 : 0 ≤ g' 39 11 ∧ g' 39 11 ≤ W) (h46 : ∀ i, i < 1000 → 0 ≤ g' 46 i ∧ g' 46 i ≤ g' 39 11) : IC W g' := by
  have e : ∀ q ∈ [31, 32, 33, 34, 35, 36, 37, 38, 40, 41, 42, 43, 44, 120, 121, 122, 123, 124, 125, 126, 127, 128, 129], g' q = g q := fun q hq => h.1 q (hS q hq) (by intro z; subst z; revert hq; decide)
  obtain ⟨nt, L, b, al, k1, k2, k3, k4, k5, k6, k7, k8, k9, k10, k11, k12, k13⟩ := w
  refine ⟨nt, L, b, al, k1, by rw [h3]; exact k2, ?_, ?_, k5, ?_, k7, fun t ht => (k8 t ht).same (fun q hq => e q (by simp at hq ⊢; omega)), ?_, h11, h46, ?_, ?_⟩
  · rw [h.2 36 (hF 36 (by decide))]; exact k3
  · rw [e 31 (by decide)]; exact k4
  · rw [e 31 (by decide)]; exact k6
  · rw [e 40 (by decide), e 42 (by decide)]; exact k9
  · rw [h.2 34 (hF 34 (by decide)), e 31 (by decide)]; exact k12
  · rw [h.2 35 (hF 35 (by decide)), e 31 (by decide)]; exact k13
theorem C_lines {T : Nat × (Nat → Int32)} {d : Nat} {X X' : mz_X} {g : mz_S} {W a day what : Int} (wl : IL g) (w : IC W g) (hW : W < 2147483647) (ha : R32 a) (hd : R32 day) (hx : R32 what) : zC T (d + 6) 360 [mx_R 0, mx_I a, mx_I day, mx_I what, mx_R 179] g (fun kk g1 => zC T (d + 6) 268 [mx_R 99, mx_I a, mx_I day, mx_I what] g1 (fun r g2 => AnsI kk r g2 ∧ IC (W + 1) g2 ∧ Qy [39, 46, 130, 179] [0, 50] g g2) X') X := by
  have ht := wl.1.2.1
  have w1 : IC (W + 1) g := w.wk (by omega)
  have rl := wl.2.2.1
  have wf := wl.1
  have bad : ∀ n : Int, 1 ≤ n ∧ n ≤ 3 → AnsI n 0 (mx_up (mx_up g 99 0 0) 99 0 n) ∧ IC (W + 1) (mx_up (mx_up g 99 0 0) 99 0 n) ∧ Qy [39, 46, 130, 179] [0, 50] g (mx_up (mx_up g 99 0 0) 99 0 n) := fun n hn => by
    have q := qy_bad (S := [39, 46, 130, 179]) (F := [0, 50]) (Ch.rf g) (fun z => z) (by decide) n hn
    exact ⟨q.1, w1.fr (ch_bad g n) (by decide) (by decide), q.2⟩
  have ref : ∀ n : Int, (n = 1 ∧ ¬ (0 ≤ a ∧ a ≤ g 1 1 - 1)) ∨ (n = 2 ∧ (0 ≤ a ∧ a ≤ g 1 1 - 1) ∧ ¬ ((0 ≤ day ∧ day ≤ 999) ∧ (0 ≤ what ∧ what ≤ 1))) → zC T (d + 6) 268 [mx_R 99, mx_I a, mx_I day, mx_I what] g (fun r g2 => AnsI n r g2 ∧ IC (W + 1) g2 ∧ Qy [39, 46, 130, 179] [0, 50] g g2) X' := by
    intro n hn
    refine zX12_lines ?_
    intro g1 e1
    have rl1 : ReL g g1 := by rw [e1]; exact rl.fr (ch_0 g 0) (by decide) (by decide)
    rw [w32_of (n := what) (by omega) (by omega)]
    have b1 := bad 1 (by omega)
    have b2 := bad 2 (by omega)
    rw [← e1] at b1 b2
    rcases hn with ⟨rfl, hn⟩ | ⟨rfl, hn⟩
    · repeat' first
        | with_reducible refine zX12_lines_36 ?_
        | with_reducible refine zX12_lines_78 ?_
        | with_reducible refine zX12_lines_83 ?_
        | with_reducible refine sX11_needFound (fun _ => ?_) (fun _ => ?_)
        | with_reducible refine sX11_needArgument (fun _ => ?_) (fun _ => ?_)
        | with_reducible refine sX11_needState (fun _ => ?_) (fun _ => ?_)
        | with_reducible refine sX11_needPlace (fun _ => ?_) (fun _ => ?_)
        | with_reducible refine nF_t ?_
        | with_reducible refine nF_f ?_
        | with_reducible refine nA_t ?_
        | with_reducible refine nA_f ?_
        | with_reducible refine nS_t ?_
        | with_reducible refine nS_f ?_
        | with_reducible refine nP_t ?_
        | with_reducible refine nP_f ?_
        | with_reducible refine sX11_isTown (by omega) (by omega) ?_
        | with_reducible refine sX11_isBroker (by omega) (by omega) ?_
        | with_reducible refine sX11_isWord (by omega) (by omega) ?_
        | with_reducible refine sX11_isCoin (by omega) ?_
        | with_reducible refine sX11_isDay (by omega) ?_
        | with_reducible refine sX11_isTray (by omega) ?_
        | with_reducible refine sX12_isTray (by omega) ?_
        | with_reducible refine sX11_within (by omega) (by omega) (by omega) ?_
        | with_reducible refine sX12_isTownC (by assumption) (by assumption) (by omega) ?_
        | with_reducible refine sX12_isBrokerC (by assumption) (by assumption) (by omega) ?_
        | with_reducible refine sX12_isCoin (by omega) ?_
        | with_reducible refine sX12_isDay (by omega) ?_
        | with_reducible refine sX12_withinW (by omega) (by omega) (by omega) ?_
        | with_reducible refine sX12_fails ?_
        | with_reducible refine b_eq (fun _ => ?_) (fun _ => ?_)
        | with_reducible refine b_ne (fun _ => ?_) (fun _ => ?_)
        | with_reducible refine c_lt (by omega) (by omega) (fun _ => ?_) (fun _ => ?_)
        | with_reducible refine c_le (by omega) (by omega) (fun _ => ?_) (fun _ => ?_)
        | with_reducible refine c_eq (by omega) (by omega) (fun _ => ?_) (fun _ => ?_)
        | with_reducible refine c_ne (by omega) (by omega) (fun _ => ?_) (fun _ => ?_)
        | with_reducible refine l_gt (by omega) (by omega) (fun _ => ?_) (fun _ => ?_)
        | with_reducible refine l_lt (by omega) (by omega) (fun _ => ?_) (fun _ => ?_)
        | with_reducible refine l_ge (by omega) (by omega) (fun _ => ?_) (fun _ => ?_)
        | with_reducible refine l_le (by omega) (by omega) (fun _ => ?_) (fun _ => ?_)
        | with_reducible refine l_eq (by omega) (by omega) (fun _ => ?_) (fun _ => ?_)
        | with_reducible refine l_ne (by omega) (by omega) (fun _ => ?_) (fun _ => ?_)
        | refine ⟨by decide, by decide, ?_⟩
        | fail
      all_goals first | exact b1 | (exfalso; omega)
    · refine sX12_isTownC rl1 wf ha ?_
      first | with_reducible refine b_eq (fun y1 => ?_) (fun y1 => ?_) | with_reducible refine b_ne (fun y1 => ?_) (fun y1 => ?_)
      · refine sX12_isDay hd ?_
        first | with_reducible refine b_eq (fun y2 => ?_) (fun y2 => ?_) | with_reducible refine b_ne (fun y2 => ?_) (fun y2 => ?_)
        · exact zX12_lines_36 (sX12_fails b2)
        · refine sX12_within (by omega) (by omega) (by omega) ?_
          first | with_reducible refine b_eq (fun y3 => ?_) (fun y3 => ?_) | with_reducible refine b_ne (fun y3 => ?_) (fun y3 => ?_)
          · exfalso; omega
          · exact zX12_lines_36 (sX12_fails b2)
      · exfalso; omega
  refine wL_lines (zX11_lines (sX11_isTown ha ht ⟨by decide, by decide, sX11_needFound (fun h1 => ?_) (fun h1 => Or.inl ⟨rfl, ref 1 (Or.inl ⟨rfl, h1⟩)⟩)⟩))
  refine sX11_isDay hd ?_
  first | with_reducible refine b_eq (fun h2 => ?_) (fun h2 => ?_) | with_reducible refine b_ne (fun h2 => ?_) (fun h2 => ?_)
  · exact zX11_lines_28 (zX11_lines_29 ⟨by decide, by decide, nA_f (Or.inr ⟨rfl, ref 2 (Or.inr ⟨rfl, h1, fun z => h2 z.1⟩)⟩)⟩)
  refine sX11_within hx (by omega) (by omega) ?_
  first | with_reducible refine b_eq (fun h3 => ?_) (fun h3 => ?_) | with_reducible refine b_ne (fun h3 => ?_) (fun h3 => ?_)
  · exact zX11_lines_28 (zX11_lines_29 ⟨by decide, by decide, nA_f (Or.inr ⟨rfl, ref 2 (Or.inr ⟨rfl, h1, fun z => h3 z.2⟩)⟩)⟩)
  obtain ⟨nt, al, tw, e36, wk1, wk2⟩ := w.txw
  obtain ⟨town, et⟩ := Int.eq_ofNat_of_zero_le h1.1
  obtain ⟨dy, ed⟩ := Int.eq_ofNat_of_zero_le h2.1
  subst et ed
  have hb : ∃ b : Bool, what = (if b = true then 1 else 0) := by
    rcases (show what = 0 ∨ what = 1 by omega) with z | z
    · exact ⟨false, z⟩
    · exact ⟨true, z⟩
  obtain ⟨b, hb⟩ := hb
  have hb0 : what = 0 ↔ b = false := by rw [hb]; cases b <;> simp
  have lp := fC_lnP (town := town) (day := (dy : Int)) tw
  have go : aX11_lines T (d + 4) (fun r g1 => zC T (d + 6) 268 [mx_R 99, mx_I (town : Int), mx_I (dy : Int), mx_I what] (mx_up g1 179 0 (w32 r)) (fun r g2 => AnsI 0 r g2 ∧ IC (W + 1) g2 ∧ Qy [39, 46, 130, 179] [0, 50] g g2) X') (fun e g1 => (e = 0 ∧ zC T (d + 6) 268 [mx_R 99, mx_I (town : Int), mx_I (dy : Int), mx_I what] g1 (fun r g2 => AnsI 1 r g2 ∧ IC (W + 1) g2 ∧ Qy [39, 46, 130, 179] [0, 50] g g2) X') ∨ (e = 1 ∧ zC T (d + 6) 268 [mx_R 99, mx_I (town : Int), mx_I (dy : Int), mx_I what] g1 (fun r g2 => AnsI 2 r g2 ∧ IC (W + 1) g2 ∧ Qy [39, 46, 130, 179] [0, 50] g g2) X')) 48 [some (mx_R 0), some (mx_I (town : Int)), some (mx_I (dy : Int)), some (mx_I what)] [mx_I (if b = true then 1 else 0), mx_I (dy : Int), mx_I (town : Int), mx_R 39] g (2, 12) := by
    refine zX11_lines_48 (sX3_countLines (d := d + 1) tw (by omega) (by omega) (by omega) wk2 b (fun g1 c1 p1 v1 v2 => ?_))
    generalize hn : (cntV (cnF al (fC g al nt town (dy : Int))) (fC g al nt town (dy : Int)).length b (fC g al nt town (dy : Int)).length : Int) = cnt
    obtain ⟨gc, egc⟩ : ∃ gc, gc = mx_up g1 179 0 (w32 cnt) := ⟨_, rfl⟩
    rw [← egc]
    have cc : Ch [39, 46, 179] [] g gc := by rw [egc]; exact (c1.sub (by decide) (by decide)).up (by decide) (by decide)
    refine zX12_lines ?_
    intro g2 e2
    have c2 : Ch [39, 46, 179] [0] g g2 := by rw [e2]; exact (cc.sub (by decide) (by decide)).up9 (by decide)
    have rl2 : ReL g g2 := rl.fr c2 (by decide) (by decide)
    rw [w32_of (n := what) (by omega) (by omega)]
    refine sX12_isTownC rl2 wf ha ?_
    first | with_reducible refine b_eq (fun y1 => ?_) (fun y1 => ?_) | with_reducible refine b_ne (fun y1 => ?_) (fun y1 => ?_)
    · refine sX12_isDay hd ?_
      first | with_reducible refine b_eq (fun y2 => ?_) (fun y2 => ?_) | with_reducible refine b_ne (fun y2 => ?_) (fun y2 => ?_)
      · exact absurd h2 y2
      · refine sX12_within (by omega) (by omega) (by omega) ?_
        first | with_reducible refine b_eq (fun y3 => ?_) (fun y3 => ?_) | with_reducible refine b_ne (fun y3 => ?_) (fun y3 => ?_)
        · refine rStand tw (by rw [c2.2 36 (by decide)]; exact e36) (fun q hq => c2.1 q (by simp at hq ⊢; omega) (by simp at hq; omega)) (by omega) (by omega) (fun g3 c3 l3 _ => ?_)
          refine lines_R (b := b) lp l3 hx hb0 ?_
          rw [hn]
          have c4 : Ch [39, 46, 130, 179] [0, 50] g g3 := (c2.sub (by decide) (by decide)).tr (c3.sub (by decide) (by decide))
          have q39 : g3 39 = g1 39 := by rw [c3.1 39 (by decide) (by decide), e2, up_at, if_neg (by decide), egc, up_at, if_neg (by decide)]
          have q46 : g3 46 = g1 46 := by rw [c3.1 46 (by decide) (by decide), e2, up_at, if_neg (by decide), egc, up_at, if_neg (by decide)]
          refine ⟨⟨by omega, ?_, fun _ => ?_⟩, ?_, c4, fun z => z.fr c4 (by decide)⟩
          · rw [c3.2 0 (by decide), e2, up_s]
          · rw [c3.1 179 (by decide) (by decide), e2, up_q (by decide), egc, up_s]
          · exact w1.walk c4 (by decide) (by decide) (by rw [q39]; exact p1 3 (by decide)) (by rw [q39, v1]; omega) (by rw [q39, q46]; exact v2)
        · exact absurd h3 y3
    · exact absurd h1 y1
  refine zX11_lines_29 ⟨by decide, by decide, nA_t ?_⟩
  first | with_reducible refine c_lt ?_ ?_ (fun y => ?_) (fun y => ?_) | with_reducible refine c_le ?_ ?_ (fun y => ?_) (fun y => ?_) | with_reducible refine c_eq ?_ ?_ (fun y => ?_) (fun y => ?_) | with_reducible refine c_ne ?_ ?_ (fun y => ?_) (fun y => ?_)
  · omega
  · omega
  · have : b = false := hb0.mp (by omega)
    subst this
    exact go
  · have : b = true := by cases b with | true => rfl | false => exact absurd (hb0.mpr rfl) (by omega)
    subst this
    exact go
