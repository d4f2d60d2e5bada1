/-! the call ring -/
def rgBst (g : mz_S) (m co most : Nat) : rgR := (extA (fun a b => netC g a b co) m most 9223372036854775807).foldl rgF (0, 0, [])
def rgV (B : rgR) (x : Int) : Int := if B.1 = 0 then -1 else if x = -1 then B.2.1 else if x = -2 then (B.1 : Int) else if x < (B.1 : Int) then (B.2.2.getD x.toNat 0 : Nat) else -1
def rgS : List Nat := [62, 63, 64, 148, 149, 150, 179]
def rgFl : List Nat := [0, 73, 74]
theorem sX12_seekBst {T : Nat × (Nat → Int32)} {d : Nat} {Q : mz_K} {X : mz_X} {g : mz_S} {c : mz_S} {co m most : Nat} (w : WfG c) (wn : WfN c) (re : ReE c g) (h10 : g 99 10 = (m : Int)) (hm2 : m ≤ 12) (hco : co < 4) (hmost : 3 ≤ most ∧ most ≤ 5) (k : ∀ g', Ch [148, 149, 150] [73, 74] g g' → RgR g' (rgBst c m co most) → RgB m (rgBst c m co most) → Q 0 g') : zC T (d + 8) 291 [mx_R 99, mx_I (co : Int), mx_I (most : Int)] g Q X := by
  refine sX12_seekRing w wn re h10 hm2 hco hmost (fun g' c' r' b' => ?_)
  rw [← rings_same hmost] at r' b'
  exact k g' c' r' b'
theorem C_ring {T : Nat × (Nat → Int32)} {d : Nat} {X X' : mz_X} {g : mz_S} {co mo x : Int} (wb : IB g) (we : IE g) (hc : R32 co) (hm : R32 mo) (hx : R32 x) : zC T (d + 12) 374 [mx_R 0, mx_I co, mx_I mo, mx_I x, mx_R 179] g (fun kk g1 => zC T (d + 12) 292 [mx_R 99, mx_I co, mx_I mo, mx_I x] g1 (fun r g2 => AnsI kk r g2 ∧ Qy rgS rgFl g g2) X') X := by
  have hw := wb.1.1
  have bad : ∀ n : Int, 1 ≤ n ∧ n ≤ 3 → AnsI n 0 (mx_up (mx_up g 99 0 0) 99 0 n) ∧ Qy rgS rgFl g (mx_up (mx_up g 99 0 0) 99 0 n) := fun n hn => qy_bad (Ch.rf g) (fun z => z) (by decide) n hn
  have no : ¬ ((0 ≤ co ∧ co ≤ 3) ∧ (3 ≤ mo ∧ mo ≤ 5) ∧ (-2 ≤ x ∧ x ≤ 4)) → zC T (d + 12) 292 [mx_R 99, mx_I co, mx_I mo, mx_I x] g (fun r g2 => AnsI 1 r g2 ∧ Qy rgS rgFl g g2) X' := by
    intro h
    refine zX12_ring ?_
    intro g2 e2
    rw [← e2] at bad
    have b := bad 1 (by omega)
    refine sX12_isCoin hc ?_
    first | with_reducible refine b_eq (fun y1 => ?_) (fun y1 => ?_) | with_reducible refine b_ne (fun y1 => ?_) (fun y1 => ?_)
    · exact zX12_ring_40 (sX12_fails b)
    · refine sX12_withinW (by omega) (by omega) (by omega) ?_
      first | with_reducible refine b_eq (fun y2 => ?_) (fun y2 => ?_) | with_reducible refine b_ne (fun y2 => ?_) (fun y2 => ?_)
      · exact zX12_ring_40 (sX12_fails b)
      · refine sX12_withinW (by omega) (by omega) (by omega) ?_
        first | with_reducible refine b_eq (fun y3 => ?_) (fun y3 => ?_) | with_reducible refine b_ne (fun y3 => ?_) (fun y3 => ?_)
        · exact absurd ⟨y1, y2, y3⟩ h
        · exact zX12_ring_40 (sX12_fails b)
  refine wL_ring (zX11_ring (sX11_isCoin hc ?_))
  first | with_reducible refine b_eq (fun h1 => ?_) (fun h1 => ?_) | with_reducible refine b_ne (fun h1 => ?_) (fun h1 => ?_)
  · exact zX11_ring_30 (zX11_ring_31 ⟨by decide, by decide, nA_f ⟨rfl, no (fun z => h1 z.1)⟩⟩)
  refine sX11_within hm (by omega) (by omega) ?_
  first | with_reducible refine b_eq (fun h2 => ?_) (fun h2 => ?_) | with_reducible refine b_ne (fun h2 => ?_) (fun h2 => ?_)
  · exact zX11_ring_30 (zX11_ring_31 ⟨by decide, by decide, nA_f ⟨rfl, no (fun z => h2 z.2.1)⟩⟩)
  refine sX11_within hx (by omega) (by omega) ?_
  first | with_reducible refine b_eq (fun h3 => ?_) (fun h3 => ?_) | with_reducible refine b_ne (fun h3 => ?_) (fun h3 => ?_)
  · exact zX11_ring_30 (zX11_ring_31 ⟨by decide, by decide, nA_f ⟨rfl, no (fun z => h3 z.2.2)⟩⟩)
  refine zX11_ring_31 ⟨by decide, by decide, nA_t ?_⟩
  obtain ⟨C, rfl⟩ := Int.eq_ofNat_of_zero_le h1.1
  obtain ⟨M, rfl⟩ := Int.eq_ofNat_of_zero_le (show 0 ≤ mo by omega)
  obtain ⟨m, em⟩ := Int.eq_ofNat_of_zero_le hw.1
  refine sX1_findRing (d := d) (m := m) we.1 em (by omega) (by omega) (by omega) (fun g1 c1 r1 b1 => ?_)
  have r1 : RgC g1 (rgBst g m C M) := r1
  have b1 : RgB m (rgBst g m C M) := b1
  generalize hB : rgBst g m C M = B at r1 b1
  obtain ⟨q1, q2, q3, q4⟩ := b1
  have ref : zC T (d + 12) 292 [mx_R 99, mx_I (C : Int), mx_I (M : Int), mx_I x] (mx_up g1 179 0 (w32 (rgV B x))) (fun r g2 => AnsI 0 r g2 ∧ Qy rgS rgFl g g2) X' := by
    refine zX12_ring ?_
    intro g2 e2
    have c2 : Ch [62, 63, 64, 179] [0] g g2 := by rw [e2]; exact ((c1.sub (by decide) (by decide)).up (by decide) (by decide)).up9 (by decide)
    refine sX12_isCoin hc ?_
    first | with_reducible refine b_eq (fun y1 => ?_) (fun y1 => ?_) | with_reducible refine b_ne (fun y1 => ?_) (fun y1 => ?_)
    · exact absurd h1 y1
    · refine sX12_withinW (by omega) (by omega) (by omega) ?_
      first | with_reducible refine b_eq (fun y2 => ?_) (fun y2 => ?_) | with_reducible refine b_ne (fun y2 => ?_) (fun y2 => ?_)
      · exact absurd h2 y2
      · refine sX12_withinW (by omega) (by omega) (by omega) ?_
        first | with_reducible refine b_eq (fun y3 => ?_) (fun y3 => ?_) | with_reducible refine b_ne (fun y3 => ?_) (fun y3 => ?_)
        · refine sX12_seekBst (c := g) (m := m) (d := d + 3) we.1 we.2.1 (we.2.2.1.fr c2 (by decide) (by decide)) (by rw [c2.2 10 (by decide), wb.2.1.1, em]) (by omega) (by omega) (by omega) (fun g3 c3 r3 b3 => ?_)
          rw [hB] at r3
          obtain ⟨p1, p2, p3⟩ := r3
          have c4 : Ch rgS rgFl g g3 := (c2.sub (by decide) (by decide)).tr (c3.sub (by decide) (by decide))
          have fin : ∀ v, v = rgV B x → AnsI 0 v g3 ∧ Qy rgS rgFl g g3 := fun v hv => ⟨⟨by omega, by rw [c3.2 0 (by decide), e2, up_s], fun _ => by rw [c3.1 179 (by decide) (by decide), e2, up_q (by decide), up_s, hv]⟩, c4, fun z => z.fr c4 (by decide)⟩
          unfold rgV at fin
          rw [p1]
          first | with_reducible refine c_lt ?_ ?_ (fun z1 => ?_) (fun z1 => ?_) | with_reducible refine c_le ?_ ?_ (fun z1 => ?_) (fun z1 => ?_) | with_reducible refine c_eq ?_ ?_ (fun z1 => ?_) (fun z1 => ?_) | with_reducible refine c_ne ?_ ?_ (fun z1 => ?_) (fun z1 => ?_)
          · omega
          · omega
          · rw [if_neg (show ¬ B.1 = 0 by omega)] at fin
            first | with_reducible refine c_lt ?_ ?_ (fun z2 => ?_) (fun z2 => ?_) | with_reducible refine c_le ?_ ?_ (fun z2 => ?_) (fun z2 => ?_) | with_reducible refine c_eq ?_ ?_ (fun z2 => ?_) (fun z2 => ?_) | with_reducible refine c_ne ?_ ?_ (fun z2 => ?_) (fun z2 => ?_)
            · omega
            · omega
            · rw [if_neg z2] at fin
              first | with_reducible refine c_lt ?_ ?_ (fun z3 => ?_) (fun z3 => ?_) | with_reducible refine c_le ?_ ?_ (fun z3 => ?_) (fun z3 => ?_) | with_reducible refine c_eq ?_ ?_ (fun z3 => ?_) (fun z3 => ?_) | with_reducible refine c_ne ?_ ?_ (fun z3 => ?_) (fun z3 => ?_)
              · omega
              · omega
              · rw [if_neg z3] at fin
                first | with_reducible refine c_lt ?_ ?_ (fun z4 => ?_) (fun z4 => ?_) | with_reducible refine c_le ?_ ?_ (fun z4 => ?_) (fun z4 => ?_) | with_reducible refine c_eq ?_ ?_ (fun z4 => ?_) (fun z4 => ?_) | with_reducible refine c_ne ?_ ?_ (fun z4 => ?_) (fun z4 => ?_)
                · omega
                · omega
                · rw [if_neg (by omega)] at fin
                  exact zX12_ring_105 (fin _ rfl)
                · rw [if_pos (by omega)] at fin
                  refine s_in (by omega) (fun ea => ?_)
                  rw [ea, p3 x.toNat (by omega)]
                  exact zX12_ring_105 (fin _ rfl)
              · rw [if_pos (by omega)] at fin
                exact zX12_ring_105 (fin _ rfl)
            · rw [if_pos (by omega), p2.symm] at fin
              exact zX12_ring_105 (fin _ rfl)
          · rw [if_pos (show B.1 = 0 by omega)] at fin
            exact fin _ rfl
        · exact absurd h3 y3
  obtain ⟨p1, p2, p3⟩ := r1
  unfold rgV at ref
  rw [p1]
  first | with_reducible refine c_lt ?_ ?_ (fun z1 => ?_) (fun z1 => ?_) | with_reducible refine c_le ?_ ?_ (fun z1 => ?_) (fun z1 => ?_) | with_reducible refine c_eq ?_ ?_ (fun z1 => ?_) (fun z1 => ?_) | with_reducible refine c_ne ?_ ?_ (fun z1 => ?_) (fun z1 => ?_)
  · omega
  · omega
  · rw [if_neg (show ¬ B.1 = 0 by omega)] at ref
    first | with_reducible refine c_lt ?_ ?_ (fun z2 => ?_) (fun z2 => ?_) | with_reducible refine c_le ?_ ?_ (fun z2 => ?_) (fun z2 => ?_) | with_reducible refine c_eq ?_ ?_ (fun z2 => ?_) (fun z2 => ?_) | with_reducible refine c_ne ?_ ?_ (fun z2 => ?_) (fun z2 => ?_)
    · omega
    · omega
    · rw [if_neg z2] at ref
      first | with_reducible refine c_lt ?_ ?_ (fun z3 => ?_) (fun z3 => ?_) | with_reducible refine c_le ?_ ?_ (fun z3 => ?_) (fun z3 => ?_) | with_reducible refine c_eq ?_ ?_ (fun z3 => ?_) (fun z3 => ?_) | with_reducible refine c_ne ?_ ?_ (fun z3 => ?_) (fun z3 => ?_)
      · omega
      · omega
      · rw [if_neg z3] at ref
        first | with_reducible refine c_lt ?_ ?_ (fun z4 => ?_) (fun z4 => ?_) | with_reducible refine c_le ?_ ?_ (fun z4 => ?_) (fun z4 => ?_) | with_reducible refine c_eq ?_ ?_ (fun z4 => ?_) (fun z4 => ?_) | with_reducible refine c_ne ?_ ?_ (fun z4 => ?_) (fun z4 => ?_)
        · omega
        · omega
        · rw [if_neg (by omega)] at ref
          exact zX11_ring_107 ref
        · rw [if_pos (by omega)] at ref
          refine s_in (by omega) (fun ea => ?_)
          rw [ea, p3 x.toNat (by omega)]
          exact zX11_ring_107 ref
      · rw [if_pos (by omega)] at ref
        exact ref
    · rw [if_pos (by omega), p2.symm] at ref
      exact ref
  · rw [if_pos (show B.1 = 0 by omega)] at ref
    exact ref
