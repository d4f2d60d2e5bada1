/-! the calls fewest and step -/
abbrev okS (m : Nat) (x : Int) : Prop := ∃ s : Nat, x = (s : Int) ∧ 1 ≤ s ∧ s < 2 ^ m ∧ popN 12 s ≤ 9
theorem pow_12 {m : Nat} (hm : m ≤ 12) : 2 ^ m ≤ 4096 := Nat.pow_le_pow_right (n := 2) (by decide) hm
theorem sX11_isGroupable {T : Nat × (Nat → Int32)} {d : Nat} {Q : mz_K} {X : mz_X} {g : mz_S} {x : Int} {m : Nat} (hx : R32 x) (em : g 9 1 = (m : Int)) (hm : m ≤ 12) (k1 : ∀ s : Nat, x = (s : Int) → 1 ≤ s → s < 2 ^ m → popN 12 s ≤ 9 → Q 1 g) (k2 : ¬ okS m x → Q 0 g) : zC T (d + 2) 190 [mx_R 0, mx_I x] g Q X := by
  have hp := pow_12 hm
  have hp2 := Nat.two_pow_pos m
  refine zX11_isGroupable ?_
  rw [em, pow13 _ (by omega)]
  obtain ⟨P, hP⟩ : ∃ P : Nat, P = 2 ^ m := ⟨_, rfl⟩
  rw [← hP] at hp hp2 ⊢
  refine sX11_within hx (by omega) (by omega) ?_
  first | with_reducible refine b_eq (fun h1 => ?_) (fun h1 => ?_) | with_reducible refine b_ne (fun h1 => ?_) (fun h1 => ?_)
  · exact zX11_isGroupable_32 (zX11_isGroupable_33 ⟨zb0, k2 (fun ⟨s, a1, a2, a3, a4⟩ => h1 (by rw [← hP] at a3; omega))⟩)
  · obtain ⟨s, rfl⟩ := Int.eq_ofNat_of_zero_le (show 0 ≤ x by omega)
    refine sJ6_bitCount (n := s) (by omega) ?_
    have pb : popN 12 s ≤ 12 := by
      have : ∀ k, popN k s ≤ k := by
        intro k
        induction k with
        | zero => exact Nat.le_refl 0
        | succ k ih => show popN k s + (if s.testBit k then 1 else 0) ≤ k + 1; split <;> omega
      exact this 12
    first | with_reducible refine c_lt ?_ ?_ (fun z => ?_) (fun z => ?_) | with_reducible refine c_le ?_ ?_ (fun z => ?_) (fun z => ?_) | with_reducible refine c_eq ?_ ?_ (fun z => ?_) (fun z => ?_) | with_reducible refine c_ne ?_ ?_ (fun z => ?_) (fun z => ?_)
    · omega
    · omega
    · exact zX11_isGroupable_32 (zX11_isGroupable_33 ⟨zb0, k2 (fun ⟨s', a1, a2, a3, a4⟩ => by rw [show s' = s by omega] at a4; omega)⟩)
    · exact zX11_isGroupable_33 ⟨zb1, k1 s rfl (by omega) (by rw [← hP]; omega) (by omega)⟩
theorem ishr_z {x : Int} {m : Nat} (hx : 0 < x ∧ x ≤ 2147483647) (hm : m ≤ 12) : mx_ishr x (m : Int) = 0 ↔ x < ((2 ^ m : Nat) : Int) := by
  constructor
  · intro h
    obtain ⟨n, e, hn, _⟩ := zb_set (s := x) m (by omega) (w32_of (by omega) (by omega)) (fun i h1 h2 => by
      have t := zb_ishr (n := m) (by omega) x (i := i - m) (by omega)
      rw [h, zb_0, if_pos (by omega), show m + (i - m) = i by omega] at t
      exact t.symm)
    rw [e]
    exact Int.ofNat_lt.mpr hn
  · intro h
    obtain ⟨n, rfl⟩ := Int.eq_ofNat_of_zero_le (show 0 ≤ x by omega)
    have hn : n < 2 ^ m := Int.ofNat_lt.mp h
    have t : w32 (mx_ishr (n : Int) (m : Int)) = w32 0 := zb_ext (fun i hi => by
      rw [zb_ishr (by omega) _ hi, zb_0]
      split
      · rw [zb_nat (by omega)]
        exact Nat.testBit_lt_two_pow (Nat.lt_of_lt_of_le hn (Nat.pow_le_pow_right (by decide) (by omega)))
      · rw [zb_nat (by omega)]
        exact Nat.testBit_lt_two_pow (Nat.lt_of_lt_of_le hn (Nat.pow_le_pow_right (by decide) (by omega))))
    rw [w32_ishr, w32_0] at t
    exact t
theorem sX12_isSet {T : Nat × (Nat → Int32)} {d : Nat} {Q : mz_K} {X : mz_X} {g : mz_S} {x : Int} {m : Nat} (hx : R32 x) (h10 : g 99 10 = (m : Int)) (hm : m ≤ 12) (k1 : ∀ s : Nat, x = (s : Int) → 1 ≤ s → s < 2 ^ m → popN 12 s ≤ 9 → Q 1 g) (k2 : ¬ okS m x → Q 0 g) : zC T (d + 2) 300 [mx_R 99, mx_I x] g Q X := by
  have hp := pow_12 hm
  have no : ¬ okS m x → aX12_isSet T (d + 1) Q X 26 [some (mx_R 99), some (mx_I x)] [] g (0, 0) := fun h => zX12_isSet_26 (zX12_isSet_27 ⟨zb0, k2 h⟩)
  refine zX12_isSet ?_
  rw [h10]
  first | with_reducible refine c_lt ?_ ?_ (fun z => ?_) (fun z => ?_) | with_reducible refine c_le ?_ ?_ (fun z => ?_) (fun z => ?_) | with_reducible refine c_eq ?_ ?_ (fun z => ?_) (fun z => ?_) | with_reducible refine c_ne ?_ ?_ (fun z => ?_) (fun z => ?_)
  · omega
  · omega
  · exact no (fun ⟨s, a1, a2, a3, a4⟩ => by omega)
  · have iz := ishr_z (x := x) (by omega) hm
    have i1 := w32_lo (mx_ishr x (m : Int))
    have i2 := w32_hi (mx_ishr x (m : Int))
    rw [w32_ishr] at i1 i2
    first | with_reducible refine c_lt ?_ ?_ (fun z2 => ?_) (fun z2 => ?_) | with_reducible refine c_le ?_ ?_ (fun z2 => ?_) (fun z2 => ?_) | with_reducible refine c_eq ?_ ?_ (fun z2 => ?_) (fun z2 => ?_) | with_reducible refine c_ne ?_ ?_ (fun z2 => ?_) (fun z2 => ?_)
    · omega
    · omega
    · exact no (fun ⟨s, a1, a2, a3, a4⟩ => z2 (iz.mpr (by rw [a1]; exact Int.ofNat_lt.mpr a3)))
    · have lt := iz.mp (by omega)
      obtain ⟨s, rfl⟩ := Int.eq_ofNat_of_zero_le (show 0 ≤ x by omega)
      have lt2 : s < 2 ^ m := Int.ofNat_lt.mp lt
      refine sX12_ones (n := s) (Nat.lt_of_lt_of_le lt2 hp) ?_
      have pb : popN 12 s ≤ 12 := by
        have : ∀ k, popN k s ≤ k := by
          intro k
          induction k with
          | zero => exact Nat.le_refl 0
          | succ k ih => show popN k s + (if s.testBit k then 1 else 0) ≤ k + 1; split <;> omega
        exact this 12
      first | with_reducible refine c_lt ?_ ?_ (fun z3 => ?_) (fun z3 => ?_) | with_reducible refine c_le ?_ ?_ (fun z3 => ?_) (fun z3 => ?_) | with_reducible refine c_eq ?_ ?_ (fun z3 => ?_) (fun z3 => ?_) | with_reducible refine c_ne ?_ ?_ (fun z3 => ?_) (fun z3 => ?_)
      · omega
      · omega
      · exact no (fun ⟨s', a1, a2, a3, a4⟩ => by rw [show s' = s by omega] at a4; omega)
      · exact zX12_isSet_27 ⟨zb1, k1 s rfl (by omega) lt2 (by omega)⟩
theorem fwR_len {n N : Nat} {B : Int} {bal G : Nat → Int} (hn : n ≤ 9) (hG : GT (sbS n bal) G N) (hN : 2 ^ n ≤ N) : ∀ f p (s : stS), FwI n B bal f p s → (fwR (sbS n bal) G n f p s).2.length ≤ 9 := by
  intro f
  induction f with
  | zero => intro p s I; have := I.2.2.2.2.1; show s.2.length ≤ 9; omega
  | succ f ih =>
    intro p s I
    show (if p = 0 then s else fwR (sbS n bal) G n f (p ^^^ lgF (sbS n bal) G p) (syR n (lgF (sbS n bal) G p) 9 s)).2.length ≤ 9
    by_cases h0 : p = 0
    · rw [if_pos h0]; have := I.2.2.2.2.1; omega
    · rw [if_neg h0]
      obtain ⟨i1, i2⟩ := FwI_q hn hG hN h0 I
      exact ih _ _ (i2 _ (syR_inv 9 s i1) (syR_out 9 s))
def fwC : List Nat := [62, 65, 66, 67, 68, 69, 70, 71, 148, 151, 152, 153, 154, 155, 156, 157, 179]
def fwFl : List Nat := [0, 82, 83]
/-- both sides have settled the same way -/
theorem fw_anti {g : mz_S} (we : IE g) {m co : Nat} (hm : m ≤ 12) (hco : co < 4) : ∀ a b, a < m → b < m → netC g b a co = - netC g a b co := fun a b ha hb => by
  by_cases e : a = b
  · rw [e, net_self we (by omega) hco]; rfl
  · exact netC_neg we.2.1 (by omega) (by omega) hco e
theorem C_fewest {T : Nat × (Nat → Int32)} {d : Nat} {X X' : mz_X} {g : mz_S} {co st : Int} (wb : IB g) (we : IE g) (hc : R32 co) (hs : R32 st) : zC T (d + 8) 376 [mx_R 0, mx_I co, mx_I st, mx_R 179] g (fun kk g1 => zC T (d + 8) 301 [mx_R 99, mx_I co, mx_I st] g1 (fun r g2 => AnsI kk r g2 ∧ Qy fwC fwFl g g2) X') X := by
  have hw := wb.1.1
  obtain ⟨m, em⟩ := Int.eq_ofNat_of_zero_le hw.1
  have hm : m ≤ 12 := by omega
  have bad : ∀ n : Int, 1 ≤ n ∧ n ≤ 3 → AnsI n 0 (mx_up (mx_up g 99 0 0) 99 0 n) ∧ Qy fwC fwFl g (mx_up (mx_up g 99 0 0) 99 0 n) := fun n hn => qy_bad (Ch.rf g) (fun z => z) (by decide) n hn
  have no : ¬ ((0 ≤ co ∧ co ≤ 3) ∧ okS m st) → zC T (d + 8) 301 [mx_R 99, mx_I co, mx_I st] g (fun r g2 => AnsI 1 r g2 ∧ Qy fwC fwFl g g2) X' := by
    intro h
    refine zX12_fewest ?_
    intro g2 e2
    rw [← e2] at bad
    have b := bad 1 (by omega)
    refine sX12_isCoin hc ?_
    first | with_reducible refine b_eq (fun y1 => ?_) (fun y1 => ?_) | with_reducible refine b_ne (fun y1 => ?_) (fun y1 => ?_)
    · exact zX12_fewest_20 (sX12_fails b)
    · refine sX12_isSet (m := m) hs (by rw [e2, up_i (by decide), wb.2.1.1, em]) hm (fun s a1 a2 a3 a4 => absurd ⟨y1, s, a1, a2, a3, a4⟩ h) (fun _ => ?_)
      first | with_reducible refine c_lt ?_ ?_ (fun y2 => ?_) (fun y2 => ?_) | with_reducible refine c_le ?_ ?_ (fun y2 => ?_) (fun y2 => ?_) | with_reducible refine c_eq ?_ ?_ (fun y2 => ?_) (fun y2 => ?_) | with_reducible refine c_ne ?_ ?_ (fun y2 => ?_) (fun y2 => ?_)
      · omega
      · omega
      · omega
      · exact zX12_fewest_20 (sX12_fails b)
  refine wL_fewest (zX11_fewest (sX11_isCoin hc ?_))
  first | with_reducible refine b_eq (fun h1 => ?_) (fun h1 => ?_) | with_reducible refine b_ne (fun h1 => ?_) (fun h1 => ?_)
  · exact zX11_fewest_19 (zX11_fewest_20 ⟨by decide, by decide, nA_f ⟨rfl, no (fun z => h1 z.1)⟩⟩)
  refine sX11_isGroupable (m := m) hs em hm (fun s a1 a2 a3 a4 => ?_) (fun h2 => ?_)
  · first | with_reducible refine c_lt ?_ ?_ (fun z => ?_) (fun z => ?_) | with_reducible refine c_le ?_ ?_ (fun z => ?_) (fun z => ?_) | with_reducible refine c_eq ?_ ?_ (fun z => ?_) (fun z => ?_) | with_reducible refine c_ne ?_ ?_ (fun z => ?_) (fun z => ?_)
    · omega
    · omega
    · omega
    · refine zX11_fewest_20 ⟨by decide, by decide, nA_t ?_⟩
      obtain ⟨C, rfl⟩ := Int.eq_ofNat_of_zero_le h1.1
      subst a1
      have s12 : s < 4096 := Nat.lt_of_lt_of_le a3 (pow_12 hm)
      refine sX1_findSettlings (d := d + 2) (m := m) rfl rfl rfl we.1 em hm (by omega) s12 a4 (fw_anti we hm (by omega)) (fun g1 G c1 hG r1 => ?_)
      refine zX12_fewest ?_
      intro g2 e2
      have c2 : Ch [62, 65, 66, 67, 68, 69, 70, 71, 179] [0] g g2 := by rw [e2]; exact ((c1.sub (by decide) (by decide)).up (by decide) (by decide)).up9 (by decide)
      refine sX12_isCoin hc ?_
      first | with_reducible refine b_eq (fun y1 => ?_) (fun y1 => ?_) | with_reducible refine b_ne (fun y1 => ?_) (fun y1 => ?_)
      · exact absurd h1 y1
      · refine sX12_isSet (m := m) hs (by rw [c2.2 10 (by decide), wb.2.1.1, em]) hm (fun s' b1 b2 b3 b4 => ?_) (fun y => absurd ⟨s, rfl, a2, a3, a4⟩ y)
        first | with_reducible refine c_lt ?_ ?_ (fun y2 => ?_) (fun y2 => ?_) | with_reducible refine c_le ?_ ?_ (fun y2 => ?_) (fun y2 => ?_) | with_reducible refine c_eq ?_ ?_ (fun y2 => ?_) (fun y2 => ?_) | with_reducible refine c_ne ?_ ?_ (fun y2 => ?_) (fun y2 => ?_)
        · omega
        · omega
        · refine sX12_seekFewest (d := d + 3) (c := g) (m := m) rfl rfl rfl we.1 we.2.1 (we.2.2.1.fr c2 (by decide) (by decide)) (by rw [c2.2 10 (by decide), wb.2.1.1, em]) hm (by omega) s12 a4 (fw_anti we hm (by omega)) hG (fun g4 c4 r4 => ?_)
          have c5 : Ch fwC fwFl g g4 := (c2.sub (by decide) (by decide)).tr (c4.sub (by decide) (by decide))
          refine ⟨⟨by omega, by rw [c4.2 0 (by decide), e2, up_s], fun _ => ?_⟩, c5, fun z => z.fr c5 (by decide)⟩
          rw [c4.1 179 (by decide) (by decide), e2, up_q (by decide), up_s, r1.2.1, r4.2.1]
        · omega
  · first | with_reducible refine c_lt ?_ ?_ (fun z => ?_) (fun z => ?_) | with_reducible refine c_le ?_ ?_ (fun z => ?_) (fun z => ?_) | with_reducible refine c_eq ?_ ?_ (fun z => ?_) (fun z => ?_) | with_reducible refine c_ne ?_ ?_ (fun z => ?_) (fun z => ?_)
    · omega
    · omega
    · exact zX11_fewest_19 (zX11_fewest_20 ⟨by decide, by decide, nA_f ⟨rfl, no (fun z => h2 z.2)⟩⟩)
    · omega
theorem C_step {T : Nat × (Nat → Int32)} {d : Nat} {X X' : mz_X} {g : mz_S} {co st x w : Int} (wb : IB g) (we : IE g) (hc : R32 co) (hs : R32 st) (hx : R32 x) (hwh : R32 w) : zC T (d + 8) 377 [mx_R 0, mx_I co, mx_I st, mx_I x, mx_I w, mx_R 179] g (fun kk g1 => zC T (d + 8) 302 [mx_R 99, mx_I co, mx_I st, mx_I x, mx_I w] g1 (fun r g2 => AnsI kk r g2 ∧ Qy fwC fwFl g g2) X') X := by
  have hw := wb.1.1
  obtain ⟨m, em⟩ := Int.eq_ofNat_of_zero_le hw.1
  have hm : m ≤ 12 := by omega
  have bad : ∀ n : Int, 1 ≤ n ∧ n ≤ 3 → AnsI n 0 (mx_up (mx_up g 99 0 0) 99 0 n) ∧ Qy fwC fwFl g (mx_up (mx_up g 99 0 0) 99 0 n) := fun n hn => qy_bad (Ch.rf g) (fun z => z) (by decide) n hn
  have no : ¬ ((0 ≤ co ∧ co ≤ 3) ∧ okS m st ∧ (0 ≤ w ∧ w ≤ 2)) → zC T (d + 8) 302 [mx_R 99, mx_I co, mx_I st, mx_I x, mx_I w] g (fun r g2 => AnsI 1 r g2 ∧ Qy fwC fwFl g g2) X' := by
    intro h
    refine zX12_step ?_
    intro g2 e2
    rw [← e2] at bad
    have b := bad 1 (by omega)
    refine sX12_isCoin hc ?_
    first | with_reducible refine b_eq (fun y1 => ?_) (fun y1 => ?_) | with_reducible refine b_ne (fun y1 => ?_) (fun y1 => ?_)
    · exact zX12_step_33 (sX12_fails b)
    · refine sX12_isSet (m := m) hs (by rw [e2, up_i (by decide), wb.2.1.1, em]) hm (fun s a1 a2 a3 a4 => ?_) (fun _ => ?_)
      · first | with_reducible refine c_lt ?_ ?_ (fun y2 => ?_) (fun y2 => ?_) | with_reducible refine c_le ?_ ?_ (fun y2 => ?_) (fun y2 => ?_) | with_reducible refine c_eq ?_ ?_ (fun y2 => ?_) (fun y2 => ?_) | with_reducible refine c_ne ?_ ?_ (fun y2 => ?_) (fun y2 => ?_)
        · omega
        · omega
        · omega
        · refine sX12_withinW hwh (by omega) (by omega) ?_
          first | with_reducible refine b_eq (fun y3 => ?_) (fun y3 => ?_) | with_reducible refine b_ne (fun y3 => ?_) (fun y3 => ?_)
          · exact absurd ⟨y1, ⟨s, a1, a2, a3, a4⟩, y3⟩ h
          · exact zX12_step_33 (sX12_fails b)
      · first | with_reducible refine c_lt ?_ ?_ (fun y2 => ?_) (fun y2 => ?_) | with_reducible refine c_le ?_ ?_ (fun y2 => ?_) (fun y2 => ?_) | with_reducible refine c_eq ?_ ?_ (fun y2 => ?_) (fun y2 => ?_) | with_reducible refine c_ne ?_ ?_ (fun y2 => ?_) (fun y2 => ?_)
        · omega
        · omega
        · exact zX12_step_33 (sX12_fails b)
        · omega
  refine wL_step (zX11_step (sX11_isCoin hc ?_))
  first | with_reducible refine b_eq (fun h1 => ?_) (fun h1 => ?_) | with_reducible refine b_ne (fun h1 => ?_) (fun h1 => ?_)
  · exact zX11_step_29 (zX11_step_30 ⟨by decide, by decide, nA_f ⟨rfl, no (fun z => h1 z.1)⟩⟩)
  refine sX11_isGroupable (m := m) hs em hm (fun s a1 a2 a3 a4 => ?_) (fun h2 => ?_)
  · first | with_reducible refine c_lt ?_ ?_ (fun z => ?_) (fun z => ?_) | with_reducible refine c_le ?_ ?_ (fun z => ?_) (fun z => ?_) | with_reducible refine c_eq ?_ ?_ (fun z => ?_) (fun z => ?_) | with_reducible refine c_ne ?_ ?_ (fun z => ?_) (fun z => ?_)
    · omega
    · omega
    · omega
    · refine sX11_within hwh (by omega) (by omega) ?_
      first | with_reducible refine b_eq (fun h3 => ?_) (fun h3 => ?_) | with_reducible refine b_ne (fun h3 => ?_) (fun h3 => ?_)
      · exact zX11_step_29 (zX11_step_30 ⟨by decide, by decide, nA_f ⟨rfl, no (fun z => h3 z.2.2)⟩⟩)
      refine zX11_step_30 ⟨by decide, by decide, nA_t ?_⟩
      obtain ⟨C, rfl⟩ := Int.eq_ofNat_of_zero_le h1.1
      subst a1
      have s12 : s < 4096 := Nat.lt_of_lt_of_le a3 (pow_12 hm)
      have nb : ∀ a b, a < 12 → b < 12 → -2000000000 ≤ netC g a b C ∧ netC g a b C ≤ 2000000000 := fun a b ha hb => we.1.2.2.1 ((a * 12 + b) * 4 + C) (by omega)
      have hl : (fwM (fun a b => netC g a b C) m s.testBit m).length ≤ 9 := Nat.le_trans (fwM_len m) (Nat.le_trans (popN_le hm) a4)
      have I0 := fw_I (N := fun a b => netC g a b C) (st := s.testBit) hm nb (fw_anti we hm (by omega)) hl
      refine sX1_findSettlings (d := d + 2) (m := m) rfl rfl rfl we.1 em hm (by omega) s12 a4 (fw_anti we hm (by omega)) (fun g1 G c1 hG r1 => ?_)
      have len : (fwR (fwSS (fwM (fun a b => netC g a b C) m s.testBit m) (fwO (fun a b => netC g a b C) m s.testBit)) G (fwM (fun a b => netC g a b C) m s.testBit m).length 9 (2 ^ (fwM (fun a b => netC g a b C) m s.testBit m).length - 1) (fwS0 (fwM (fun a b => netC g a b C) m s.testBit m) (fwO (fun a b => netC g a b C) m s.testBit))).2.length ≤ 9 := fwR_len hl hG (Nat.le_refl _) 9 _ _ I0
      have ref : ∀ v, (∀ g' : mz_S, SsG g' 155 99 83 152 153 157 (fwM (fun a b => netC g a b C) m s.testBit m).length (fwM (fun a b => netC g a b C) m s.testBit m) (fwR (fwSS (fwM (fun a b => netC g a b C) m s.testBit m) (fwO (fun a b => netC g a b C) m s.testBit)) G (fwM (fun a b => netC g a b C) m s.testBit m).length 9 (2 ^ (fwM (fun a b => netC g a b C) m s.testBit m).length - 1) (fwS0 (fwM (fun a b => netC g a b C) m s.testBit m) (fwO (fun a b => netC g a b C) m s.testBit))) → (¬ (0 ≤ x ∧ x ≤ g' 99 83 - 1) → v = -1) ∧ (0 ≤ x ∧ x ≤ g' 99 83 - 1 → (w = 0 → v = g' 152 x.toNat) ∧ (w = 1 → v = g' 153 x.toNat) ∧ (w = 2 → v = g' 157 x.toNat))) → zC T (d + 8) 302 [mx_R 99, mx_I (C : Int), mx_I (s : Int), mx_I x, mx_I w] (mx_up g1 179 0 (w32 v)) (fun r g2 => AnsI 0 r g2 ∧ Qy fwC fwFl g g2) X' := by
        intro v hv
        refine zX12_step ?_
        intro g2 e2
        have c2 : Ch [62, 65, 66, 67, 68, 69, 70, 71, 179] [0] g g2 := by rw [e2]; exact ((c1.sub (by decide) (by decide)).up (by decide) (by decide)).up9 (by decide)
        refine sX12_isCoin hc ?_
        first | with_reducible refine b_eq (fun y1 => ?_) (fun y1 => ?_) | with_reducible refine b_ne (fun y1 => ?_) (fun y1 => ?_)
        · exact absurd h1 y1
        · refine sX12_isSet (m := m) hs (by rw [c2.2 10 (by decide), wb.2.1.1, em]) hm (fun s' b1 b2 b3 b4 => ?_) (fun y => absurd ⟨s, rfl, a2, a3, a4⟩ y)
          first | with_reducible refine c_lt ?_ ?_ (fun y2 => ?_) (fun y2 => ?_) | with_reducible refine c_le ?_ ?_ (fun y2 => ?_) (fun y2 => ?_) | with_reducible refine c_eq ?_ ?_ (fun y2 => ?_) (fun y2 => ?_) | with_reducible refine c_ne ?_ ?_ (fun y2 => ?_) (fun y2 => ?_)
          · omega
          · omega
          · omega
          · refine sX12_withinW hwh (by omega) (by omega) ?_
            first | with_reducible refine b_eq (fun y3 => ?_) (fun y3 => ?_) | with_reducible refine b_ne (fun y3 => ?_) (fun y3 => ?_)
            · refine sX12_seekFewest (d := d + 3) (c := g) (m := m) rfl rfl rfl we.1 we.2.1 (we.2.2.1.fr c2 (by decide) (by decide)) (by rw [c2.2 10 (by decide), wb.2.1.1, em]) hm (by omega) s12 a4 (fw_anti we hm (by omega)) hG (fun g4 c4 r4 => ?_)
              have c5 : Ch fwC fwFl g g4 := (c2.sub (by decide) (by decide)).tr (c4.sub (by decide) (by decide))
              have h4 := hv g4 r4
              have l4 := r4.2.1
              generalize fwR (fwSS (fwM (fun a b => netC g a b C) m s.testBit m) (fwO (fun a b => netC g a b C) m s.testBit)) G (fwM (fun a b => netC g a b C) m s.testBit m).length 9 (2 ^ (fwM (fun a b => netC g a b C) m s.testBit m).length - 1) (fwS0 (fwM (fun a b => netC g a b C) m s.testBit m) (fwO (fun a b => netC g a b C) m s.testBit)) = R at len l4
              have fin : ∀ v', v' = v → AnsI 0 v' g4 ∧ Qy fwC fwFl g g4 := by
                intro v' e
                refine ⟨⟨by omega, by rw [c4.2 0 (by decide), e2, up_s], fun _ => ?_⟩, c5, fun z => z.fr c5 (by decide)⟩
                rw [c4.1 179 (by decide) (by decide), e2, up_q (by decide), up_s, e]
              rw [show w32 (g4 99 83 - 1) = g4 99 83 - 1 from w32_of (by omega) (by omega)]
              refine sX12_withinW hx (by omega) (by omega) ?_
              first | with_reducible refine b_eq (fun y4 => ?_) (fun y4 => ?_) | with_reducible refine b_ne (fun y4 => ?_) (fun y4 => ?_)
              · first | with_reducible refine c_lt ?_ ?_ (fun y5 => ?_) (fun y5 => ?_) | with_reducible refine c_le ?_ ?_ (fun y5 => ?_) (fun y5 => ?_) | with_reducible refine c_eq ?_ ?_ (fun y5 => ?_) (fun y5 => ?_) | with_reducible refine c_ne ?_ ?_ (fun y5 => ?_) (fun y5 => ?_)
                · omega
                · omega
                · first | with_reducible refine c_lt ?_ ?_ (fun y6 => ?_) (fun y6 => ?_) | with_reducible refine c_le ?_ ?_ (fun y6 => ?_) (fun y6 => ?_) | with_reducible refine c_eq ?_ ?_ (fun y6 => ?_) (fun y6 => ?_) | with_reducible refine c_ne ?_ ?_ (fun y6 => ?_) (fun y6 => ?_)
                  · omega
                  · omega
                  · refine s_in (by omega) (fun ea => ?_)
                    rw [ea]
                    exact zX12_step_99 (fin _ ((h4.2 y4).2.2 (by omega)).symm)
                  · refine s_in (by omega) (fun ea => ?_)
                    rw [ea]
                    exact zX12_step_99 (fin _ ((h4.2 y4).2.1 (by omega)).symm)
                · refine s_in (by omega) (fun ea => ?_)
                  rw [ea]
                  exact zX12_step_99 (fin _ ((h4.2 y4).1 (by omega)).symm)
              · exact fin _ (h4.1 y4).symm
            · exact absurd h3 y3
      have l1 := r1.2.1
      have j1 := r1.2.2
      have refJ : ∀ v, (∀ g' : mz_S, (g' 99 83 = g1 62 10) → (∀ j : Nat, (j : Int) < g1 62 10 → g' 152 j = g1 69 j ∧ g' 153 j = g1 70 j ∧ g' 157 j = g1 71 j) → (¬ (0 ≤ x ∧ x ≤ g' 99 83 - 1) → v = -1) ∧ (0 ≤ x ∧ x ≤ g' 99 83 - 1 → (w = 0 → v = g' 152 x.toNat) ∧ (w = 1 → v = g' 153 x.toNat) ∧ (w = 2 → v = g' 157 x.toNat))) → zC T (d + 8) 302 [mx_R 99, mx_I (C : Int), mx_I (s : Int), mx_I x, mx_I w] (mx_up g1 179 0 (w32 v)) (fun r g2 => AnsI 0 r g2 ∧ Qy fwC fwFl g g2) X' := by
        intro v hv
        refine ref v (fun g' h' => hv g' (by rw [h'.2.1, l1]) (fun j hj => ?_))
        rw [l1] at hj
        have hj2 := Int.ofNat_lt.mp hj
        obtain ⟨u1, u2, u3⟩ := h'.2.2 j hj2
        obtain ⟨t1, t2, t3⟩ := j1 j hj2
        exact ⟨u1.trans t1.symm, u2.trans t2.symm, u3.trans t3.symm⟩
      have l2 : 0 ≤ g1 62 10 ∧ g1 62 10 ≤ 9 := by rw [l1]; omega
      clear ref r1 l1 j1 len hG I0 hl
      refine sX11_within hx (by omega) (by omega) ?_
      first | with_reducible refine b_eq (fun y1 => ?_) (fun y1 => ?_) | with_reducible refine b_ne (fun y1 => ?_) (fun y1 => ?_)
      · have X1 : (x.toNat : Int) < g1 62 10 := by omega
        first | with_reducible refine c_lt ?_ ?_ (fun y2 => ?_) (fun y2 => ?_) | with_reducible refine c_le ?_ ?_ (fun y2 => ?_) (fun y2 => ?_) | with_reducible refine c_eq ?_ ?_ (fun y2 => ?_) (fun y2 => ?_) | with_reducible refine c_ne ?_ ?_ (fun y2 => ?_) (fun y2 => ?_)
        · omega
        · omega
        · first | with_reducible refine c_lt ?_ ?_ (fun y3 => ?_) (fun y3 => ?_) | with_reducible refine c_le ?_ ?_ (fun y3 => ?_) (fun y3 => ?_) | with_reducible refine c_eq ?_ ?_ (fun y3 => ?_) (fun y3 => ?_) | with_reducible refine c_ne ?_ ?_ (fun y3 => ?_) (fun y3 => ?_)
          · omega
          · omega
          · refine s_in (by omega) (fun ea => ?_)
            rw [ea]
            refine zX11_step_104 (refJ _ (fun g' h1' h2' => ?_))
            rw [h1', (h2' _ X1).1, (h2' _ X1).2.1, (h2' _ X1).2.2]
            exact ⟨fun y => absurd y1 y, fun _ => ⟨fun y => by omega, fun _ => rfl, fun y => by omega⟩⟩
          · refine s_in (by omega) (fun ea => ?_)
            rw [ea]
            refine zX11_step_104 (refJ _ (fun g' h1' h2' => ?_))
            rw [h1', (h2' _ X1).1, (h2' _ X1).2.1, (h2' _ X1).2.2]
            exact ⟨fun y => absurd y1 y, fun _ => ⟨fun _ => rfl, fun y => by omega, fun y => by omega⟩⟩
        · refine s_in (by omega) (fun ea => ?_)
          rw [ea]
          refine refJ _ (fun g' h1' h2' => ?_)
          rw [h1', (h2' _ X1).1, (h2' _ X1).2.1, (h2' _ X1).2.2]
          exact ⟨fun y => absurd y1 y, fun _ => ⟨fun y => by omega, fun y => by omega, fun _ => rfl⟩⟩
      · refine refJ _ (fun g' h1' h2' => ?_)
        rw [h1']
        exact ⟨fun _ => rfl, fun y => absurd y y1⟩
  · first | with_reducible refine c_lt ?_ ?_ (fun z => ?_) (fun z => ?_) | with_reducible refine c_le ?_ ?_ (fun z => ?_) (fun z => ?_) | with_reducible refine c_eq ?_ ?_ (fun z => ?_) (fun z => ?_) | with_reducible refine c_ne ?_ ?_ (fun z => ?_) (fun z => ?_)
    · omega
    · omega
    · exact zX11_step_29 (zX11_step_30 ⟨by decide, by decide, nA_f ⟨rfl, no (fun z => h2 z.2.1)⟩⟩)
    · omega
