/-! the call cross -/
def crN (B : rgR) (k : Nat) : Nat := B.2.2.getD (if k + 1 < B.1 then k + 1 else 0) 0
def crE (g : mz_S) (B : rgR) (k : Nat) : mvE := (B.2.2.getD k 0, crN B k, -B.2.1, 3, g 10 (crN B k))
def crS : List Nat := [62, 63, 64, 148, 149, 150, 179, 15, 16, 17, 18, 19, 20, 21, 22, 23, 111, 112, 113, 114, 115, 116, 117, 118]
def crF : List Nat := [0, 16, 73, 74]
theorem crN_lt {m k : Nat} {B : rgR} (h : RgB m B) (hk : k < B.1) : B.2.2.getD k 0 < m ∧ crN B k < m := by
  obtain ⟨h1, h2, h3, h4⟩ := h
  refine ⟨getD_lt h4 (by omega), getD_lt h4 ?_⟩
  split <;> omega
theorem sX1_crossOut {T : Nat × (Nat → Int32)} {d : Nat} {Q : mz_K} {X : mz_X} {g : mz_S} {c : mz_S} {co m : Nat} {B : rgR} (wb : WfB c) (em : c 9 1 = (m : Int)) (hco : co < 4) (h15 : 0 ≤ c 15 2 ∧ c 15 2 + (B.1 : Int) ≤ 400) (hB : RgB m B) (hr : RgC g B) (h10 : g 10 = c 10) (h0 : mvP c co (crE c B) 0 g) (k : ∀ g', Ch [15, 16, 17, 18, 19, 20, 21, 22, 23] [] g g' → mvP c co (crE c B) B.1 g' → Q B.2.1 g') : zC T (d + 3) 15 [mx_R 62, mx_I (co : Int)] g Q X := by
  have hw := wb.1
  obtain ⟨b1, b2, b3, b4⟩ := hB
  refine zX1_crossOut ?_
  have main : ∀ n i : Nat, i + n = B.1 → ∀ G o3, Ch [15, 16, 17, 18, 19, 20, 21, 22, 23] [] g G → mvP c co (crE c B) i G → aX1_crossOut T (d + 2) Q X 2 [some (mx_R 62), some (mx_I (co : Int)), some (mx_I (i : Int)), o3] [] G (0, 0) := by
    intro n
    induction n with
    | zero =>
      intro i hi G o3 cG pG
      have r62 : G 62 4 = (B.1 : Int) := by rw [cG.1 62 (by decide) (by decide)]; exact hr.1
      have r5 : G 62 5 = B.2.1 := by rw [cG.1 62 (by decide) (by decide)]; exact hr.2.1
      refine zX1_crossOut_2 ?_
      rw [r62, r5]
      first | with_reducible refine c_lt ?_ ?_ (fun z => ?_) (fun z => ?_) | with_reducible refine c_le ?_ ?_ (fun z => ?_) (fun z => ?_) | with_reducible refine c_eq ?_ ?_ (fun z => ?_) (fun z => ?_) | with_reducible refine c_ne ?_ ?_ (fun z => ?_) (fun z => ?_)
      · omega
      · omega
      · have := k G cG
        rw [show i = B.1 by omega] at pG
        exact this pG
      · omega
    | succ n ih =>
      intro i hi G o3 cG pG
      have r62 : G 62 4 = (B.1 : Int) := by rw [cG.1 62 (by decide) (by decide)]; exact hr.1
      have r5 : G 62 5 = B.2.1 := by rw [cG.1 62 (by decide) (by decide)]; exact hr.2.1
      have r64 : ∀ j, j < B.1 → G 64 j = (B.2.2.getD j 0 : Nat) := fun j hj => by rw [cG.1 64 (by decide) (by decide)]; exact hr.2.2 j hj
      have lt := crN_lt (m := m) (B := B) ⟨b1, b2, b3, b4⟩ (k := i) (by omega)
      have e15 : G 15 2 = c 15 2 + i := by rw [pG.1 15 (by decide), mvV_15]
      have step : ∀ s1 : Nat, s1 < B.1 → B.2.2.getD s1 0 = crN B i → aX1_crossOut T (d + 2) Q X 31 [some (mx_R 62), some (mx_I (co : Int)), some (mx_I (i : Int)), o3] [mx_I (s1 : Int), mx_R 64] G (0, 0) := by
        intro s1 hs e
        refine zX1_crossOut_31 ?_
        refine s_inN ?_ (fun ea => ?_)
        · omega
        try simp only [ea]
        clear ea
        rw [r64 s1 hs, e]
        refine s_inN ?_ (fun ea => ?_)
        · omega
        try simp only [ea]
        clear ea
        refine s_inN ?_ (fun ea => ?_)
        · omega
        try simp only [ea]
        clear ea
        rw [r64 i (by omega), cG.1 10 (by decide) (by decide), h10, r5]
        refine sX6_record (d := d) (by omega) (by omega) (by omega) (by omega) (by omega) ?_
        have c1 := recE_ch G co (crE c B i)
        have p1 := pG.step
        rw [show (i : Int) + 1 = ((i + 1 : Nat) : Int) by omega]
        exact ih (i + 1) (by omega) (recE G co (crE c B i)) _ (cG.tr (c1.sub (by decide) (by decide))) p1
      refine zX1_crossOut_2 ?_
      rw [r62]
      first | with_reducible refine c_lt ?_ ?_ (fun z => ?_) (fun z => ?_) | with_reducible refine c_le ?_ ?_ (fun z => ?_) (fun z => ?_) | with_reducible refine c_eq ?_ ?_ (fun z => ?_) (fun z => ?_) | with_reducible refine c_ne ?_ ?_ (fun z => ?_) (fun z => ?_)
      · omega
      · omega
      · omega
      · first | with_reducible refine c_lt ?_ ?_ (fun z2 => ?_) (fun z2 => ?_) | with_reducible refine c_le ?_ ?_ (fun z2 => ?_) (fun z2 => ?_) | with_reducible refine c_eq ?_ ?_ (fun z2 => ?_) (fun z2 => ?_) | with_reducible refine c_ne ?_ ?_ (fun z2 => ?_) (fun z2 => ?_)
        · omega
        · omega
        · exact step 0 (by omega) (by unfold crN; rw [if_neg (by omega)])
        · rw [show (i : Int) + 1 = ((i + 1 : Nat) : Int) by omega]
          exact step (i + 1) (by omega) (by unfold crN; rw [if_pos (by omega)])
  exact main B.1 0 (by omega) g none (Ch.rf g) h0
theorem irem5 {s k : Nat} (hs : s < 6) (hk : k < s) : mx_irem ((k + 1 : Nat) : Int) (s : Int) = ((if k + 1 < s then k + 1 else 0 : Nat) : Int) := by
  have : ∀ s, s < 6 → ∀ k, k < s → mx_irem ((k + 1 : Nat) : Int) (s : Int) = ((if k + 1 < s then k + 1 else 0 : Nat) : Int) := by decide +kernel
  exact this s hs k hk
theorem sX12_cross_at {T : Nat × (Nat → Int32)} {d : Nat} {Q : mz_K} {X : mz_X} {g : mz_S} {c : mz_S} {co m : Nat} {x2 : Int} {B : rgR} (wb : WfB c) (em : c 9 1 = (m : Int)) (h16 : 0 ≤ c 99 16 ∧ c 99 16 + (B.1 : Int) ≤ 400) (hB : RgB m B) (hr : RgR g B) (h106 : ∀ j, j < 12 → g 106 j = c 10 j) (h0 : mvQ c co (crE c B) 0 g) (k : ∀ g', Ch [111, 112, 113, 114, 115, 116, 117, 118] [16] g g' → mvQ c co (crE c B) B.1 g' → Q B.2.1 g') : aX12_cross T (d + 2) Q X 61 [some (mx_R 99), some (mx_I (co : Int)), some (mx_I x2), some (mx_I 0), none] [] g (0, 0) := by
  have hw := wb.1
  obtain ⟨b1, b2, b3, b4⟩ := hB
  have main : ∀ n i : Nat, i + n = B.1 → ∀ G o3, Ch [111, 112, 113, 114, 115, 116, 117, 118] [16] g G → mvQ c co (crE c B) i G → aX12_cross T (d + 2) Q X 61 [some (mx_R 99), some (mx_I (co : Int)), some (mx_I x2), some (mx_I (i : Int)), o3] [] G (0, 0) := by
    intro n
    induction n with
    | zero =>
      intro i hi G o3 cG pG
      refine zX12_cross_61 ?_
      rw [cG.2 73 (by decide), hr.1, cG.2 74 (by decide), hr.2.1]
      first | with_reducible refine c_lt ?_ ?_ (fun z => ?_) (fun z => ?_) | with_reducible refine c_le ?_ ?_ (fun z => ?_) (fun z => ?_) | with_reducible refine c_eq ?_ ?_ (fun z => ?_) (fun z => ?_) | with_reducible refine c_ne ?_ ?_ (fun z => ?_) (fun z => ?_)
      · omega
      · omega
      · have := k G cG
        rw [show i = B.1 by omega] at pG
        exact this pG
      · omega
    | succ n ih =>
      intro i hi G o3 cG pG
      have r150 : ∀ j, j < B.1 → G 150 j = (B.2.2.getD j 0 : Nat) := fun j hj => by rw [cG.1 150 (by decide) (by decide)]; exact hr.2.2 j hj
      have lt := crN_lt (m := m) (B := B) ⟨b1, b2, b3, b4⟩ (k := i) (by omega)
      have e16 : G 99 16 = c 99 16 + i := by rw [pG.2.1, mvV_16]
      refine zX12_cross_61 ?_
      rw [cG.2 73 (by decide), hr.1, cG.2 74 (by decide), hr.2.1]
      first | with_reducible refine c_lt ?_ ?_ (fun z => ?_) (fun z => ?_) | with_reducible refine c_le ?_ ?_ (fun z => ?_) (fun z => ?_) | with_reducible refine c_eq ?_ ?_ (fun z => ?_) (fun z => ?_) | with_reducible refine c_ne ?_ ?_ (fun z => ?_) (fun z => ?_)
      · omega
      · omega
      · omega
      · refine ⟨by rw [w32_of (by omega) (by omega)]; omega, ?_⟩
        rw [show (i : Int) + 1 = ((i + 1 : Nat) : Int) by omega, irem5 (s := B.1) (k := i) (by omega) (by omega)]
        have lt2 : (if i + 1 < B.1 then i + 1 else 0) < B.1 := by split <;> omega
        refine s_inN ?_ (fun ea => ?_)
        · omega
        try simp only [ea]
        clear ea
        rw [r150 _ lt2, show B.2.2.getD (if i + 1 < B.1 then i + 1 else 0) 0 = crN B i from rfl]
        refine s_inN ?_ (fun ea => ?_)
        · omega
        try simp only [ea]
        clear ea
        refine s_inN ?_ (fun ea => ?_)
        · omega
        try simp only [ea]
        clear ea
        rw [r150 i (by omega), cG.1 106 (by decide) (by decide), h106 _ (by omega)]
        refine sX12_enter (d := d + 1) (by omega) ?_
        have c1 := entE_ch G co (crE c B i)
        exact ih (i + 1) (by omega) (entE G co (crE c B i)) _ (cG.tr c1) pG.step
  exact main B.1 0 (by omega) g none (Ch.rf g) h0
theorem cr_ab {B : rgR} {N : Nat → Nat → Int} (h : RgE N B) {i k : Nat} (hi : i < B.1) (hk : k < i) : ¬ (B.2.2.getD i 0 = B.2.2.getD k 0 ∧ crN B i = crN B k) ∧ ¬ (B.2.2.getD i 0 = crN B k ∧ crN B i = B.2.2.getD k 0) := by
  obtain ⟨h1, h2, h3, h4, h5⟩ := h
  refine ⟨fun z => ?_, fun z => ?_⟩
  · have := nodup_getD h3 (by omega) (by omega) z.1
    omega
  · obtain ⟨z1, z2⟩ := z
    unfold crN at z1 z2
    have e1 := nodup_getD h3 (by omega) (by split <;> omega) z1
    have e2 := nodup_getD h3 (by split <;> omega) (by omega) z2
    split at e1 <;> split at e2 <;> omega
theorem cr_ne {B : rgR} {N : Nat → Nat → Int} (h : RgE N B) {k : Nat} (hk : k < B.1) : B.2.2.getD k 0 ≠ crN B k := by
  obtain ⟨h1, h2, h3, h4, h5⟩ := h
  intro z
  unfold crN at z
  have e1 := nodup_getD h3 (by omega) (by split <;> omega) z
  split at e1 <;> omega
theorem cr_net {g : mz_S} {co m : Nat} {B : rgR} (h : RgE (fun a b => netC g a b co) B) (hB : RgB m B) (hm : m ≤ 12) (hc : co < 4) : ∀ k, k ≤ B.1 → ∀ i, k ≤ i → i < B.1 → netC (mvV g co (crE g B) k) (B.2.2.getD i 0) (crN B i) co = netC g (B.2.2.getD i 0) (crN B i) co := by
  intro k
  induction k with
  | zero => intro _ i _ _; rfl
  | succ k ih =>
    intro hk i hi hi2
    have lk := crN_lt hB (k := k) (by omega)
    have li := crN_lt hB (k := i) (by omega)
    have ab := cr_ab h hi2 (show k < i by omega)
    have e := mvV_net (g := g) (co := co) (E := crE g B) (k := k) (x := B.2.2.getD i 0) (y := crN B i) (by omega) (by omega) (show B.2.2.getD k 0 < 12 by omega) (show crN B k < 12 by omega) hc (cr_ne h (by omega))
    rw [e, ih (by omega) i (by omega) hi2, if_neg (show ¬ (B.2.2.getD i 0 = (crE g B k).1 ∧ crN B i = (crE g B k).2.1) from ab.1), if_neg (show ¬ (B.2.2.getD i 0 = (crE g B k).2.1 ∧ crN B i = (crE g B k).1) from ab.2), Int.add_zero]
theorem C_cross {T : Nat × (Nat → Int32)} {d : Nat} {X X' : mz_X} {g : mz_S} {co mo : Int} (wl : IL g) (wb : IB g) (we : IE g) (hc : R32 co) (hm : R32 mo) : zC T (d + 12) 375 [mx_R 0, mx_I co, mx_I mo, mx_R 179] g (fun kk g1 => zC T (d + 12) 293 [mx_R 99, mx_I co, mx_I mo] g1 (fun r g2 => AnsI kk r g2 ∧ IE g2 ∧ Qy crS crF g g2) X') X := by
  have hw := wb.1.1
  have hw2 := we.1.1
  have bad : ∀ n : Int, 1 ≤ n ∧ n ≤ 3 → AnsI n 0 (mx_up (mx_up g 99 0 0) 99 0 n) ∧ IE (mx_up (mx_up g 99 0 0) 99 0 n) ∧ Qy crS crF g (mx_up (mx_up g 99 0 0) 99 0 n) := fun n hn => by
    have q := qy_bad (S := crS) (F := crF) (Ch.rf g) (fun z => z) (by decide) n hn
    exact ⟨q.1, we.fr (ch_bad g n) (by decide) (by decide), q.2⟩
  have no : ¬ ((0 ≤ co ∧ co ≤ 3) ∧ (3 ≤ mo ∧ mo ≤ 5)) → zC T (d + 12) 293 [mx_R 99, mx_I co, mx_I mo] g (fun r g2 => AnsI 1 r g2 ∧ IE g2 ∧ Qy crS crF g g2) X' := by
    intro h
    refine zX12_cross ?_
    intro g2 e2
    rw [← e2] at bad
    have b := bad 1 (by omega)
    refine sX12_isCoin hc ?_
    first | with_reducible refine b_eq (fun y1 => ?_) (fun y1 => ?_) | with_reducible refine b_ne (fun y1 => ?_) (fun y1 => ?_)
    · exact zX12_cross_26 (sX12_fails b)
    · refine sX12_withinW (by omega) (by omega) (by omega) ?_
      first | with_reducible refine b_eq (fun y2 => ?_) (fun y2 => ?_) | with_reducible refine b_ne (fun y2 => ?_) (fun y2 => ?_)
      · exact absurd ⟨y1, y2⟩ h
      · exact zX12_cross_26 (sX12_fails b)
  refine wL_cross (zX11_cross (sX11_isCoin hc ?_))
  first | with_reducible refine b_eq (fun h1 => ?_) (fun h1 => ?_) | with_reducible refine b_ne (fun h1 => ?_) (fun h1 => ?_)
  · exact zX11_cross_20 (zX11_cross_21 ⟨by decide, by decide, nA_f (Or.inl ⟨rfl, no (fun z => h1 z.1)⟩)⟩)
  refine sX11_within hm (by omega) (by omega) ?_
  first | with_reducible refine b_eq (fun h2 => ?_) (fun h2 => ?_) | with_reducible refine b_ne (fun h2 => ?_) (fun h2 => ?_)
  · exact zX11_cross_20 (zX11_cross_21 ⟨by decide, by decide, nA_f (Or.inl ⟨rfl, no (fun z => h2 z.2)⟩)⟩)
  refine zX11_cross_21 ⟨by decide, by decide, nA_t ?_⟩
  obtain ⟨C, rfl⟩ := Int.eq_ofNat_of_zero_le h1.1
  obtain ⟨M, rfl⟩ := Int.eq_ofNat_of_zero_le (show 0 ≤ mo by omega)
  obtain ⟨m, em⟩ := Int.eq_ofNat_of_zero_le hw.1
  refine sX1_findRing (d := d) (m := m) we.1 em (by omega) (by omega) (by omega) (fun g1 c1 r1 b1 => ?_)
  have r1 : RgC g1 (rgBst g m C M) := r1
  have b1 : RgB m (rgBst g m C M) := b1
  have bE : rgBst g m C M = (0, 0, []) ∨ RgE (fun a b => netC g a b C) (rgBst g m C M) := best_E
  generalize hB : rgBst g m C M = B at r1 b1 bE
  obtain ⟨q1, q2, q3, q4⟩ := b1
  have ref : ∀ G, Ch [62, 63, 64, 15, 16, 17, 18, 19, 20, 21, 22, 23, 179] [] g G → ∀ (kk : Int), (g 15 2 + (B.1 : Int) ≤ 400 → ∀ G2, Ch [148, 149, 150] [0, 73, 74] G G2 → G2 99 0 = 0 → RgR G2 B → aX12_cross T (d + 11) (fun r g2 => AnsI kk r g2 ∧ IE g2 ∧ Qy crS crF g g2) X' 61 [some (mx_R 99), some (mx_I (C : Int)), some (mx_I (M : Int)), some (mx_I 0), none] [] G2 (0, 0)) → (¬ g 15 2 + (B.1 : Int) ≤ 400 → ∀ G2, Ch [148, 149, 150] [0, 73, 74] G G2 → AnsI kk 0 (mx_up G2 99 0 2) ∧ IE (mx_up G2 99 0 2) ∧ Qy crS crF g (mx_up G2 99 0 2)) → zC T (d + 12) 293 [mx_R 99, mx_I (C : Int), mx_I (M : Int)] G (fun r g2 => AnsI kk r g2 ∧ IE g2 ∧ Qy crS crF g g2) X' := by
    intro G cG kk k1 k2
    refine zX12_cross ?_
    intro g2 e2
    have c2 : Ch [62, 63, 64, 15, 16, 17, 18, 19, 20, 21, 22, 23, 179] [0] g g2 := by rw [e2]; exact (cG.sub (by decide) (by decide)).up9 (by decide)
    have c02 : Ch [] [0] G g2 := by rw [e2]; exact ch_0 G 0
    refine sX12_isCoin hc ?_
    first | with_reducible refine b_eq (fun y1 => ?_) (fun y1 => ?_) | with_reducible refine b_ne (fun y1 => ?_) (fun y1 => ?_)
    · exact absurd h1 y1
    · refine sX12_withinW (by omega) (by omega) (by omega) ?_
      first | with_reducible refine b_eq (fun y2 => ?_) (fun y2 => ?_) | with_reducible refine b_ne (fun y2 => ?_) (fun y2 => ?_)
      · refine sX12_seekBst (c := g) (m := m) (d := d + 3) we.1 we.2.1 (we.2.2.1.fr c2 (by decide) (by decide)) (by rw [c2.2 10 (by decide), wb.2.1.1, em]) (by omega) (by omega) (by omega) (fun g3 c3 r3 b3 => ?_)
        rw [hB] at r3
        have cc : Ch [148, 149, 150] [0, 73, 74] G g3 := (c02.sub (by decide) (by decide)).tr (c3.sub (by decide) (by decide))
        rw [c3.2 16 (by decide), c2.2 16 (by decide), we.2.2.1.1, r3.1]
        first | with_reducible refine c_lt ?_ ?_ (fun z => ?_) (fun z => ?_) | with_reducible refine c_le ?_ ?_ (fun z => ?_) (fun z => ?_) | with_reducible refine c_eq ?_ ?_ (fun z => ?_) (fun z => ?_) | with_reducible refine c_ne ?_ ?_ (fun z => ?_) (fun z => ?_)
        · omega
        · omega
        · exact k1 z g3 cc (by rw [c3.2 0 (by decide), e2, up_s]) r3
        · exact sX12_fails (k2 z g3 cc)
      · exact absurd h2 y2
  rw [r1.1]
  refine sX6_hasRoom (by rw [c1.1 15 (by decide) (by decide)]; exact hw2) (by omega) ⟨by decide, by decide, ?_⟩
  rw [c1.1 15 (by decide) (by decide)]
  refine sX11_needState (fun h3 => ?_) (fun h3 => Or.inr ⟨rfl, ?_⟩)
  · refine sX1_crossOut (c := g) (m := m) (B := B) (d := d + 7) wb.1 em (by omega) ⟨hw2.1, h3⟩ ⟨q1, q2, q3, q4⟩ r1 (c1.1 10 (by decide) (by decide)) ⟨fun q hq => c1.1 q (by simp at hq ⊢; omega) (by intro z; subst z; revert hq; decide), by rw [c1.1 1 (by decide) (by decide)]⟩ (fun g2 c2 p2 => ?_)
    obtain ⟨G, eG⟩ : ∃ G, G = mx_up g2 179 0 (w32 B.2.1) := ⟨_, rfl⟩
    rw [← eG]
    have cG : Ch [62, 63, 64, 15, 16, 17, 18, 19, 20, 21, 22, 23, 179] [] g G := by rw [eG]; exact ((c1.sub (by decide) (by decide)).tr (c2.sub (by decide) (by decide))).up (by decide) (by decide)
    have pG : mvP g C (crE g B) B.1 G := p2.fr (S := [179]) (F := []) (by rw [eG]; exact (Ch.rf g2).up (by decide) (by decide)) (by decide)
    have w32B : w32 B.2.1 = w32 B.2.1 := rfl
    refine ref G cG 0 (fun _ G2 c3 z0 r3 => ?_) (fun z => absurd h3 z)
    have cg2 : Ch crS [0, 73, 74] g G2 := (cG.sub (by decide) (by decide)).tr (c3.sub (by decide) (by decide))
    refine sX12_cross_at (c := g) (m := m) (B := B) (d := d + 9) wb.1 em (by rw [we.2.2.1.1]; exact ⟨hw2.1, h3⟩) ⟨q1, q2, q3, q4⟩ r3 (fun j hj => by rw [cg2.1 106 (by decide) (by decide)]; exact (wb.2.1.2.1 j hj).1) ⟨fun q hq => ?_, by rw [cg2.2 16 (by decide)]; rfl, cg2.2 1 (by decide)⟩ (fun G3 c4 mq => ?_)
    · rw [c3.1 q (by simp at hq ⊢; omega) (by intro z; subst z; revert hq; decide), cG.1 q (by simp at hq ⊢; omega) (by intro z; subst z; revert hq; decide)]
      rfl
    have call : Ch crS crF g G3 := (cg2.sub (by decide) (by decide)).tr (c4.sub (by decide) (by decide))
    have cV := mvV_ch g C (crE g B) B.1
    refine ⟨⟨by omega, ?_, fun _ => ?_⟩, ?_, call, fun z => z.fr call (by decide)⟩
    · rw [c4.2 0 (by decide), z0]
    · rw [c4.1 179 (by decide) (by decide), c3.1 179 (by decide) (by decide), eG, up_s]
    · have ie : IE (mvV g C (crE g B) B.1) := by
        refine IE.mv wl we (by omega) (by omega) (fun k hk => ?_) (fun k hk wk => ?_) B.1 (Nat.le_refl _)
        · rcases bE with z | z
          · rw [z] at hk; exact absurd hk (Nat.not_lt_zero _)
          · have lk := crN_lt (m := m) (B := B) ⟨q1, q2, q3, q4⟩ hk
            refine ⟨by show B.2.2.getD k 0 < 12; omega, by show crN B k < 12; omega, cr_ne z hk, ⟨by show -2000000000 ≤ -B.2.1; omega, by show -B.2.1 ≤ 2000000000; omega⟩, ⟨by show (0 : Int) ≤ 3; omega, by show (3 : Int) ≤ 5; omega, by show ¬ (3 : Int) = 2; omega⟩, (wb.1.2.1 (crN B k) (by omega)).1⟩
        · rcases bE with z | z
          · rw [z] at hk; exact absurd hk (Nat.not_lt_zero _)
          · have lk := crN_lt (m := m) (B := B) ⟨q1, q2, q3, q4⟩ hk
            have e := cr_net z ⟨q1, q2, q3, q4⟩ (by omega) (by omega) k (by omega) k (Nat.le_refl _) hk
            have z5 : B.2.1 ≤ netC g (B.2.2.getD k 0) (crN B k) C := z.2.2.2.2 k hk
            have nb := wk.2.2.2.1 (B.2.2.getD k 0) (crN B k) C (by omega) (by omega) (by omega)
            rw [e] at nb
            show -(nbB (mvV g C (crE g B) k) (B.2.2.getD k 0) (crN B k) C + 100000) ≤ netC (mvV g C (crE g B) k) (B.2.2.getD k 0) (crN B k) C + -B.2.1 ∧ netC (mvV g C (crE g B) k) (B.2.2.getD k 0) (crN B k) C + -B.2.1 ≤ nbB (mvV g C (crE g B) k) (B.2.2.getD k 0) (crN B k) C + 100000
            rw [e]
            have ps := nbB_pos (g := mvV g C (crE g B) k) (by rw [mvV_15]; omega) (B.2.2.getD k 0) (crN B k) C
            omega
      refine ie.cg (fun q hq => ?_) mq.2.1
      by_cases z : q = 13
      · subst z
        rw [call.1 13 (by decide) (by decide), cV.1 13 (by decide) (by decide)]
      · by_cases z2 : q < 26
        · rw [c4.1 q (by simp at hq ⊢; omega) (by simp at hq; omega), c3.1 q (by simp at hq ⊢; omega) (by simp at hq; omega)]
          exact pG.1 q (by simp at hq ⊢; omega)
        · exact mq.1 q (by simp at hq ⊢; omega)
  · have cg1 : Ch [62, 63, 64, 15, 16, 17, 18, 19, 20, 21, 22, 23, 179] [] g g1 := c1.sub (by decide) (by decide)
    refine ref g1 cg1 2 (fun z => absurd z h3) (fun _ G2 c3 => ?_)
    have c4 : Ch [62, 63, 64, 148, 149, 150] [0, 73, 74] g (mx_up G2 99 0 2) := ((c1.sub (by decide) (by decide)).tr (c3.sub (by decide) (by decide))).up9 (by decide)
    exact ⟨⟨by omega, up_s, fun z => by omega⟩, we.fr c4 (by decide) (by decide), c4.sub (by decide) (by decide), fun z => z.fr c4 (by decide)⟩
