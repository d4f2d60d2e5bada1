/-! Land's calls: road, rate -/
theorem IL.road {g g2 : mz_S} {i j : Nat} {v : Int} (w : IL g) (h : Ch [2, 3, 8, 100, 101, 179] [0] g g2) (hv : 1 ≤ v ∧ v ≤ 9) (hi : ∃ a b : Nat, i = a * 8 + b ∧ j = b * 8 + a ∧ a < g 1 1 ∧ b < g 1 1 ∧ a ≠ b) (e2 : g2 2 = lset (lset (g 2) i v) j v) (e100 : g2 100 = lset (lset (g 100) i v) j v) (e3 : ∀ k, k < 64 → g2 3 k = lagR (g2 2) k) (e101 : ∀ k, k < 64 → g2 101 k = encF (lagR (g2 2)) k) : IL g2 := by
  have e : ∀ q ∈ [1, 4, 5, 6, 7, 102, 103, 104, 105], g2 q = g q := fun q hq => h.1 q (by revert hq; revert q; decide) (by intro z; subst z; revert hq; decide)
  obtain ⟨⟨a1, a2, a3, a4, a5, a6⟩, ⟨b1, b2, b3, b4⟩, ⟨c1, c2, c3, c4, c5⟩, d1⟩ := w
  obtain ⟨a, b, ei, ej, ha, hb, hab⟩ := hi
  have r2 : ∀ k, k < 64 → -1 ≤ g2 2 k ∧ g2 2 k ≤ 9 ∧ ¬ g2 2 k = 0 := by
    intro k hk
    have := b1 k hk
    rw [e2]
    unfold lset
    split
    · omega
    · split
      · omega
      · exact this
  have r3 := fun k hk => lagR_rng (r := g2 2) (fun k hk => ⟨(r2 k hk).1, (r2 k hk).2.1⟩) k hk
  unfold IL WfL0 WfRd ReL ReRd
  rw [e 1 (by decide), e 4 (by decide), e 5 (by decide), e 6 (by decide), e 7 (by decide), e 102 (by decide), e 103 (by decide), e 104 (by decide), e 105 (by decide), h.2 1 (by decide), h.2 2 (by decide), h.2 3 (by decide)]
  refine ⟨⟨a1, a2, a3, fun k hk => ?_, a5, a6⟩, ⟨r2, fun x y hx hy hxy ho => ?_, e3, b4⟩, ⟨c1, c2, c3, fun k hk => ?_, c5⟩, fun k hk => ?_⟩
  · rw [e3 k hk]; have := r3 k hk; omega
  · rw [e2, lset_n (by omega), lset_n (by omega)]
    exact b2 x y hx hy hxy ho
  · rw [e101 k hk]
    exact encF_cg (fun i hi => (e3 i hi).symm) k hk
  · rw [e100, e2]
    have := d1 k hk
    unfold lset
    split
    · rw [if_neg (by omega)]
    · split
      · rw [if_neg (by omega)]
      · exact this
theorem sX5_setRoad {T : Nat × (Nat → Int32)} {d : Nat} {Q : mz_K} {X : mz_X} {g : mz_S} {a b v : Int} (hr : ∀ i, i < 64 → -1 ≤ g 2 i ∧ g 2 i ≤ 9 ∧ ¬ g 2 i = 0) (ha : 0 ≤ a ∧ a < 8) (hb : 0 ≤ b ∧ b < 8) (hv : 1 ≤ v ∧ v ≤ 9) (k : Q (g 2 (a * 8 + b).toNat) (fillS (cellS (mx_up (mx_up g 2 (a * 8 + b).toNat v) 2 (b * 8 + a).toNat v) 3 (lagM (mx_up (mx_up g 2 (a * 8 + b).toNat v) 2 (b * 8 + a).toNat v))) 8 32 0)) : zC T (d + 4) 73 [mx_R 1, mx_I a, mx_I b, mx_I v] g Q X := by
  refine zX5_setRoad ?_
  refine s_in ?_ (fun ea => ?_)
  · omega
  try simp only [ea]
  clear ea
  refine s_in ?_ (fun ea => ?_)
  · omega
  try simp only [ea]
  clear ea
  rintro _ rfl
  refine s_in ?_ (fun ea => ?_)
  · omega
  try simp only [ea]
  clear ea
  rintro _ rfl
  refine sX5_measureLags ?_ (sJ7_fill_53178 k)
  intro i hi
  have := hr i hi
  rw [up_at, if_pos rfl, up_at, if_pos rfl]
  unfold lset
  split
  · omega
  · split
    · omega
    · omega
theorem sX11_road {T : Nat × (Nat → Int32)} {d : Nat} {Q : mz_K} {X : mz_X} {g : mz_S} {a b v : Int} (w : IL g) (ha : R32 a) (hb : R32 b) (hv : R32 v) (k1 : ¬ ((0 ≤ a ∧ a ≤ g 1 1 - 1) ∧ (0 ≤ b ∧ b ≤ g 1 1 - 1)) → X 0 g) (k2 : 0 ≤ a ∧ a ≤ g 1 1 - 1 → 0 ≤ b ∧ b ≤ g 1 1 - 1 → ¬ (¬ a = b ∧ (1 ≤ v ∧ v ≤ 9)) → X 1 g) (k3 : 0 ≤ a ∧ a ≤ g 1 1 - 1 → 0 ≤ b ∧ b ≤ g 1 1 - 1 → ¬ a = b → 1 ≤ v ∧ v ≤ 9 → Q (g 2 (a * 8 + b).toNat) (fillS (cellS (mx_up (mx_up g 2 (a * 8 + b).toNat v) 2 (b * 8 + a).toNat v) 3 (lagM (mx_up (mx_up g 2 (a * 8 + b).toNat v) 2 (b * 8 + a).toNat v))) 8 32 0)) : zC T (d + 5) 162 [mx_R 0, mx_I a, mx_I b, mx_I v] g Q X := by
  have ht := w.1.2.1
  refine zX11_road (sX11_isTown ha ht ?_)
  first | with_reducible refine b_eq (fun h1 => ?_) (fun h1 => ?_) | with_reducible refine b_ne (fun h1 => ?_) (fun h1 => ?_)
  · exact zX11_road_20 (zX11_road_21 ⟨by decide, by decide, nF_f (k1 (fun z => h1 z.1))⟩)
  · refine sX11_isTown hb ht ?_
    first | with_reducible refine b_eq (fun h2 => ?_) (fun h2 => ?_) | with_reducible refine b_ne (fun h2 => ?_) (fun h2 => ?_)
    · exact zX11_road_20 (zX11_road_21 ⟨by decide, by decide, nF_f (k1 (fun z => h2 z.2))⟩)
    · refine zX11_road_21 ⟨by decide, by decide, nF_t ?_⟩
      first | with_reducible refine c_lt ?_ ?_ (fun h3 => ?_) (fun h3 => ?_) | with_reducible refine c_le ?_ ?_ (fun h3 => ?_) (fun h3 => ?_) | with_reducible refine c_eq ?_ ?_ (fun h3 => ?_) (fun h3 => ?_) | with_reducible refine c_ne ?_ ?_ (fun h3 => ?_) (fun h3 => ?_)
      · omega
      · omega
      · exact zX11_road_43 (zX11_road_44 ⟨by decide, by decide, nA_f (k2 h1 h2 (fun z => z.1 h3))⟩)
      · refine sX11_within hv (by omega) (by omega) ?_
        first | with_reducible refine b_eq (fun h4 => ?_) (fun h4 => ?_) | with_reducible refine b_ne (fun h4 => ?_) (fun h4 => ?_)
        · exact zX11_road_43 (zX11_road_44 ⟨by decide, by decide, nA_f (k2 h1 h2 (fun z => h4 z.2))⟩)
        · exact zX11_road_44 ⟨by decide, by decide, nA_t (sX5_setRoad w.2.1.1 (by omega) (by omega) h4 (k3 h1 h2 h3 h4))⟩
theorem C_road {T : Nat × (Nat → Int32)} {d : Nat} {X X' : mz_X} {g : mz_S} {a b v : Int} (w : IL g) (ha : R32 a) (hb : R32 b) (hv : R32 v) : zC T (d + 6) 352 [mx_R 0, mx_I a, mx_I b, mx_I v, mx_R 179] g (fun kk g1 => zC T (d + 6) 215 [mx_R 99, mx_I a, mx_I b, mx_I v] g1 (fun r g2 => AnsI kk r g2 ∧ IL g2 ∧ (WfC g → WfC g2) ∧ Ch [2, 3, 8, 100, 101, 179] [0] g g2) X') X := by
  have ht := w.1.2.1
  have e2 : g 99 2 = g 1 1 := w.2.2.1.2.1
  have bad : ∀ n : Int, 1 ≤ n ∧ n ≤ 3 → AnsI n 0 (mx_up (mx_up g 99 0 0) 99 0 n) ∧ IL (mx_up (mx_up g 99 0 0) 99 0 n) ∧ (WfC g → WfC (mx_up (mx_up g 99 0 0) 99 0 n)) ∧ Ch [2, 3, 8, 100, 101, 179] [0] g (mx_up (mx_up g 99 0 0) 99 0 n) := fun n hn =>
    ⟨⟨by omega, up_s, fun z => by omega⟩, w.fr (ch_bad g n) (by decide) (by decide), fun z => z.fr (ch_bad g n) (by decide), (ch_bad g n).sub (by decide) (by decide)⟩
  refine wL_road (sX11_road w ha hb hv (fun h1 => Or.inl ⟨rfl, ?_⟩) (fun h1 h2 h3 => Or.inr ⟨rfl, ?_⟩) (fun h1 h2 h3 h4 => ?_))
  · refine zX12_road ?_
    rintro _ rfl
    have t2 : mx_up g 99 0 0 99 2 = g 1 1 := by rw [up_i (by decide), e2]
    refine sX12_isTown ha (by omega) ?_
    rw [t2]
    first | with_reducible refine b_eq (fun z1 => ?_) (fun z1 => ?_) | with_reducible refine b_ne (fun z1 => ?_) (fun z1 => ?_)
    · exact zX12_road_21 (sX12_fails (bad 1 (by omega)))
    · refine sX12_isTown hb (by omega) ?_
      rw [t2]
      first | with_reducible refine b_eq (fun z2 => ?_) (fun z2 => ?_) | with_reducible refine b_ne (fun z2 => ?_) (fun z2 => ?_)
      · exact absurd ⟨z1, z2⟩ h1
      · exact zX12_road_21 (sX12_fails (bad 1 (by omega)))
  · refine zX12_road ?_
    rintro _ rfl
    have t2 : mx_up g 99 0 0 99 2 = g 1 1 := by rw [up_i (by decide), e2]
    refine sX12_isTown ha (by omega) ?_
    rw [t2]
    first | with_reducible refine b_eq (fun z1 => ?_) (fun z1 => ?_) | with_reducible refine b_ne (fun z1 => ?_) (fun z1 => ?_)
    · exact absurd h1 z1
    · refine sX12_isTown hb (by omega) ?_
      rw [t2]
      first | with_reducible refine b_eq (fun z2 => ?_) (fun z2 => ?_) | with_reducible refine b_ne (fun z2 => ?_) (fun z2 => ?_)
      · first | with_reducible refine c_lt ?_ ?_ (fun z3 => ?_) (fun z3 => ?_) | with_reducible refine c_le ?_ ?_ (fun z3 => ?_) (fun z3 => ?_) | with_reducible refine c_eq ?_ ?_ (fun z3 => ?_) (fun z3 => ?_) | with_reducible refine c_ne ?_ ?_ (fun z3 => ?_) (fun z3 => ?_)
        · omega
        · omega
        · exact zX12_road_44 (sX12_fails (bad 2 (by omega)))
        · rw [w32_of hv.1 hv.2]
          refine sX12_within (by omega) (by omega) (by omega) ?_
          first | with_reducible refine b_eq (fun z4 => ?_) (fun z4 => ?_) | with_reducible refine b_ne (fun z4 => ?_) (fun z4 => ?_)
          · exact absurd ⟨z3, z4⟩ h3
          · exact zX12_road_44 (sX12_fails (bad 2 (by omega)))
      · exact absurd h2 z2
  · obtain ⟨i, ei⟩ : ∃ i, i = (a * 8 + b).toNat := ⟨_, rfl⟩
    obtain ⟨j, ej⟩ : ∃ j, j = (b * 8 + a).toNat := ⟨_, rfl⟩
    rw [← ei, ← ej]
    obtain ⟨g1, eg1⟩ : ∃ g1, g1 = mx_up (fillS (cellS (mx_up (mx_up g 2 i v) 2 j v) 3 (lagM (mx_up (mx_up g 2 i v) 2 j v))) 8 32 0) 179 0 (w32 (g 2 i)) := ⟨_, rfl⟩
    rw [← eg1]
    have c1 : Ch [2, 3, 8, 100, 101, 179] [0] g g1 := by rw [eg1]; exact (((((Ch.rf g).up (by decide) (by decide)).up (by decide) (by decide)).cell (by decide) (by decide)).fill (by decide) (by decide)).up (by decide) (by decide)
    have f2 : g1 2 = lset (lset (g 2) i v) j v := by rw [eg1]; simp [up_at, fillS_at, cellS_at]
    have f3 : g1 3 = lagM (mx_up (mx_up g 2 i v) 2 j v) := by rw [eg1]; simp [up_at, fillS_at, cellS_at]
    have f8 : ∀ i, i < 32 → g1 8 i = 0 := by intro i hi; rw [eg1]; simp [up_at, fillS_at, cellS_at, hi]
    have f7 : g1 179 0 = w32 (g 2 i) := by rw [eg1]; exact up_s
    have f100 : g1 100 = g 100 := by rw [eg1]; simp [up_at, fillS_at, cellS_at]
    have f9 : g1 99 = g 99 := by rw [eg1]; simp [up_at, fillS_at, cellS_at]
    have hi8 : i < 64 := by omega
    have hj8 : j < 64 := by omega
    refine zX12_road ?_
    intro g3 eg3
    have t2 : g3 99 2 = g 1 1 := by rw [eg3, up_i (by decide), f9, e2]
    have d1 := w.2.2.2 i hi8
    have b1 := w.2.1.1 i hi8
    refine sX12_isTown ha (by omega) ?_
    rw [t2]
    first | with_reducible refine b_eq (fun z1 => ?_) (fun z1 => ?_) | with_reducible refine b_ne (fun z1 => ?_) (fun z1 => ?_)
    · exact absurd h1 z1
    · refine sX12_isTown hb (by omega) ?_
      rw [t2]
      first | with_reducible refine b_eq (fun z2 => ?_) (fun z2 => ?_) | with_reducible refine b_ne (fun z2 => ?_) (fun z2 => ?_)
      · first | with_reducible refine c_lt ?_ ?_ (fun z3 => ?_) (fun z3 => ?_) | with_reducible refine c_le ?_ ?_ (fun z3 => ?_) (fun z3 => ?_) | with_reducible refine c_eq ?_ ?_ (fun z3 => ?_) (fun z3 => ?_) | with_reducible refine c_ne ?_ ?_ (fun z3 => ?_) (fun z3 => ?_)
        · omega
        · omega
        · exact absurd z3 h3
        · rw [w32_of hv.1 hv.2]
          refine sX12_within (by omega) (by omega) (by omega) ?_
          first | with_reducible refine b_eq (fun z4 => ?_) (fun z4 => ?_) | with_reducible refine b_ne (fun z4 => ?_) (fun z4 => ?_)
          · rw [show 8 * a + b = a * 8 + b by omega, show 8 * b + a = b * 8 + a by omega]
            have m1 : mx_at (a * 8 + b) = i := by rw [zat (by omega) (by omega), ei]
            have m2 : mx_at (b * 8 + a) = j := by rw [zat (by omega) (by omega), ej]
            rw [m1, m2]
            refine ⟨zin (by omega) (by omega) (by omega), zin (by omega) (by omega) (by omega), ?_⟩
            intro g4 eg4
            refine ⟨zin (by omega) (by omega) (by omega), ?_⟩
            intro g5 eg5
            have s100 : g3 100 = g 100 := by rw [eg3, up_at, if_neg (by decide), f100]
            have p100 : g5 100 = lset (lset (g 100) i v) j v := by rw [eg5, up_at, if_pos rfl, eg4, up_at, if_pos rfl, s100]
            have p9 : g5 99 = g3 99 := by rw [eg5, up_at, if_neg (by decide), eg4, up_at, if_neg (by decide)]
            have c5 : Ch [2, 3, 8, 100, 101, 179] [0] g g5 := by rw [eg5, eg4, eg3]; exact ((c1.up9 (by decide)).up (by decide) (by decide)).up (by decide) (by decide)
            have p2 : g5 2 = g1 2 := by rw [eg5, up_at, if_neg (by decide), eg4, up_at, if_neg (by decide), eg3, up_at, if_neg (by decide)]
            have hr2 : ∀ k, k < 64 → -1 ≤ g1 2 k ∧ g1 2 k ≤ 9 ∧ ¬ g1 2 k = 0 := by
              intro k hk
              have := w.2.1.1 k hk
              rw [f2]
              unfold lset
              split
              · omega
              · split
                · omega
                · exact this
            refine sX12_measure (c := g1) (N := (g 1 1).toNat) (by omega) (by rw [p9, t2]; omega) hr2 (fun x y hx hy hxy ho => ?_) (fun k hk => ?_) (fun f hf => ?_)
            · rw [f2, lset_n (by omega), lset_n (by omega)]
              exact w.2.1.2.1 x y hx hy hxy (by omega)
            · have := w.2.2.2 k hk
              rw [p100, f2]
              unfold lset
              split
              · rw [if_neg (by omega)]
              · split
                · rw [if_neg (by omega)]
                · exact this
            · obtain ⟨g6, eg6⟩ : ∃ g6, g6 = cellS g5 101 f := ⟨_, rfl⟩
              rw [← eg6, s100]
              have q2 : g6 2 = g1 2 := by rw [eg6, cellS_n (by decide), p2]
              have c6 : Ch [2, 3, 8, 100, 101, 179] [0] g g6 := by rw [eg6]; exact c5.cell (by decide) (by decide)
              have q7 : g6 179 = g1 179 := by rw [eg6, cellS_n (by decide), eg5, up_at, if_neg (by decide), eg4, up_at, if_neg (by decide), eg3, up_at, if_neg (by decide)]
              have q8 : g6 8 = g1 8 := by rw [eg6, cellS_n (by decide), eg5, up_at, if_neg (by decide), eg4, up_at, if_neg (by decide), eg3, up_at, if_neg (by decide)]
              have q3 : g6 3 = g1 3 := by rw [eg6, cellS_n (by decide), eg5, up_at, if_neg (by decide), eg4, up_at, if_neg (by decide), eg3, up_at, if_neg (by decide)]
              have fin : ∀ r : Int, r = g 2 i → AnsI 0 r g6 ∧ IL g6 ∧ (WfC g → WfC g6) ∧ Ch [2, 3, 8, 100, 101, 179] [0] g g6 := by
                intro r hr
                refine ⟨⟨by omega, ?_, fun _ => by rw [q7, f7, hr]⟩, w.road (i := i) (j := j) c6 h4 ⟨a.toNat, b.toNat, by omega, by omega, by omega, by omega, by omega⟩ (by rw [q2, f2]) (by rw [eg6, cellS_n (by decide), p100]) (fun k hk => ?_) (fun k hk => ?_), fun _ => WfC.zero (fun i hi => by rw [q8, f8 i hi]), c6⟩
                · rw [eg6, cellS_n (by decide), p9, eg3, up_s]
                · rw [q3, f3, q2, f2]
                  unfold lagM
                  rw [lagR_of k hk]
                  refine lagR_cg (fun x _ => ?_) k hk
                  rw [up_at, if_pos rfl, up_at, if_pos rfl]
                · rw [eg6, cellS_s, hf k hk, ← eg6, q2]
              first | with_reducible refine c_lt ?_ ?_ (fun z5 => ?_) (fun z5 => ?_) | with_reducible refine c_le ?_ ?_ (fun z5 => ?_) (fun z5 => ?_) | with_reducible refine c_eq ?_ ?_ (fun z5 => ?_) (fun z5 => ?_) | with_reducible refine c_ne ?_ ?_ (fun z5 => ?_) (fun z5 => ?_)
              · omega
              · omega
              · refine zX12_road_102 (fin _ ?_)
                split at d1 <;> omega
              · refine zX12_road_102 (fin _ ?_)
                split at d1 <;> omega
          · exact absurd h4 z4
      · exact absurd h2 z2
