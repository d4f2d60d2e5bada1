/-! the call rate -/
theorem IL.rate {g g2 : mz_S} {t co v : Int} (w : IL g) (hm : g 1 4 < 150) (ht : 0 ≤ t ∧ t < 8) (hc : 1 ≤ co ∧ co ≤ 3) (hv : 1 ≤ v ∧ v ≤ 1000) (h : Ch [1, 4, 5, 6, 7, 8, 102, 103, 104, 105, 179] [0, 3] g g2) (e1 : g2 1 = lset (g 1) 4 (g 1 4 + 1)) (e4 : g2 4 = lset (g 4) (g 1 4).toNat (g 1 0)) (e5 : g2 5 = lset (g 5) (g 1 4).toNat t) (e6 : g2 6 = lset (g 6) (g 1 4).toNat co) (e7 : g2 7 = lset (g 7) (g 1 4).toNat v) (e9 : g2 99 3 = g 1 4 + 1) (e102 : g2 102 = lset (g 102) (g 1 4).toNat t) (e103 : g2 103 = lset (g 103) (g 1 4).toNat co) (e104 : g2 104 = lset (g 104) (g 1 4).toNat v) (e105 : g2 105 = lset (g 105) (g 1 4).toNat (g 1 0)) : IL g2 := by
  have e : ∀ q ∈ [2, 3, 100, 101], g2 q = g q := fun q hq => h.1 q (by revert hq; revert q; decide) (by intro z; subst z; revert hq; decide)
  obtain ⟨⟨a1, a2, a3, a4, a5, a6⟩, ⟨b1, b2, b3, b4⟩, ⟨c1, c2, c3, c4, c5⟩, d1⟩ := w
  have f0 : lset (g 1) 4 (g 1 4 + 1) 0 = g 1 0 := rfl
  have f1 : lset (g 1) 4 (g 1 4 + 1) 1 = g 1 1 := rfl
  have f4 : lset (g 1) 4 (g 1 4 + 1) 4 = g 1 4 + 1 := rfl
  have ls : ∀ (l : Nat → Int) (x : Int) (r : Nat), r < (g 1 4 + 1).toNat → (r < (g 1 4).toNat ∧ lset l (g 1 4).toNat x r = l r) ∨ (r = (g 1 4).toNat ∧ lset l (g 1 4).toNat x r = x) := by
    intro l x r hr
    rcases Nat.lt_or_ge r (g 1 4).toNat with z | z
    · exact Or.inl ⟨z, lset_n (by omega)⟩
    · have : r = (g 1 4).toNat := by omega
      subst this
      exact Or.inr ⟨rfl, lset_s⟩
  unfold IL WfL0 WfRd ReL ReRd
  rw [e 2 (by decide), e 3 (by decide), e 100 (by decide), e 101 (by decide), h.2 1 (by decide), h.2 2 (by decide), e1, e4, e5, e6, e7, e9, e102, e103, e104, e105, f0, f1, f4]
  refine ⟨⟨a1, a2, by omega, a4, fun r hr => ?_, fun r s hrs hs => ?_⟩, ⟨b1, b2, b3, fun r hr => ?_⟩, ⟨c1, c2, rfl, c4, fun k hk => ?_⟩, d1⟩
  · have p4 := ls (g 4) (g 1 0) r hr
    have p5 := ls (g 5) t r hr
    have p6 := ls (g 6) co r hr
    have p7 := ls (g 7) v r hr
    rcases Nat.lt_or_ge r (g 1 4).toNat with z | z
    · have := a5 r z
      omega
    · omega
  · have p := ls (g 4) (g 1 0) r (by omega)
    have q := ls (g 4) (g 1 0) s hs
    rcases Nat.lt_or_ge r (g 1 4).toNat with z | z
    · have h1 := b4 r z
      rcases Nat.lt_or_ge s (g 1 4).toNat with z2 | z2
      · have := a6 r s hrs z2
        omega
      · omega
    · omega
  · have p := ls (g 4) (g 1 0) r hr
    rcases Nat.lt_or_ge r (g 1 4).toNat with z | z
    · have h1 := b4 r z
      omega
    · omega
  · have := c5 k hk
    unfold lset
    refine ⟨?_, ?_, ?_, ?_⟩ <;> split <;> first | rfl | exact this.1 | exact this.2.1 | exact this.2.2.1 | exact this.2.2.2
theorem C_rate {T : Nat × (Nat → Int32)} {d : Nat} {X X' : mz_X} {g : mz_S} {t co v : Int} (w : IL g) (ht : R32 t) (hc : R32 co) (hv : R32 v) : zC T (d + 4) 354 [mx_R 0, mx_I t, mx_I co, mx_I v, mx_R 179] g (fun kk g1 => zC T (d + 4) 221 [mx_R 99, mx_I t, mx_I co, mx_I v] g1 (fun r g2 => AnsI kk r g2 ∧ IL g2 ∧ (WfC g → WfC g2) ∧ Ch [1, 4, 5, 6, 7, 8, 102, 103, 104, 105, 179] [0, 3] g g2 ∧ (∀ p, p ≠ 4 → g2 1 p = g 1 p)) X') X := by
  have hw := w.1.2.1
  have hw3 := w.1.2.2.1
  have bad : ∀ n : Int, 1 ≤ n ∧ n ≤ 3 → AnsI n 0 (mx_up (mx_up g 99 0 0) 99 0 n) ∧ IL (mx_up (mx_up g 99 0 0) 99 0 n) ∧ (WfC g → WfC (mx_up (mx_up g 99 0 0) 99 0 n)) ∧ Ch [1, 4, 5, 6, 7, 8, 102, 103, 104, 105, 179] [0, 3] g (mx_up (mx_up g 99 0 0) 99 0 n) ∧ (∀ p, p ≠ 4 → mx_up (mx_up g 99 0 0) 99 0 n 1 p = g 1 p) := fun n hn =>
    ⟨⟨by omega, up_s, fun z => by omega⟩, w.fr (ch_bad g n) (by decide) (by decide), fun z => z.fr (ch_bad g n) (by decide), (ch_bad g n).sub (by decide) (by decide), fun p _ => by rw [(ch_bad g n).1 1 (by decide) (by decide)]⟩
  refine wL_rate (sX11_rate w.1 ht hc hv (fun h1 => Or.inl ⟨rfl, ?_⟩) (fun h1 h2 => Or.inr ⟨rfl, ?_⟩) (fun h1 h2 h3 => ?_) (fun h1 h2 h3 => ?_))
  · exact sX12_rate w.1 w.2.2.1 ht hc hv (fun _ => bad 1 (by omega)) (fun z => absurd z h1) (fun z => absurd z h1) (fun z => absurd z h1)
  · exact sX12_rate w.1 w.2.2.1 ht hc hv (fun z => absurd h1 z) (fun _ _ => bad 2 (by omega)) (fun _ z => absurd z h2) (fun _ z => absurd z h2)
  · have c1 : Ch [179] [0] g (mx_up g 179 0 (w32 (-1))) := (Ch.rf g).up (by decide) (by decide)
    refine sX12_rate w.1 (w.2.2.1.fr c1 (by decide) (by decide)) ht hc hv (fun z => absurd h1 z) (fun _ z => absurd h2 z) (fun _ _ _ => ?_) (fun _ _ z => by omega)
    have c2 : Ch [179] [0] g (mx_up (mx_up g 179 0 (w32 (-1))) 99 0 0) := c1.up9 (by decide)
    exact ⟨⟨by omega, up_s, fun _ => by rw [up_q (by decide), up_s]⟩, w.fr c2 (by decide) (by decide), fun z => z.fr c2 (by decide), c2.sub (by decide) (by decide), fun p _ => by rw [c2.1 1 (by decide) (by decide)]⟩
  · obtain ⟨g1, eg1⟩ : ∃ g1, g1 = mx_up (ratS g t co v) 179 0 (w32 (g 1 4)) := ⟨_, rfl⟩
    rw [← eg1]
    have c1 : Ch [1, 4, 5, 6, 7, 8, 102, 103, 104, 105, 179] [0, 3] g g1 := by rw [eg1]; exact (((((((Ch.rf g).up (by decide) (by decide)).up (by decide) (by decide)).up (by decide) (by decide)).up (by decide) (by decide)).up (by decide) (by decide)).fill (by decide) (by decide)).up (by decide) (by decide)
    have c1r : Ch [1, 4, 5, 6, 7, 8, 179] [] g g1 := by rw [eg1]; exact (((((((Ch.rf g).up (by decide) (by decide)).up (by decide) (by decide)).up (by decide) (by decide)).up (by decide) (by decide)).up (by decide) (by decide)).fill (by decide) (by decide)).up (by decide) (by decide)
    refine sX12_rate (c := g) w.1 (w.2.2.1.fr c1r (by decide) (by decide)) ht hc hv (fun z => absurd h1 z) (fun _ z => absurd h2 z) (fun _ _ z => by omega) (fun _ _ _ => ?_)
    obtain ⟨g2, eg2⟩ : ∃ g2, g2 = mx_up (mx_up (mx_up (mx_up (mx_up (mx_up g1 99 0 0) 102 (g 1 4).toNat t) 103 (g 1 4).toNat co) 104 (g 1 4).toNat v) 105 (g 1 4).toNat (g 1 0)) 99 3 (g 1 4 + 1) := ⟨_, rfl⟩
    rw [← eg2]
    have c2 : Ch [1, 4, 5, 6, 7, 8, 102, 103, 104, 105, 179] [0, 3] g g2 := by rw [eg2]; exact (((((c1.up9 (by decide)).up (by decide) (by decide)).up (by decide) (by decide)).up (by decide) (by decide)).up (by decide) (by decide)).up9 (by decide)
    have s1 : g2 1 = lset (g 1) 4 (g 1 4 + 1) := by rw [eg2, eg1]; simp [ratS, up_at, fillS_at]
    have s8 : ∀ i, i < 32 → g2 8 i = 0 := by intro i hi; rw [eg2, eg1]; simp [ratS, up_at, fillS_at, hi]
    refine ⟨⟨by omega, by rw [eg2]; simp [up_at, lset], fun _ => by rw [eg2, eg1]; simp [up_at, lset]⟩, w.rate (t := t) (co := co) (v := v) h3 (by omega) h2.1 h2.2 c2 s1 ?_ ?_ ?_ ?_ (by rw [eg2]; exact up_s) ?_ ?_ ?_ ?_, fun _ => WfC.zero s8, c2, fun p hp => by rw [s1]; exact lset_n hp⟩
    all_goals (rw [eg2, eg1]; simp [ratS, up_at, fillS_at])
