/-! Land's calls: go, town, road, lag, rate, rateAt -/
def AnsI (kk b : Int) (g : mz_S) : Prop := (0 ≤ kk ∧ kk ≤ 3) ∧ g 99 0 = kk ∧ (kk = 0 → g 179 0 = w32 b)
def AnsL (kk b : Int) (g : mz_S) : Prop := (0 ≤ kk ∧ kk ≤ 3) ∧ g 99 0 = kk ∧ (kk = 0 → g 179 0 = b)
def AnsV (kk : Int) (g : mz_S) : Prop := (0 ≤ kk ∧ kk ≤ 3) ∧ g 99 0 = kk
def WfRd (c : mz_S) : Prop := (∀ i, i < 64 → -1 ≤ c 2 i ∧ c 2 i ≤ 9 ∧ ¬ c 2 i = 0) ∧ (∀ x y : Nat, x < 8 → y < 8 → x ≠ y → c 1 1 ≤ x ∨ c 1 1 ≤ y → c 2 (x * 8 + y) = -1) ∧ (∀ i, i < 64 → c 3 i = lagR (c 2) i) ∧ (∀ r, r < (c 1 4).toNat → c 4 r ≤ c 1 0)
def ReRd (c r : mz_S) : Prop := ∀ i, i < 64 → r 100 i = if c 2 i = -1 then 0 else c 2 i
def IL (g : mz_S) : Prop := WfL0 g ∧ WfRd g ∧ ReL g g ∧ ReRd g g
theorem IL.fr {S F : List Nat} {g g' : mz_S} (w : IL g) (h : Ch S F g g') (hS : ∀ q ∈ [1, 2, 3, 4, 5, 6, 7, 100, 101, 102, 103, 104, 105], q ∉ S) (hF : ∀ f ∈ [1, 2, 3], f ∉ F) : IL g' := by
  have e : ∀ q ∈ [1, 2, 3, 4, 5, 6, 7, 100, 101, 102, 103, 104, 105], g' q = g q := fun q hq => h.1 q (hS q hq) (by intro z; subst z; revert hq; decide)
  have e9 : ∀ f ∈ [1, 2, 3], g' 99 f = g 99 f := fun f hf => h.2 f (hF f hf)
  unfold IL WfL0 WfRd ReL ReRd at w ⊢
  rw [e 1 (by decide), e 2 (by decide), e 3 (by decide), e 4 (by decide), e 5 (by decide), e 6 (by decide), e 7 (by decide), e 100 (by decide), e 101 (by decide), e 102 (by decide), e 103 (by decide), e 104 (by decide), e 105 (by decide), e9 1 (by decide), e9 2 (by decide), e9 3 (by decide)]
  exact w
theorem WfC.cg {g g' : mz_S} (w : WfC g) (h : ∀ q ∈ [3, 4, 5, 6, 7, 8], g' q = g q) (h0 : g' 1 0 = g 1 0) (h4 : g' 1 4 = g 1 4) : WfC g' := by
  have e : ∀ t c dy : Int, rateC g' t c dy = rateC g t c dy := by
    intro t c dy
    unfold rateC lgC
    rw [h 3 (by decide), h 4 (by decide), h 5 (by decide), h 6 (by decide), h 7 (by decide), h4]
  intro t c ht hc
  rw [h 8 (by decide), e, h0]
  exact w t c ht hc
theorem WfC.fr {S F : List Nat} {g g' : mz_S} (w : WfC g) (h : Ch S F g g') (hS : ∀ q ∈ [1, 3, 4, 5, 6, 7, 8], q ∉ S) : WfC g' := by
  have e : ∀ q ∈ [1, 3, 4, 5, 6, 7, 8], g' q = g q := fun q hq => h.1 q (hS q hq) (by intro z; subst z; revert hq; decide)
  refine w.cg (fun q hq => e q ?_) (by rw [e 1 (by decide)]) (by rw [e 1 (by decide)])
  revert hq
  exact fun hq => List.mem_cons_of_mem _ hq
theorem WfC.zero {g : mz_S} (h : ∀ i, i < 32 → g 8 i = 0) : WfC g := fun t c ht hc => Or.inl (h _ (by omega))
/-- go -/
theorem sX11_go {T : Nat × (Nat → Int32)} {d : Nat} {Q : mz_K} {X : mz_X} {g : mz_S} {x : Int} (now : 0 ≤ g 1 0 ∧ g 1 0 ≤ 999) (hx : R32 x) (k1 : ¬ (1 ≤ x ∧ x ≤ 100) → X 1 g) (k2 : 1 ≤ x ∧ x ≤ 100 → 999 < g 1 0 + x → X 2 g) (k3 : 1 ≤ x ∧ x ≤ 100 → g 1 0 + x ≤ 999 → Q (g 1 0 + x) (fillS (mx_up g 1 0 (g 1 0 + x)) 8 32 0)) : zC T (d + 3) 160 [mx_R 0, mx_I x] g Q X := by
  refine zX11_go (sX11_within hx (by omega) (by omega) ⟨by decide, by decide, sX11_needArgument (fun h1 => ?_) (fun h1 => k1 h1)⟩)
  first | with_reducible refine c_lt ?_ ?_ (fun h2 => ?_) (fun h2 => ?_) | with_reducible refine c_le ?_ ?_ (fun h2 => ?_) (fun h2 => ?_) | with_reducible refine c_eq ?_ ?_ (fun h2 => ?_) (fun h2 => ?_) | with_reducible refine c_ne ?_ ?_ (fun h2 => ?_) (fun h2 => ?_)
  · omega
  · omega
  · exact zX11_go_30 ⟨by decide, by decide, nS_f (k2 h1 h2)⟩
  · refine zX11_go_30 ⟨by decide, by decide, nS_t (zX5_goOn ?_)⟩
    rintro _ rfl
    refine sJ7_fill_53178 ?_
    have k := k3 h1 (by omega)
    have e : fillS (mx_up g 1 0 (g 1 0 + x)) 8 32 0 1 0 = g 1 0 + x := by simp [fillS, mx_up]
    rw [e]; exact k
theorem sX12_go {T : Nat × (Nat → Int32)} {d : Nat} {Q : mz_K} {X : mz_X} {g : mz_S} {x : Int} (now : 0 ≤ g 99 1 ∧ g 99 1 ≤ 999) (hx : R32 x) (k1 : ¬ (1 ≤ x ∧ x ≤ 100) → Q 0 (mx_up (mx_up g 99 0 0) 99 0 1)) (k2 : 1 ≤ x ∧ x ≤ 100 → 999 < g 99 1 + x → Q 0 (mx_up (mx_up g 99 0 0) 99 0 2)) (k3 : 1 ≤ x ∧ x ≤ 100 → g 99 1 + x ≤ 999 → Q (g 99 1 + x) (mx_up (mx_up g 99 0 0) 99 1 (g 99 1 + x))) : zC T (d + 2) 211 [mx_R 99, mx_I x] g Q X := by
  refine zX12_go ?_
  rintro _ rfl
  rw [w32_of hx.1 hx.2]
  refine sX12_within (by omega) (by omega) (by omega) ?_
  rw [up_i (by decide)]
  first | with_reducible refine b_eq (fun h1 => ?_) (fun h1 => ?_) | with_reducible refine b_ne (fun h1 => ?_) (fun h1 => ?_)
  · first | with_reducible refine c_lt ?_ ?_ (fun h2 => ?_) (fun h2 => ?_) | with_reducible refine c_le ?_ ?_ (fun h2 => ?_) (fun h2 => ?_) | with_reducible refine c_eq ?_ ?_ (fun h2 => ?_) (fun h2 => ?_) | with_reducible refine c_ne ?_ ?_ (fun h2 => ?_) (fun h2 => ?_)
    · omega
    · omega
    · rintro _ rfl
      have k := k3 h1 h2
      rw [up_s]; exact k
    · exact sX12_fails (k2 h1 (by omega))
  · exact sX12_fails (k1 h1)
theorem IL.go {g g2 : mz_S} {n : Int} (w : IL g) (h : Ch [1, 8, 179] [0, 1] g g2) (e0 : g2 1 0 = n) (e1 : ∀ p, p ≠ 0 → g2 1 p = g 1 p) (e9 : g2 99 1 = n) (hn : g 1 0 ≤ n ∧ n ≤ 999) : IL g2 := by
  have e : ∀ q ∈ [2, 3, 4, 5, 6, 7, 100, 101, 102, 103, 104, 105], g2 q = g q := fun q hq => h.1 q (by revert hq; revert q; decide) (by intro z; subst z; revert hq; decide)
  obtain ⟨⟨a1, a2, a3, a4, a5, a6⟩, ⟨b1, b2, b3, b4⟩, ⟨c1, c2, c3, c4, c5⟩, d1⟩ := w
  unfold IL WfL0 WfRd ReL ReRd
  rw [e 2 (by decide), e 3 (by decide), e 4 (by decide), e 5 (by decide), e 6 (by decide), e 7 (by decide), e 100 (by decide), e 101 (by decide), e 102 (by decide), e 103 (by decide), e 104 (by decide), e 105 (by decide), h.2 2 (by decide), h.2 3 (by decide), e0, e9, e1 1 (by decide), e1 4 (by decide)]
  exact ⟨⟨by omega, a2, a3, a4, a5, a6⟩, ⟨b1, b2, b3, fun r hr => by have := b4 r hr; omega⟩, ⟨rfl, c2, c3, c4, c5⟩, d1⟩
theorem C_go {T : Nat × (Nat → Int32)} {d : Nat} {X X' : mz_X} {g : mz_S} {x : Int} (w : IL g) (hx : R32 x) : zC T (d + 4) 351 [mx_R 0, mx_I x, mx_R 179] g (fun kk g1 => zC T (d + 4) 211 [mx_R 99, mx_I x] g1 (fun b g2 => AnsI kk b g2 ∧ IL g2 ∧ (WfC g → WfC g2) ∧ Ch [1, 8, 179] [0, 1] g g2 ∧ (∀ p, p ≠ 0 → g2 1 p = g 1 p) ∧ g 1 0 ≤ g2 1 0) X') X := by
  have now := w.1.1
  have e9 : g 99 1 = g 1 0 := w.2.2.1.1
  have bad : ∀ n : Int, 1 ≤ n ∧ n ≤ 3 → AnsI n 0 (mx_up (mx_up g 99 0 0) 99 0 n) ∧ IL (mx_up (mx_up g 99 0 0) 99 0 n) ∧ (WfC g → WfC (mx_up (mx_up g 99 0 0) 99 0 n)) ∧ Ch [1, 8, 179] [0, 1] g (mx_up (mx_up g 99 0 0) 99 0 n) ∧ (∀ p, p ≠ 0 → mx_up (mx_up g 99 0 0) 99 0 n 1 p = g 1 p) ∧ g 1 0 ≤ mx_up (mx_up g 99 0 0) 99 0 n 1 0 := by
    intro n hn
    have hc : Ch [] [0] g (mx_up (mx_up g 99 0 0) 99 0 n) := ((Ch.rf g).up9 (by decide)).up9 (by decide)
    refine ⟨⟨by omega, up_s, fun z => by omega⟩, w.fr hc (by decide) (by decide), fun z => z.fr hc (by decide), hc.sub (by decide) (by decide), fun p _ => ?_, ?_⟩
    · rw [hc.1 1 (by decide) (by decide)]
    · rw [hc.1 1 (by decide) (by decide)]; omega
  refine wL_go (sX11_go now hx (fun h1 => Or.inl ⟨rfl, ?_⟩) (fun h1 h2 => Or.inr ⟨rfl, ?_⟩) (fun h1 h2 => ?_))
  · exact sX12_go (by omega) hx (fun _ => bad 1 (by omega)) (fun z => absurd z h1) (fun z => absurd z h1)
  · exact sX12_go (by omega) hx (fun z => absurd h1 z) (fun _ _ => bad 2 (by omega)) (fun _ z => by omega)
  · obtain ⟨g1, eg1⟩ : ∃ g1, g1 = mx_up (fillS (mx_up g 1 0 (g 1 0 + x)) 8 32 0) 179 0 (w32 (g 1 0 + x)) := ⟨_, rfl⟩
    rw [← eg1]
    have c1 : Ch [1, 8, 179] [0, 1] g g1 := by rw [eg1]; exact (((Ch.rf g).up (by decide) (by decide)).fill (by decide) (by decide)).up (by decide) (by decide)
    have f9 : g1 99 1 = g 1 0 := by rw [eg1]; simp [mx_up, fillS]; exact e9
    have f0 : g1 1 0 = g 1 0 + x := by rw [eg1]; simp [mx_up, fillS]
    have f1 : ∀ p, p ≠ 0 → g1 1 p = g 1 p := by intro p hp; rw [eg1]; simp [mx_up, fillS, hp]
    have f8 : ∀ i, i < 32 → g1 8 i = 0 := by intro i hi; rw [eg1]; simp [mx_up, fillS, hi]
    have f7 : g1 179 0 = w32 (g 1 0 + x) := by rw [eg1]; exact up_s
    refine sX12_go (by omega) hx (fun z => absurd h1 z) (fun _ z => by omega) (fun _ _ => ?_)
    rw [f9]
    obtain ⟨g2, eg2⟩ : ∃ g2, g2 = mx_up (mx_up g1 99 0 0) 99 1 (g 1 0 + x) := ⟨_, rfl⟩
    rw [← eg2]
    have c2 : Ch [] [0, 1] g1 g2 := by rw [eg2]; exact ((Ch.rf g1).up9 (by decide)).up9 (by decide)
    have c3 : Ch [1, 8, 179] [0, 1] g g2 := c1.tr (c2.sub (by decide) (by decide))
    have s1 : g2 1 = g1 1 := c2.1 1 (by decide) (by decide)
    have s8 : g2 8 = g1 8 := c2.1 8 (by decide) (by decide)
    have s7 : g2 179 = g1 179 := c2.1 179 (by decide) (by decide)
    refine ⟨⟨by omega, by rw [eg2, up_i (by decide), up_s], fun _ => by rw [s7, f7]⟩, w.go c3 (n := g 1 0 + x) (by rw [s1, f0]) (fun p hp => by rw [s1, f1 p hp]) (by rw [eg2, up_s]) (by omega), fun _ => WfC.zero (fun i hi => by rw [s8, f8 i hi]), c3, fun p hp => by rw [s1, f1 p hp], by rw [s1, f0]; omega⟩
