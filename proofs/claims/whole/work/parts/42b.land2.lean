/-! Land's calls: town, road, lag, rate, rateAt -/
theorem up_at (g : mz_S) (q i : Nat) (v : Int) (a : Nat) : mx_up g q i v a = if a = q then lset (g q) i v else g a := by
  split
  · next h => subst h; funext j; unfold mx_up lset; simp
  · next h => funext j; exact up_q h
theorem fillS_at (g : mz_S) (q n : Nat) (x : Int) (a : Nat) : fillS g q n x a = if a = q then (fun b => if b < n then x else g q b) else g a := by
  split
  · next h => subst h; funext j; simp [fillS]
  · next h => funext j; simp [fillS, h]
theorem cellS_at (g : mz_S) (q : Nat) (f : Nat → Int) (a : Nat) : cellS g q f a = if a = q then f else g a := by
  split
  · next h => subst h; exact cellS_s
  · next h => exact cellS_n h
theorem ReL.fr {S F : List Nat} {c r r' : mz_S} (w : ReL c r) (h : Ch S F r r') (hS : ∀ q ∈ [101, 102, 103, 104, 105], q ∉ S) (hF : ∀ f ∈ [1, 2, 3], f ∉ F) : ReL c r' := by
  have e : ∀ q ∈ [101, 102, 103, 104, 105], r' q = r q := fun q hq => h.1 q (hS q hq) (by intro z; subst z; revert hq; decide)
  have e9 : ∀ f ∈ [1, 2, 3], r' 99 f = r 99 f := fun f hf => h.2 f (hF f hf)
  unfold ReL at w ⊢
  rw [e 101 (by decide), e 102 (by decide), e 103 (by decide), e 104 (by decide), e 105 (by decide), e9 1 (by decide), e9 2 (by decide), e9 3 (by decide)]
  exact w
theorem ch_bad (g : mz_S) (n : Int) : Ch [] [0] g (mx_up (mx_up g 99 0 0) 99 0 n) := ((Ch.rf g).up9 (by decide)).up9 (by decide)
theorem ch_0 (g : mz_S) (n : Int) : Ch [] [0] g (mx_up g 99 0 n) := (Ch.rf g).up9 (by decide)
/-- the answer of a call that only asks -/
def Qy (S F : List Nat) (g g2 : mz_S) : Prop := Ch S F g g2 ∧ (WfC g → WfC g2)
theorem qy_bad {S F : List Nat} {g g1 : mz_S} (hc : Ch S F g g1) (hw : WfC g → WfC g1) (h0 : 0 ∈ F) (n : Int) (hn : 1 ≤ n ∧ n ≤ 3) : AnsI n 0 (mx_up (mx_up g1 99 0 0) 99 0 n) ∧ Qy S F g (mx_up (mx_up g1 99 0 0) 99 0 n) :=
  ⟨⟨by omega, up_s, fun z => by omega⟩, (hc.up9 h0).up9 h0, fun z => (hw z).fr (ch_bad g1 n) (by decide)⟩
/-- lag -/
theorem sX11_lag {T : Nat × (Nat → Int32)} {d : Nat} {Q : mz_K} {X : mz_X} {g : mz_S} {a b : Int} (ht : 0 ≤ g 1 1 ∧ g 1 1 ≤ 8) (ha : R32 a) (hb : R32 b) (k1 : ¬ ((0 ≤ a ∧ a ≤ g 1 1 - 1) ∧ (0 ≤ b ∧ b ≤ g 1 1 - 1)) → X 0 g) (k2 : 0 ≤ a ∧ a ≤ g 1 1 - 1 → 0 ≤ b ∧ b ≤ g 1 1 - 1 → Q (g 3 (a * 8 + b).toNat) g) : zC T (d + 3) 163 [mx_R 0, mx_I a, mx_I b] g Q X := by
  refine zX11_lag (sX11_isTown ha ht ?_)
  first | with_reducible refine b_eq (fun h1 => ?_) (fun h1 => ?_) | with_reducible refine b_ne (fun h1 => ?_) (fun h1 => ?_)
  · refine zX11_lag_20 (zX11_lag_21 ⟨by decide, by decide, nF_f (k1 (fun z => h1 z.1))⟩)
  · refine sX11_isTown hb ht ?_
    first | with_reducible refine b_eq (fun h2 => ?_) (fun h2 => ?_) | with_reducible refine b_ne (fun h2 => ?_) (fun h2 => ?_)
    · refine zX11_lag_20 (zX11_lag_21 ⟨by decide, by decide, nF_f (k1 (fun z => h2 z.2))⟩)
    · exact zX11_lag_21 ⟨by decide, by decide, nF_t (sX5_lagOf (by omega) (by omega) (k2 h1 h2))⟩
theorem sX12_lag {T : Nat × (Nat → Int32)} {d : Nat} {Q : mz_K} {X : mz_X} {g : mz_S} {c : mz_S} {a b : Int} (w : WfL0 c) (h : ReL c g) (ha : R32 a) (hb : R32 b) (k1 : ¬ ((0 ≤ a ∧ a ≤ c 1 1 - 1) ∧ (0 ≤ b ∧ b ≤ c 1 1 - 1)) → Q 0 (mx_up (mx_up g 99 0 0) 99 0 1)) (k2 : 0 ≤ a ∧ a ≤ c 1 1 - 1 → 0 ≤ b ∧ b ≤ c 1 1 - 1 → Q (c 3 (a * 8 + b).toNat) (mx_up g 99 0 0)) : zC T (d + 3) 217 [mx_R 99, mx_I a, mx_I b] g Q X := by
  have ht := w.2.1
  refine zX12_lag ?_
  rintro _ rfl
  have h' : ReL c (mx_up g 99 0 0) := h.fr (ch_0 g 0) (by decide) (by decide)
  have e2 := h'.2.1
  refine sX12_isTown ha (by omega) ?_
  rw [e2]
  first | with_reducible refine b_eq (fun h1 => ?_) (fun h1 => ?_) | with_reducible refine b_ne (fun h1 => ?_) (fun h1 => ?_)
  · exact zX12_lag_30 (sX12_fails (zX12_lag_35 (k1 (fun z => h1 z.1))))
  · refine sX12_isTown hb (by omega) ?_
    rw [e2]
    first | with_reducible refine b_eq (fun h2 => ?_) (fun h2 => ?_) | with_reducible refine b_ne (fun h2 => ?_) (fun h2 => ?_)
    · exact zX12_lag_30 (sX12_fails (zX12_lag_35 (k1 (fun z => h2 z.2))))
    · exact sX12_lagOf w h' (by omega) (by omega) (zX12_lag_35 (k2 h1 h2))
theorem C_lag {T : Nat × (Nat → Int32)} {d : Nat} {X X' : mz_X} {g : mz_S} {a b : Int} (w : IL g) (ha : R32 a) (hb : R32 b) : zC T (d + 4) 353 [mx_R 0, mx_I a, mx_I b, mx_R 179] g (fun kk g1 => zC T (d + 4) 217 [mx_R 99, mx_I a, mx_I b] g1 (fun r g2 => AnsI kk r g2 ∧ Qy [179] [0] g g2) X') X := by
  refine wL_lag (sX11_lag w.1.2.1 ha hb (fun h1 => ⟨rfl, ?_⟩) (fun h1 h2 => ?_))
  · exact sX12_lag w.1 w.2.2.1 ha hb (fun _ => qy_bad (Ch.rf g) (fun z => z) (by decide) 1 (by omega)) (fun z1 z2 => absurd ⟨z1, z2⟩ h1)
  · have hc : Ch [179] [0] g (mx_up g 179 0 (w32 (g 3 (a * 8 + b).toNat))) := (Ch.rf g).up (by decide) (by decide)
    refine sX12_lag w.1 (w.2.2.1.fr hc (by decide) (by decide)) ha hb (fun z => absurd ⟨h1, h2⟩ z) (fun _ _ => ?_)
    refine ⟨⟨by omega, up_s, fun _ => ?_⟩, hc.up9 (by decide), fun z => z.fr (hc.up9 (by decide)) (by decide)⟩
    rw [up_q (by decide), up_s]
/-- rateAt -/
theorem sX11_rateAt {T : Nat × (Nat → Int32)} {d : Nat} {Q : mz_K} {X : mz_X} {g : mz_S} {t co dy : Int} (w : WfL0 g) (ht : R32 t) (hc : R32 co) (hd : R32 dy) (k1 : ¬ (0 ≤ t ∧ t ≤ g 1 1 - 1) → X 0 g) (k2 : 0 ≤ t ∧ t ≤ g 1 1 - 1 → ¬ ((0 ≤ co ∧ co ≤ 3) ∧ (0 ≤ dy ∧ dy ≤ 999)) → X 1 g) (k3 : 0 ≤ t ∧ t ≤ g 1 1 - 1 → 0 ≤ co ∧ co ≤ 3 → 0 ≤ dy ∧ dy ≤ 999 → Q (rateC g t co dy) g) : zC T (d + 3) 165 [mx_R 0, mx_I t, mx_I co, mx_I dy] g Q X := by
  have hw := w.2.1
  refine zX11_rateAt (sX11_isTown ht hw ⟨by decide, by decide, sX11_needFound (fun h1 => ?_) k1⟩)
  refine sX11_isCoin hc ?_
  first | with_reducible refine b_eq (fun h2 => ?_) (fun h2 => ?_) | with_reducible refine b_ne (fun h2 => ?_) (fun h2 => ?_)
  · exact zX11_rateAt_26 (zX11_rateAt_27 ⟨by decide, by decide, nA_f (k2 h1 (fun z => h2 z.1))⟩)
  · refine sX11_isDay hd ?_
    first | with_reducible refine b_eq (fun h3 => ?_) (fun h3 => ?_) | with_reducible refine b_ne (fun h3 => ?_) (fun h3 => ?_)
    · exact zX11_rateAt_26 (zX11_rateAt_27 ⟨by decide, by decide, nA_f (k2 h1 (fun z => h3 z.2))⟩)
    · exact zX11_rateAt_27 ⟨by decide, by decide, nA_t (sX5_rateHeard w (by omega) (by omega) (by omega) (k3 h1 h2 h3))⟩
theorem sX12_rateAt {T : Nat × (Nat → Int32)} {d : Nat} {Q : mz_K} {X : mz_X} {g : mz_S} {c : mz_S} {t co dy : Int} (w : WfL0 c) (h : ReL c g) (ht : R32 t) (hc : R32 co) (hd : R32 dy) (k1 : ¬ (0 ≤ t ∧ t ≤ c 1 1 - 1) → Q 0 (mx_up (mx_up g 99 0 0) 99 0 1)) (k2 : 0 ≤ t ∧ t ≤ c 1 1 - 1 → ¬ ((0 ≤ co ∧ co ≤ 3) ∧ (0 ≤ dy ∧ dy ≤ 999)) → Q 0 (mx_up (mx_up g 99 0 0) 99 0 2)) (k3 : 0 ≤ t ∧ t ≤ c 1 1 - 1 → 0 ≤ co ∧ co ≤ 3 → 0 ≤ dy ∧ dy ≤ 999 → Q (rateC c t co dy) (mx_up g 99 0 0)) : zC T (d + 3) 223 [mx_R 99, mx_I t, mx_I co, mx_I dy] g Q X := by
  have hw := w.2.1
  refine zX12_rateAt ?_
  rintro _ rfl
  have h' : ReL c (mx_up g 99 0 0) := h.fr (ch_0 g 0) (by decide) (by decide)
  have e2 := h'.2.1
  refine sX12_isTown ht (by omega) ?_
  rw [e2]
  first | with_reducible refine b_eq (fun h1 => ?_) (fun h1 => ?_) | with_reducible refine b_ne (fun h1 => ?_) (fun h1 => ?_)
  · refine sX12_isCoin hc ?_
    first | with_reducible refine b_eq (fun h2 => ?_) (fun h2 => ?_) | with_reducible refine b_ne (fun h2 => ?_) (fun h2 => ?_)
    · exact zX12_rateAt_43 (sX12_fails (zX12_rateAt_48 (k2 h1 (fun z => h2 z.1))))
    · refine sX12_isDay hd ?_
      first | with_reducible refine b_eq (fun h3 => ?_) (fun h3 => ?_) | with_reducible refine b_ne (fun h3 => ?_) (fun h3 => ?_)
      · exact zX12_rateAt_43 (sX12_fails (zX12_rateAt_48 (k2 h1 (fun z => h3 z.2))))
      · exact sX12_rateOf w h' (by omega) (by omega) (by omega) (zX12_rateAt_48 (k3 h1 h2 h3))
  · exact sX12_fails (k1 h1)
theorem C_rateAt {T : Nat × (Nat → Int32)} {d : Nat} {X X' : mz_X} {g : mz_S} {t co dy : Int} (w : IL g) (ht : R32 t) (hc : R32 co) (hd : R32 dy) : zC T (d + 4) 355 [mx_R 0, mx_I t, mx_I co, mx_I dy, mx_R 179] g (fun kk g1 => zC T (d + 4) 223 [mx_R 99, mx_I t, mx_I co, mx_I dy] g1 (fun r g2 => AnsI kk r g2 ∧ Qy [179] [0] g g2) X') X := by
  refine wL_rateAt (sX11_rateAt w.1 ht hc hd (fun h1 => Or.inl ⟨rfl, ?_⟩) (fun h1 h2 => Or.inr ⟨rfl, ?_⟩) (fun h1 h2 h3 => ?_))
  · exact sX12_rateAt w.1 w.2.2.1 ht hc hd (fun _ => qy_bad (Ch.rf g) (fun z => z) (by decide) 1 (by omega)) (fun z => absurd z h1) (fun z => absurd z h1)
  · exact sX12_rateAt w.1 w.2.2.1 ht hc hd (fun z => absurd h1 z) (fun _ _ => qy_bad (Ch.rf g) (fun z => z) (by decide) 2 (by omega)) (fun _ z1 z2 => absurd ⟨z1, z2⟩ h2)
  · have hc' : Ch [179] [0] g (mx_up g 179 0 (w32 (rateC g t co dy))) := (Ch.rf g).up (by decide) (by decide)
    refine sX12_rateAt w.1 (w.2.2.1.fr hc' (by decide) (by decide)) ht hc hd (fun z => absurd h1 z) (fun _ z => absurd ⟨h2, h3⟩ z) (fun _ _ _ => ?_)
    refine ⟨⟨by omega, up_s, fun _ => ?_⟩, hc'.up9 (by decide), fun z => z.fr (hc'.up9 (by decide)) (by decide)⟩
    rw [up_q (by decide), up_s]
/-- town -/
theorem IL.town {g g2 : mz_S} (w : IL g) (h : Ch [1, 101, 179] [0, 2] g g2) (hN : g 1 1 < 8) (e1 : g2 1 1 = g 1 1 + 1) (e0 : ∀ p, p ≠ 1 → g2 1 p = g 1 p) (e9 : g2 99 2 = g 1 1 + 1) (el : ∀ i, i < 64 → g2 101 i = encF (lagR (g 2)) i) : IL g2 := by
  have e : ∀ q ∈ [2, 3, 4, 5, 6, 7, 100, 102, 103, 104, 105], g2 q = g q := fun q hq => h.1 q (by revert hq; revert q; decide) (by intro z; subst z; revert hq; decide)
  obtain ⟨⟨a1, a2, a3, a4, a5, a6⟩, ⟨b1, b2, b3, b4⟩, ⟨c1, c2, c3, c4, c5⟩, d1⟩ := w
  unfold IL WfL0 WfRd ReL ReRd
  rw [e 2 (by decide), e 3 (by decide), e 4 (by decide), e 5 (by decide), e 6 (by decide), e 7 (by decide), e 100 (by decide), e 102 (by decide), e 103 (by decide), e 104 (by decide), e 105 (by decide), h.2 1 (by decide), h.2 3 (by decide), e1, e9, e0 0 (by decide), e0 4 (by decide)]
  refine ⟨⟨a1, by omega, a3, a4, a5, a6⟩, ⟨b1, fun x y hx hy hxy ho => b2 x y hx hy hxy (by omega), b3, b4⟩, ⟨c1, rfl, c3, fun i hi => ?_, c5⟩, d1⟩
  rw [el i hi]
  exact encF_cg (fun i hi => (b3 i hi).symm) i hi
theorem C_town {T : Nat × (Nat → Int32)} {d : Nat} {X X' : mz_X} {g : mz_S} (w : IL g) : zC T (d + 4) 161 [mx_R 0] g (fun r g1 => zC T (d + 4) 213 [mx_R 99] g1 (fun b g2 => r = b ∧ IL g2 ∧ (WfC g → WfC g2) ∧ Ch [1, 101] [0, 2] g g2 ∧ (∀ p, p ≠ 1 → g2 1 p = g 1 p) ∧ g 1 1 ≤ g2 1 1) X') X := by
  have ht := w.1.2.1
  have e2 : g 99 2 = g 1 1 := w.2.2.1.2.1
  refine zX11_town (zX5_addTown ?_)
  first | with_reducible refine c_lt ?_ ?_ (fun h1 => ?_) (fun h1 => ?_) | with_reducible refine c_le ?_ ?_ (fun h1 => ?_) (fun h1 => ?_) | with_reducible refine c_eq ?_ ?_ (fun h1 => ?_) (fun h1 => ?_) | with_reducible refine c_ne ?_ ?_ (fun h1 => ?_) (fun h1 => ?_)
  · omega
  · omega
  · intro g1 eg1
    have s1 : g1 1 1 = g 1 1 + 1 := by rw [eg1, up_s]
    have s0 : ∀ p, p ≠ 1 → g1 1 p = g 1 p := fun p hp => by rw [eg1, up_i hp]
    have sq : ∀ q, q ≠ 1 → g1 q = g q := fun q hq => by rw [eg1, up_at, if_neg hq]
    rw [s1]
    refine zX12_town ?_
    intro g3 eg3
    have t2 : g3 99 2 = g 1 1 := by rw [eg3, up_i (by decide), sq 99 (by decide), e2]
    rw [t2]
    refine ⟨fun _ => ?_, fun z => absurd (by rw [w32_of (by omega) (by omega), w32_of (by omega) (by omega)]; omega) z⟩
    intro g4 eg4
    have u2 : g4 99 2 = g 1 1 + 1 := by rw [eg4, up_s]
    have c4 : Ch [1] [0, 2] g g4 := by rw [eg4, eg3, eg1]; exact (((Ch.rf g).up (by decide) (by decide)).up9 (by decide)).up9 (by decide)
    refine sX12_measure (c := g) (N := (g 1 1 + 1).toNat) (by omega) (by rw [u2]; omega) w.2.1.1 (fun x y hx hy hxy ho => w.2.1.2.1 x y hx hy hxy (by omega)) (by rw [c4.1 100 (by decide) (by decide)]; exact w.2.2.2) (fun f hf => ?_)
    obtain ⟨g5, eg5⟩ : ∃ g5, g5 = cellS g4 101 f := ⟨_, rfl⟩
    rw [← eg5]
    have v2 : g5 99 2 = g 1 1 + 1 := by rw [eg5, cellS_n (by decide), u2]
    have v1 : g5 1 = g1 1 := by rw [eg5, cellS_n (by decide), eg4, up_at, if_neg (by decide), eg3, up_at, if_neg (by decide)]
    have c5 : Ch [1, 101] [0, 2] g g5 := by rw [eg5]; exact (c4.sub (by decide) (by decide)).cell (by decide) (by decide)
    rw [v2]
    refine ⟨rfl, w.town (c5.sub (by decide) (by decide)) (by omega) (by rw [v1, s1]) (fun p hp => by rw [v1, s0 p hp]) v2 (fun i hi => by rw [eg5, cellS_s]; exact hf i hi), fun wc => wc.cg (fun q hq => c5.1 q (by revert hq; revert q; decide) (by intro z; subst z; revert hq; decide)) (by rw [v1, s0 0 (by decide)]) (by rw [v1, s0 4 (by decide)]), c5, fun p hp => by rw [v1, s0 p hp], by rw [v1, s1]; omega⟩
  · refine zX12_town ?_
    rintro _ rfl
    rw [up_i (by decide), e2]
    refine ⟨fun z => absurd (by rw [show g 1 1 = 8 by omega]) z, fun _ => ?_⟩
    refine ⟨rfl, w.fr (ch_0 g 0) (by decide) (by decide), fun z => z.fr (ch_0 g 0) (by decide), (ch_0 g 0).sub (by decide) (by decide), fun p _ => ?_, ?_⟩
    · rw [(ch_0 g 0).1 1 (by decide) (by decide)]
    · rw [(ch_0 g 0).1 1 (by decide) (by decide)]; omega
