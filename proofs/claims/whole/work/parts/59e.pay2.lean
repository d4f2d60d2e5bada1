/-! pay on both sides -/
def payP (g : mz_S) (i : Nat) : mz_S := mx_up (mx_up g 14 (g 50 i * 4 + g 51 i).toNat (g 14 (g 50 i * 4 + g 51 i).toNat - g 52 i)) 56 i (g 1 0)
theorem payP_ch (g : mz_S) (i : Nat) : Ch [14, 56] [] g (payP g i) := ((Ch.rf g).up (by decide) (by decide)).up (by decide) (by decide)
theorem payP_wf {g : mz_S} {i : Nat} (wl : WfL0 g) (wb : WfB g) (w : WfW g) (hi : (i : Int) < g 48 4) (hc : cpP g i) : WfL0 (payP g i) ∧ WfB (payP g i) ∧ WfW (payP g i) := by
  have c := payP_ch g i
  have w0 := wl.1
  have wb1 := wb.1
  obtain ⟨a1, a2, a3, a4, a5, a6, a7, a8, a9, a10, a11, a12, a13⟩ := w.2.1 i hi
  have rc := wb.2.2 (g 50 i * 4 + g 51 i).toNat (by omega)
  have rr := hc.2.2.2.2
  refine ⟨wl.ch c (by decide), (wb.up14 (by omega)).ch (S := [56]) (F := []) ((Ch.rf _).up (by decide) (by decide)) (by decide), ?_⟩
  have e : ∀ q ∈ [9, 48, 49, 50, 51, 52, 53, 54, 55, 57, 58, 59, 60, 61], payP g i q = g q := fun q hq => c.1 q (by revert hq; revert q; decide) (by intro z; subst z; revert hq; decide)
  have e56 : payP g i 56 = lset (g 56) i (g 1 0) := by unfold payP; simp [up_at]
  unfold WfW WdI at w ⊢
  rw [e 9 (by decide), e 48 (by decide), e 49 (by decide), e 50 (by decide), e 51 (by decide), e 52 (by decide), e 53 (by decide), e 54 (by decide), e 55 (by decide), e56, e 57 (by decide), e 58 (by decide), e 59 (by decide), e 60 (by decide), e 61 (by decide)]
  refine ⟨w.1, fun j hj => ?_, w.2.2⟩
  obtain ⟨b1, b2, b3, b4, b5, b6, b7, b8, b9⟩ := w.2.1 j hj
  refine ⟨b1, b2, b3, b4, b5, b6, b7, ?_, b9⟩
  unfold lset
  split <;> omega
theorem payP_stV {g : mz_S} {i o b : Nat} {dy : Int} (h : o ≠ i) : stV (payP g i) o b dy = stV g o b dy := by
  have c := payP_ch g i
  have e56 : payP g i 56 o = g 56 o := by unfold payP; simp [up_at, lset, h]
  unfold stV
  rw [c.1 3 (by decide) (by decide), c.1 10 (by decide) (by decide), c.1 50 (by decide) (by decide), c.1 55 (by decide) (by decide), e56]
theorem sX10_payOut {T : Nat × (Nat → Int32)} {d : Nat} {Q : mz_K} {X : mz_X} {g : mz_S} {i a b nt : Nat} {W : Int} {al : Nat → List pA} (wl : WfL0 g) (wb : WfB g) (w : WfW g) (we : 0 ≤ g 15 2 ∧ g 15 2 < 400) (tw : TxW g nt al) (wk : WkS W g) (hW : W < 2147483647) (hi : (i : Int) < g 48 4) (e49 : g 49 i = (a : Int)) (e50 : g 50 i = (b : Int)) (hc : cpP g i) (k0 : g 58 i = -1 → Q 1 (recS (payP g i) (g 10 b) a b (g 51 i) (g 52 i) 0)) (k1 : ∀ o : Nat, g 58 i = (o : Int) → (o : Int) < g 48 4 → o ≠ i → g 56 o = -1 → Q 1 (recS (mx_up (payP g i) 55 o (stV g o b (g 1 0))) (g 10 b) a b (g 51 i) (g 52 i) 0)) (k2 : ∀ o : Nat, g 58 i = (o : Int) → (o : Int) < g 48 4 → o ≠ i → ¬ g 56 o = -1 → ∀ P, Ch [39, 45, 46, 47] [] (payP g i) P → AsS g P → WkS (W + 1) P → (w64 (akF g nt al a b (g 52 i) (g 51 i) 7) = 0 → Q 2 P) ∧ (w64 (akF g nt al a b (g 52 i) (g 51 i) 7) = 1 → Q 1 (recS P (g 10 b) a b (g 51 i) (g 52 i) 0))) : zC T (d + 8) 138 [mx_R 48, mx_I (i : Int)] g Q X := by
  have w0 := wl.1
  have w1 := w.1
  have wb1 := wb.1
  obtain ⟨a1, a2, a3, a4, a5, a6, a7, a8, a9, a10, a11, a12, a13⟩ := w.2.1 i hi
  have rc := wb.2.2 (g 50 i * 4 + g 51 i).toNat (by omega)
  have rr := hc.2.2.2.2
  obtain ⟨pl, pb, pw⟩ := payP_wf wl wb w hi hc
  have cP := payP_ch g i
  have sP : ∀ o : Nat, o ≠ i → stV (payP g i) o b (g 1 0) = stV g o b (g 1 0) := fun o ho => payP_stV ho
  have fP : ∀ o : Nat, o ≠ i → payP g i 56 o = g 56 o := fun o ho => by unfold payP; simp [up_at, lset, ho]
  obtain ⟨P, eP⟩ : ∃ P, P = payP g i := ⟨_, rfl⟩
  rw [← eP] at k0 k1 k2 pl pb pw cP sP fP
  have en : ∀ (G : mz_S), (∀ q ∈ [1, 10, 15, 49, 50, 51, 52], G q = P q) → Q 1 (recS G (g 10 b) a b (g 51 i) (g 52 i) 0) → aX10_payOut T (d + 7) Q X 119 [some (mx_R 48), some (mx_I (i : Int)), some (mx_I (a : Int)), some (mx_I (b : Int))] [] G (0, 0) := by
    intro G eG kG
    refine zX10_payOut_119 ?_
    refine s_inN ?_ (fun ea => ?_)
    · omega
    try simp only [ea]
    clear ea
    refine s_inN ?_ (fun ea => ?_)
    · omega
    try simp only [ea]
    clear ea
    refine s_inN ?_ (fun ea => ?_)
    · omega
    try simp only [ea]
    clear ea
    rw [eG 10 (by decide), eG 51 (by decide), eG 52 (by decide), cP.1 10 (by decide) (by decide), cP.1 51 (by decide) (by decide), cP.1 52 (by decide) (by decide)]
    exact sX6_record (d := d + 5) (by rw [eG 15 (by decide), cP.1 15 (by decide) (by decide)]; exact we) (by omega) (by omega) (by omega) (by omega) kG
  refine zX10_payOut ?_
  refine s_inN ?_ (fun ea => ?_)
  · omega
  try simp only [ea]
  clear ea
  refine s_inN ?_ (fun ea => ?_)
  · omega
  try simp only [ea]
  clear ea
  refine s_inN ?_ (fun ea => ?_)
  · omega
  try simp only [ea]
  clear ea
  refine s_inN ?_ (fun ea => ?_)
  · omega
  try simp only [ea]
  clear ea
  rw [w32_of (n := -(g 52 i)) (by omega) (by omega)]
  refine sX0_gets (d := d + 5) wb (by omega) (by omega) (by omega) ?_
  rw [show min 10000000 (g 14 (g 50 i * 4 + g 51 i).toNat + -(g 52 i)) = g 14 (g 50 i * 4 + g 51 i).toNat - g 52 i by omega]
  refine s_inN ?_ (fun ea => ?_)
  · omega
  try simp only [ea]
  clear ea
  intro G2 eG2
  have : G2 = P := by rw [eG2, eP, up_q (by decide)]; rfl
  subst this
  refine s_inN ?_ (fun ea => ?_)
  · omega
  try simp only [ea]
  clear ea
  rw [cP.1 58 (by decide) (by decide), e49, e50]
  first | with_reducible refine c_lt ?_ ?_ (fun h1 => ?_) (fun h1 => ?_) | with_reducible refine c_le ?_ ?_ (fun h1 => ?_) (fun h1 => ?_) | with_reducible refine c_eq ?_ ?_ (fun h1 => ?_) (fun h1 => ?_) | with_reducible refine c_ne ?_ ?_ (fun h1 => ?_) (fun h1 => ?_)
  · omega
  · omega
  · exact en G2 (fun q hq => rfl) (k0 h1)
  · obtain ⟨o, eo⟩ := Int.eq_ofNat_of_zero_le (show 0 ≤ g 58 i by omega)
    have oi : o ≠ i := by omega
    have ho : (o : Int) < g 48 4 := by omega
    have k1 := k1 o eo ho oi
    have k2 := k2 o eo ho oi
    obtain ⟨b1, b2, b3, b4, b5, b6, b7, b8, b9, b10, b11, b12, b13⟩ := w.2.1 o ho
    have sw : ∀ G : mz_S, (∀ q ∈ [1, 10, 15, 48, 49, 50, 51, 52, 58], G q = G2 q) → WfL0 G → WfB G → WfW G → Q 1 (recS (mx_up G 55 o (stV G o b (g 1 0))) (g 10 b) a b (g 51 i) (g 52 i) 0) → aX10_payOut T (d + 7) Q X 101 [some (mx_R 48), some (mx_I (i : Int)), some (mx_I (a : Int)), some (mx_I (b : Int))] [] G (0, 0) := by
      intro G eG gl gb gw kG
      refine zX10_payOut_101 ?_
      refine s_inN ?_ (fun ea => ?_)
      · omega
      try simp only [ea]
      clear ea
      rw [eG 58 (by decide), eG 1 (by decide), cP.1 58 (by decide) (by decide), cP.1 1 (by decide) (by decide), eo]
      refine sX10_stopWhenHeard (d := d + 4) gl gb gw (by rw [eG 48 (by decide), cP.1 48 (by decide) (by decide)]; exact ho) (by omega) (en _ (fun q hq => ?_) kG)
      rw [up_at, if_neg (by intro z; subst z; revert hq; decide)]
      exact eG q (by simp at hq ⊢; omega)
    refine s_inN ?_ (fun ea => ?_)
    · omega
    try simp only [ea]
    clear ea
    rw [eo]
    refine sX10_isPaid (d := d + 6) (by omega) (by rw [fP o oi]; exact b8) ?_
    rw [fP o oi]
    first | with_reducible refine b_eq (fun h2 => ?_) (fun h2 => ?_) | with_reducible refine b_ne (fun h2 => ?_) (fun h2 => ?_)
    · refine sw G2 (fun q hq => rfl) pl pb pw ?_
      rw [sP o oi]
      exact k1 (by omega)
    · refine s_inN ?_ (fun ea => ?_)
      · omega
      try simp only [ea]
      clear ea
      refine s_inN ?_ (fun ea => ?_)
      · omega
      try simp only [ea]
      clear ea
      rw [cP.1 51 (by decide) (by decide), cP.1 52 (by decide) (by decide), w32_of (n := g 52 i) (by omega) (by omega)]
      refine sX3_askG (c := g) (d := d + 1) pl pb tw ((AsS.rf g).tr cP (by decide) (by rw [cP.1 39 (by decide) (by decide)])) (wk.fr cP (by decide)) hW (by omega) (by omega) (by decide) (fun G3 c3 s3 k3 => ?_)
      have rg := akF_rng (g := g) (nt := nt) (al := al) (a := a) (b := b) (n := g 52 i) (coin := g 51 i) (s := 7) (by decide)
      have rg' : 0 ≤ w64 (akF g nt al a b (g 52 i) (g 51 i) 7) ∧ w64 (akF g nt al a b (g 52 i) (g 51 i) 7) ≤ 1 := rg
      have kk := k2 h2 G3 c3 s3 k3
      rw [w32_akF (s := 7) (by decide), w32_0]
      refine ⟨fun h3 => ?_, fun h3 => kk.1 (by omega)⟩
      refine sw G3 (fun q hq => c3.1 q (by simp at hq ⊢; omega) (by intro z; subst z; revert hq; decide)) (pl.ch c3 (by decide)) (pb.ch c3 (by decide)) (pw.fr c3 (by decide)) ?_
      have : stV G3 o b (g 1 0) = G3 55 o := by
        unfold stV
        rw [if_pos (Or.inr _)]
        rw [c3.1 56 (by decide) (by decide), fP o oi]
        exact h2
      rw [this, up_self]
      exact kk.2 (by omega)
theorem sX10_hearSecret {T : Nat × (Nat → Int32)} {d : Nat} {Q : mz_K} {X : mz_X} {g : mz_S} {i : Nat} {x : Int} (w : WfW g) (hn : R32 (g 1 0)) (hi : (i : Int) < g 48 4) (hx : R32 x) (k1 : ¬ x = g 53 i → ∀ v, v = (if w32 (g 57 i + 1) = 3 then g 1 0 else g 55 i) → Q 0 (mx_up (mx_up g 57 i (g 57 i + 1)) 55 i v)) (k2 : x = g 53 i → zC T d 138 [mx_R 48, mx_I (i : Int)] g Q X) : zC T (d + 1) 137 [mx_R 48, mx_I (i : Int), mx_I x] g Q X := by
  have w1 := w.1
  obtain ⟨a1, a2, a3, a4, a5, a6, a7, a8, a9, a10, a11, a12, a13⟩ := w.2.1 i hi
  refine zX10_hearSecret ?_
  refine s_inN ?_ (fun ea => ?_)
  · omega
  try simp only [ea]
  clear ea
  first | with_reducible refine c_lt ?_ ?_ (fun h1 => ?_) (fun h1 => ?_) | with_reducible refine c_le ?_ ?_ (fun h1 => ?_) (fun h1 => ?_) | with_reducible refine c_eq ?_ ?_ (fun h1 => ?_) (fun h1 => ?_) | with_reducible refine c_ne ?_ ?_ (fun h1 => ?_) (fun h1 => ?_)
  · omega
  · omega
  · have k := k1 h1 _ rfl
    refine s_inN ?_ (fun ea => ?_)
    · omega
    try simp only [ea]
    clear ea
    refine s_inN ?_ (fun ea => ?_)
    · omega
    try simp only [ea]
    clear ea
    intro G1 e1
    refine s_inN ?_ (fun ea => ?_)
    · omega
    try simp only [ea]
    clear ea
    have f57 : G1 57 i = g 57 i + 1 := by rw [e1, up_s]
    have f55 : G1 55 i = g 55 i := by rw [e1, up_q (by decide)]
    rw [f57, show w32 3 = 3 by decide]
    refine ⟨fun z => ?_, fun z => ?_⟩
    · refine zX10_hearSecret_49 ?_
      rw [if_neg z, ← e1, ← f55, up_self] at k
      exact k
    · refine s_inN ?_ (fun ea => ?_)
      · omega
      try simp only [ea]
      clear ea
      intro G2 e2
      refine zX10_hearSecret_49 ?_
      rw [if_pos (Decidable.not_not.mp z), ← e1] at k
      rw [e2, show G1 1 0 = g 1 0 by rw [e1, up_q (by decide)]]
      exact k
  · exact k2 h1
