/-! twin: the reference -/
def TwR (c r : mz_S) (m : Nat) (nt : Nat) (al : Nat → List pA) (i a b p : Nat) (G : mz_S) : Prop := G 134 = lset (r 134) m a ∧ G 135 = lset (r 135) m b ∧ G 136 = lset (r 136) m (c 51 i) ∧ G 137 = lset (r 137) m (c 52 i) ∧ G 138 = lset (r 138) m (c 53 i) ∧ G 139 = lset (r 139) m (c 1 0 + c 3 (c 10 a * 8 + c 10 b).toNat) ∧ G 140 = lset (r 140) m (twT c nt al i a b p) ∧ G 141 = lset (r 141) m (-1) ∧ G 142 = lset (r 142) m 0 ∧ G 143 = lset (lset (r 143) m i) i m ∧ G 144 = lset (r 144) m 0 ∧ G 145 = lset (r 145) m 1 ∧ G 146 = lset (r 146) m 0 ∧ G 99 55 = ((m + 1 : Nat) : Int)
theorem sX12_twin {T : Nat × (Nat → Int32)} {d : Nat} {Q : mz_K} {X : mz_X} {g : mz_S} {c : mz_S} {x b : Int} {nt : Nat} {al : Nat → List pA} (wl : WfL0 c) (wb : WfB c) (w : WfW c) (rl : ReL c g) (rb : ReB c g) (rw' : ReW c g) (tw : TxW c nt al) (h36 : g 99 36 = (nt : Int)) (et : ∀ q ∈ [120, 121, 122, 123, 124, 125, 126, 127, 128, 129], g q = c q) (hx : R32 x) (hb : R32 b)
    (k1 : ¬ ((0 ≤ x ∧ x ≤ c 48 4 - 1) ∧ (0 ≤ b ∧ b ≤ c 9 1 - 1)) → Q 0 (mx_up (mx_up g 99 0 0) 99 0 1))
    (k2 : ∀ i B : Nat, x = (i : Int) → b = (B : Int) → (i : Int) < c 48 4 → (B : Int) < c 9 1 → ¬ (c 48 4 < 100 ∧ cwP c i B) → Q 0 (mx_up (mx_up g 99 0 0) 99 0 2))
    (k3 : ∀ i B a p m : Nat, x = (i : Int) → b = (B : Int) → (i : Int) < c 48 4 → (B : Int) < c 9 1 → c 49 i = (a : Int) → c 50 i = (p : Int) → c 48 4 = (m : Int) → m < 100 → cwP c i B → ∀ G : mz_S, Ch [134, 135, 136, 137, 138, 139, 140, 141, 142, 143, 144, 145, 146, 130, 131, 132, 133] [0, 50, 54, 55] g G → G 99 0 = 0 → TwR c g m nt al i a B p G → Q (m : Int) G) : zC T (d + 6) 282 [mx_R 99, mx_I x, mx_I b] g Q X := by
  have w0 := wl.1
  have hw := wb.1
  have w1 := w.1
  refine zX12_twin ?_
  intro g1 e1
  have c1 : Ch [] [0] g g1 := by rw [e1]; exact ch_0 g 0
  have z0 : g1 99 0 = 0 := by rw [e1, up_s]
  rw [← e1] at k1 k2
  have rl := rl.fr c1 (by decide) (by decide)
  have rb := rb.fr c1 (by decide) (by decide)
  have rw' := rw'.fr c1 (by decide) (by decide)
  refine sX12_isWordC rw' w hx ?_
  first | with_reducible refine b_eq (fun h1 => ?_) (fun h1 => ?_) | with_reducible refine b_ne (fun h1 => ?_) (fun h1 => ?_)
  · exact zX12_twin_21 (sX12_fails (k1 (fun z => h1 z.1)))
  refine sX12_isBrokerC rb wb hb ?_
  first | with_reducible refine b_eq (fun h2 => ?_) (fun h2 => ?_) | with_reducible refine b_ne (fun h2 => ?_) (fun h2 => ?_)
  rotate_left
  · exact zX12_twin_21 (sX12_fails (k1 (fun z => h2 z.2)))
  obtain ⟨i, ei⟩ := Int.eq_ofNat_of_zero_le h1.1
  obtain ⟨B, eB⟩ := Int.eq_ofNat_of_zero_le h2.1
  obtain ⟨m, em⟩ := Int.eq_ofNat_of_zero_le w1.1
  have hi : (i : Int) < c 48 4 := by omega
  have hB : (B : Int) < c 9 1 := by omega
  obtain ⟨a1, a2, a3, a4, a5, a6, a7, a8, a9, a10, a11, a12, a13⟩ := w.2.1 i hi
  obtain ⟨r1, r2, r3, r4, r5, r6, r7, r8, r9, r10, r11, r12, r13⟩ := rw'.2 i hi
  obtain ⟨a, e49⟩ := Int.eq_ofNat_of_zero_le a1.1
  obtain ⟨p, e50⟩ := Int.eq_ofNat_of_zero_le a2.1
  have K2 := k2 i B ei eB hi hB
  have K3 := k3 i B a p m ei eB hi hB e49 e50 em
  subst ei eB
  have ra := wb.2.1 a (by omega)
  have rB := wb.2.1 B (by omega)
  have rp := wb.2.1 p (by omega)
  refine s_inN ?_ (fun ea => ?_)
  · omega
  try simp only [ea]
  clear ea
  rw [r1, e49]
  refine s_inN ?_ (fun ea => ?_)
  · omega
  try simp only [ea]
  clear ea
  rw [(rb.2.1 a (by omega)).1, rw'.1]
  have no : ¬ (c 48 4 < 100 ∧ cwP c i B) → aX12_twin T (d + 5) Q X 140 [some (mx_R 99), some (mx_I (i : Int)), some (mx_I (B : Int)), some (mx_I (a : Int)), some (mx_I (c 10 a)), none] [] g1 (0, 0) := fun z => zX12_twin_140 (sX12_fails (K2 z))
  first | with_reducible refine c_lt ?_ ?_ (fun h3 => ?_) (fun h3 => ?_) | with_reducible refine c_le ?_ ?_ (fun h3 => ?_) (fun h3 => ?_) | with_reducible refine c_eq ?_ ?_ (fun h3 => ?_) (fun h3 => ?_) | with_reducible refine c_ne ?_ ?_ (fun h3 => ?_) (fun h3 => ?_)
  · omega
  · omega
  · exact no (fun z => by omega)
  refine s_inN ?_ (fun ea => ?_)
  · omega
  try simp only [ea]
  clear ea
  rw [r10]
  first | with_reducible refine c_lt ?_ ?_ (fun h4 => ?_) (fun h4 => ?_) | with_reducible refine c_le ?_ ?_ (fun h4 => ?_) (fun h4 => ?_) | with_reducible refine c_eq ?_ ?_ (fun h4 => ?_) (fun h4 => ?_) | with_reducible refine c_ne ?_ ?_ (fun h4 => ?_) (fun h4 => ?_)
  · omega
  · omega
  · exact no (fun z => h4 z.2.2.1)
  refine sX12_isPaidAt (d := d + 3) (c := c) wl wb w rl rb rw' (by omega) (fun _ => by rw [show ((i : Int)).toNat = i by omega, e49]; rfl) ?_
  rw [show ((i : Int)).toNat = i by omega]
  first | with_reducible refine b_eq (fun h5 => ?_) (fun h5 => ?_) | with_reducible refine b_ne (fun h5 => ?_) (fun h5 => ?_)
  · exact no (fun z => z.2.2.2.1 h5.2)
  refine s_inN ?_ (fun ea => ?_)
  · omega
  try simp only [ea]
  clear ea
  rw [r13]
  first | with_reducible refine c_lt ?_ ?_ (fun h6 => ?_) (fun h6 => ?_) | with_reducible refine c_le ?_ ?_ (fun h6 => ?_) (fun h6 => ?_) | with_reducible refine c_eq ?_ ?_ (fun h6 => ?_) (fun h6 => ?_) | with_reducible refine c_ne ?_ ?_ (fun h6 => ?_) (fun h6 => ?_)
  · omega
  · omega
  · exact no (fun z => by have := z.2.2.2.2.1; omega)
  refine s_inN ?_ (fun ea => ?_)
  · omega
  try simp only [ea]
  clear ea
  rw [r7, rl.1, w32_of (n := c 1 0) (by omega) (by omega)]
  refine ⟨fun h7 => no (fun z => by have := z.2.2.2.2.2.1; omega), fun h7 => ?_⟩
  first | with_reducible refine c_lt ?_ ?_ (fun h8 => ?_) (fun h8 => ?_) | with_reducible refine c_le ?_ ?_ (fun h8 => ?_) (fun h8 => ?_) | with_reducible refine c_eq ?_ ?_ (fun h8 => ?_) (fun h8 => ?_) | with_reducible refine c_ne ?_ ?_ (fun h8 => ?_) (fun h8 => ?_)
  · omega
  · omega
  · exact no (fun z => by have := z.2.2.2.2.2.2.1; omega)
  refine s_inN ?_ (fun ea => ?_)
  · omega
  try simp only [ea]
  clear ea
  rw [r2, e50]
  first | with_reducible refine c_lt ?_ ?_ (fun h9 => ?_) (fun h9 => ?_) | with_reducible refine c_le ?_ ?_ (fun h9 => ?_) (fun h9 => ?_) | with_reducible refine c_eq ?_ ?_ (fun h9 => ?_) (fun h9 => ?_) | with_reducible refine c_ne ?_ ?_ (fun h9 => ?_) (fun h9 => ?_)
  · omega
  · omega
  · exact no (fun z => by have := z.2.2.2.2.2.2.2.1; omega)
  refine sX12_hasFallen wb rb (by omega) ?_
  rw [show ((B : Int)).toNat = B by omega]
  first | with_reducible refine b_eq (fun hA => ?_) (fun hA => ?_) | with_reducible refine b_ne (fun hA => ?_) (fun hA => ?_)
  · exact no (fun z => hA z.2.2.2.2.2.2.2.2.1)
  refine sX12_hasFallen wb rb (by omega) ?_
  rw [show ((a : Int)).toNat = a by omega]
  first | with_reducible refine b_eq (fun hC => ?_) (fun hC => ?_) | with_reducible refine b_ne (fun hC => ?_) (fun hC => ?_)
  · exact no (fun z => by have := z.2.2.2.2.2.2.2.2.2.1; rw [e49] at this; exact hC this)
  refine s_inN ?_ (fun ea => ?_)
  · omega
  try simp only [ea]
  clear ea
  rw [(rb.2.1 B (by omega)).1]
  have lb := wl.2.2.2.1 (c 10 a * 8 + c 10 B).toNat (by omega)
  refine sX12_lagOf (c := c) wl rl (by omega) (by omega) ?_
  first | with_reducible refine c_lt ?_ ?_ (fun hD => ?_) (fun hD => ?_) | with_reducible refine c_le ?_ ?_ (fun hD => ?_) (fun hD => ?_) | with_reducible refine c_eq ?_ ?_ (fun hD => ?_) (fun hD => ?_) | with_reducible refine c_ne ?_ ?_ (fun hD => ?_) (fun hD => ?_)
  · omega
  · omega
  rotate_left
  · exact no (fun z => by have := z.2.2.2.2.2.2.2.2.2.2; rw [e49] at this; exact this hD)
  have h60 : c 60 i = 0 := by
    rcases a11.1 with z | z
    · exact z
    · exact absurd h4 (a11.2 z)
  have cd : cwP c i B := ⟨h60, h4, fun z => h5 ⟨by omega, z⟩, by omega, by omega, by omega, by omega, by omega, by rw [e49]; exact Decidable.not_not.mp hC, by rw [e49]; exact hD⟩
  have K3 := K3 (by omega) cd
  refine s_inN ?_ (fun ea => ?_)
  · omega
  try simp only [ea]
  clear ea
  refine s_inN ?_ (fun ea => ?_)
  · omega
  try simp only [ea]
  clear ea
  rw [r3, r4, w32_of (n := c 52 i) (by omega) (by omega)]
  refine sX12_asksG (c := c) (d := d) wl rl wb rb tw (by rw [c1.2 36 (by decide)]; exact h36) (fun q hq => by rw [c1.1 q (by simp) (by intro z; subst z; revert hq; decide)]; exact et q hq) (by omega) (by omega) (fun G2 c2 v2 => ?_)
  have rl2 := rl.fr c2 (by decide) (by decide)
  have rb2 := rb.fr c2 (by decide) (by decide)
  have f2 : ∀ q ∈ [134, 135, 136, 137, 138, 139, 140, 141, 142, 143, 144, 145, 146], G2 q = g1 q := fun q hq => c2.1 q (by simp at hq ⊢; omega) (by intro z; subst z; revert hq; decide)
  refine s_inN ?_ (fun ea => ?_)
  · omega
  try simp only [ea]
  clear ea
  refine s_inN ?_ (fun ea => ?_)
  · omega
  try simp only [ea]
  clear ea
  refine s_inN ?_ (fun ea => ?_)
  · omega
  try simp only [ea]
  clear ea
  rw [f2 136 (by decide), f2 137 (by decide), f2 138 (by decide), r3, r4, r5]
  refine sX12_comes (c := c) (d := d + 3) (m := m) wl wb rl2 (fun j hj => (rb2.2.1 j hj).1) (by omega) (by omega) (by rw [c2.2 55 (by decide), rw'.1, em]) (by omega) hD (v2 1 (by decide)) (fun G3 c3 nw => ?_)
  obtain ⟨n1, n2, n3, n4, n5, n6, n7, n8, n9, n10, n11, n12, n13, n14⟩ := nw
  have im : i ≠ m := by omega
  refine s_inN ?_ (fun ea => ?_)
  · omega
  try simp only [ea]
  clear ea
  refine ⟨zb1, ?_⟩
  intro G4 e4
  have c34 : Ch [145] [] G3 G4 := by rw [e4]; exact (Ch.rf G3).up (by decide) (by decide)
  have c24 : Ch [134, 135, 136, 137, 138, 139, 140, 141, 142, 143, 144, 145, 146] [55] G2 G4 := (c3.sub (by decide) (by decide)).tr (c34.sub (by decide) (by decide))
  have c14 : Ch [134, 135, 136, 137, 138, 139, 140, 141, 142, 143, 144, 145, 146, 130, 131, 132, 133] [0, 50, 54, 55] g G4 := (((c1.sub (by decide) (by decide)).tr (c2.sub (by decide) (by decide)))).tr (c24.sub (by decide) (by decide))
  have p141 : ∀ j : Nat, (j : Int) < c 48 4 → G4 141 j = c 56 j := by
    intro j hj
    rw [c34.1 141 (by decide) (by decide), n8, lset_n (by omega), f2 141 (by decide)]
    exact (rw'.2 j hj).2.2.2.2.2.2.2.1
  have b1 : ∀ q ∈ [134, 135, 136, 137, 138, 139, 140, 141, 142, 143, 144, 145, 146], G2 q = g q := fun q hq => by
    rw [f2 q hq, c1.1 q (by simp) (by intro z; subst z; revert hq; decide)]
  have fin : ∀ G, Ch [140] [] G4 G → G 140 = lset (G4 140) m (twT c nt al i a B p) → aX12_twin T (d + 5) Q X 251 [some (mx_R 99), some (mx_I (i : Int)), some (mx_I (B : Int)), some (mx_I (a : Int)), some (mx_I (c 10 a)), some (mx_I (m : Int))] [] G (0, 0) := by
    intro G cG v140
    refine zX12_twin_251 ?_
    refine s_inN ?_ (fun ea => ?_)
    · omega
    try simp only [ea]
    clear ea
    intro G5 e5
    refine s_inN ?_ (fun ea => ?_)
    · omega
    try simp only [ea]
    clear ea
    intro G6 e6
    have c46 : Ch [140, 143] [] G4 G6 := by rw [e6, e5]; exact ((cG.sub (by decide) (by decide)).up (by decide) (by decide)).up (by decide) (by decide)
    have cA : Ch [143] [] G G6 := by rw [e6, e5]; exact ((Ch.rf G).up (by decide) (by decide)).up (by decide) (by decide)
    refine K3 G6 (c14.tr (c46.sub (by decide) (by decide))) (by rw [c46.2 0 (by decide), c24.2 0 (by decide), c2.2 0 (by decide), z0]) ?_
    have f : ∀ q ∈ [134, 135, 136, 137, 138, 139, 141, 142, 144, 146], G6 q = G3 q := fun q hq => by
      rw [c46.1 q (by simp at hq ⊢; omega) (by intro z; subst z; revert hq; decide), c34.1 q (by simp at hq ⊢; omega) (by intro z; subst z; revert hq; decide)]
    unfold TwR
    rw [f 134 (by decide), f 135 (by decide), f 136 (by decide), f 137 (by decide), f 138 (by decide), f 139 (by decide), f 141 (by decide), f 142 (by decide), f 144 (by decide), f 146 (by decide), cA.1 140 (by decide) (by decide), v140, c46.1 145 (by decide) (by decide), n1, n2, n3, n4, n5, n6, n8, n9, n11, n13, c46.2 55 (by decide), c34.2 55 (by decide), n14, c34.1 140 (by decide) (by decide), n7, e4, up_at, if_pos rfl, n12, b1 134 (by decide), b1 135 (by decide), b1 136 (by decide), b1 137 (by decide), b1 138 (by decide), b1 139 (by decide), b1 140 (by decide), b1 141 (by decide), b1 142 (by decide), b1 144 (by decide), b1 145 (by decide), b1 146 (by decide)]
    refine ⟨rfl, rfl, rfl, rfl, rfl, rfl, ?_, rfl, rfl, ?_, rfl, ?_, rfl, rfl⟩
    · funext j
      unfold lset
      split <;> rfl
    · rw [e6, up_at, if_pos rfl, e5, up_at, if_pos rfl, cG.1 143 (by decide) (by decide), e4, up_at, if_neg (by decide), n10, b1 143 (by decide)]
      funext j
      unfold lset
      split
      · rfl
      · split <;> rfl
    · funext j
      unfold lset
      split <;> rfl
  have st : w32 (c 1 0 + c 3 (c 10 a * 8 + c 10 B).toNat + akF c nt al a B (c 52 i) (c 51 i) 1) = c 1 0 + c 3 (c 10 a * 8 + c 10 B).toNat + w64 (akF c nt al a B (c 52 i) (c 51 i) 1) := by
    have rg1 := akF_rng (g := c) (nt := nt) (al := al) (a := a) (b := B) (n := c 52 i) (coin := c 51 i) (s := 1) (by decide)
    have rg1' : 1 ≤ w64 (akF c nt al a B (c 52 i) (c 51 i) 1) ∧ w64 (akF c nt al a B (c 52 i) (c 51 i) 1) ≤ 500 := rg1
    have e := w32_akF (g := c) (nt := nt) (al := al) (a := a) (b := B) (n := c 52 i) (coin := c 51 i) (s := 1) (by decide)
    have e2 := w32_add (a := c 1 0 + c 3 (c 10 a * 8 + c 10 B).toNat) (b := akF c nt al a B (c 52 i) (c 51 i) 1) (by rw [e]; omega) (by rw [e]; omega)
    rw [e2, e]
  have rg1 := akF_rng (g := c) (nt := nt) (al := al) (a := a) (b := B) (n := c 52 i) (coin := c 51 i) (s := 1) (by decide)
  have rg1' : 1 ≤ w64 (akF c nt al a B (c 52 i) (c 51 i) 1) ∧ w64 (akF c nt al a B (c 52 i) (c 51 i) 1) ≤ 500 := rg1
  have v140 : G4 140 m = c 1 0 + c 3 (c 10 a * 8 + c 10 B).toNat + akF c nt al a B (c 52 i) (c 51 i) 1 := by rw [c34.1 140 (by decide) (by decide), n7, lset_s]
  refine sX12_isPaidH (c := c) w p141 (by omega) ?_
  rw [show ((i : Int)).toNat = i by omega]
  first | with_reducible refine b_eq (fun hE => ?_) (fun hE => ?_) | with_reducible refine b_ne (fun hE => ?_) (fun hE => ?_)
  · refine fin G4 (Ch.rf _) ?_
    have : twT c nt al i a B p = G4 140 m := by
      unfold twT
      rw [if_pos (Or.inl _), v140]
      by_cases z : c 56 i = -1
      · exact z
      · exact absurd ⟨by omega, z⟩ hE
    rw [this]
    funext j
    unfold lset
    split
    · rename_i z; rw [z]
    · rfl
  · refine s_inN ?_ (fun ea => ?_)
    · omega
    try simp only [ea]
    clear ea
    refine s_inN ?_ (fun ea => ?_)
    · omega
    try simp only [ea]
    clear ea
    rw [c34.1 135 (by decide) (by decide), n2, lset_n im, f2 135 (by decide), r2, e50]
    refine s_inN ?_ (fun ea => ?_)
    · omega
    try simp only [ea]
    clear ea
    refine s_inN ?_ (fun ea => ?_)
    · omega
    try simp only [ea]
    clear ea
    refine s_inN ?_ (fun ea => ?_)
    · omega
    try simp only [ea]
    clear ea
    have rb4 : ∀ j, j < 12 → G4 106 j = c 10 j := fun j hj => by rw [c24.1 106 (by decide) (by decide)]; exact (rb2.2.1 j hj).1
    rw [rb4 p (by omega), rb4 B (by omega), p141 i hi]
    refine sX12_heardOn (by omega) (by omega) ?_
    have rl4 := rl2.fr c24 (by decide) (by decide)
    have lg := rl4.lag wl (i := (c 10 p * 8 + c 10 B).toNat) (by omega)
    refine sMinI ?_
    refine s_inN ?_ (fun ea => ?_)
    · omega
    try simp only [ea]
    clear ea
    intro G5 e5
    refine fin G5 (by rw [e5]; exact (Ch.rf _).up (by decide) (by decide)) ?_
    rw [e5, up_at, if_pos rfl, v140]
    congr 1
    unfold twT
    rcases lg with ⟨z, z2⟩ | ⟨z, z2, z3⟩
    · rw [if_pos (Or.inr z), z2]
      unfold imin
      rw [if_neg]
      rw [st, w32_of (n := c 56 i + 1000000) (by omega) (by omega)]
      omega
    · have hE2 := hE.2
      rw [if_neg (by omega), z3]
