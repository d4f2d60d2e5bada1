/-! members of words: heard as paid, stops -/
abbrev thP (g : mz_S) (i : Nat) : Prop := ¬ g 56 i = -1 ∧ (¬ g 3 (g 10 (g 50 i).toNat * 8 + g 10 (g 49 i).toNat).toNat = -1 ∧ g 56 i + g 3 (g 10 (g 50 i).toNat * 8 + g 10 (g 49 i).toNat).toNat ≤ g 1 0)
theorem sX10_tellerHeardPaid {T : Nat × (Nat → Int32)} {d : Nat} {Q : mz_K} {X : mz_X} {g : mz_S} {i : Nat} (wl : WfL0 g) (wb : WfB g) (w : WfW g) (hi : (i : Int) < g 48 4) (k : Q (pI (thP g i)) g) : zC T (d + 3) 134 [mx_R 48, mx_I (i : Int)] g Q X := by
  have w0 := wl.1
  have w1 := w.1
  have wb1 := wb.1
  obtain ⟨a1, a2, a3, a4, a5, a6, a7, a8, a9, a10, a11, a12⟩ := w.2.1 i hi
  have ra := wb.2.1 (g 49 i).toNat (by omega)
  have rb := wb.2.1 (g 50 i).toNat (by omega)
  have rl := wl.2.2.2.1 (g 10 (g 50 i).toNat * 8 + g 10 (g 49 i).toNat).toNat (by omega)
  refine zX10_tellerHeardPaid (sX10_isPaid (by omega) a8 ?_)
  first | with_reducible refine b_eq (fun h1 => ?_) (fun h1 => ?_) | with_reducible refine b_ne (fun h1 => ?_) (fun h1 => ?_)
  · refine zX10_tellerHeardPaid_63 (zX10_tellerHeardPaid_64 ⟨zb0, ?_⟩)
    rw [pI_f (fun z => h1 z.1)] at k; exact k
  · refine s_inN ?_ (fun ea => ?_)
    · omega
    try simp only [ea]
    clear ea
    refine s_in (by omega) (fun eb => ?_)
    rw [eb]
    refine s_inN ?_ (fun ea => ?_)
    · omega
    try simp only [ea]
    clear ea
    refine s_inN ?_ (fun ea => ?_)
    · omega
    try simp only [ea]
    clear ea
    refine s_in (by omega) (fun ec => ?_)
    rw [ec]
    refine sX5_isHeard (by omega) (by omega) rfl (by omega) (by omega) (by omega) ?_
    first | with_reducible refine b_eq (fun h2 => ?_) (fun h2 => ?_) | with_reducible refine b_ne (fun h2 => ?_) (fun h2 => ?_)
    · refine zX10_tellerHeardPaid_63 (zX10_tellerHeardPaid_64 ⟨zb0, ?_⟩)
      rw [pI_f (fun z => h2 z.2)] at k; exact k
    · refine zX10_tellerHeardPaid_64 ⟨zb1, ?_⟩
      rw [pI_t ⟨h1, h2⟩] at k; exact k
theorem sX12_isPaidAt {T : Nat × (Nat → Int32)} {d : Nat} {Q : mz_K} {X : mz_X} {g : mz_S} {c : mz_S} {x t : Int} (wl : WfL0 c) (wb : WfB c) (w : WfW c) (rl : ReL c g) (rb : ReB c g) (h : ReW c g) (hx : -1 ≤ x ∧ x < c 48 4) (ht : ¬ x = -1 → t = c 10 (c 49 x.toNat).toNat) (k : Q (pI (¬ x = -1 ∧ thP c x.toNat)) g) : zC T (d + 2) 278 [mx_R 99, mx_I x, mx_I t] g Q X := by
  have w0 := wl.1
  have w1 := w.1
  have wb1 := wb.1
  refine zX12_isPaidAt (sX12_isPaid w h hx ?_)
  first | with_reducible refine b_eq (fun h1 => ?_) (fun h1 => ?_) | with_reducible refine b_ne (fun h1 => ?_) (fun h1 => ?_)
  · refine zX12_isPaidAt_41 (zX12_isPaidAt_42 ⟨zb0, ?_⟩)
    rw [pI_f (fun z => h1 ⟨z.1, z.2.1⟩)] at k; exact k
  · have hi : ((x.toNat : Nat) : Int) < c 48 4 := by omega
    obtain ⟨a1, a2, a3, a4, a5, a6, a7, a8, a9, a10, a11, a12⟩ := w.2.1 x.toNat hi
    obtain ⟨r1, r2, r3, r4, r5, r6, r7, r8, r9, r10, r11, r12, r13⟩ := h.2 x.toNat hi
    have ra := wb.2.1 (c 49 x.toNat).toNat (by omega)
    have rb' := wb.2.1 (c 50 x.toNat).toNat (by omega)
    have tt := ht h1.1
    subst tt
    refine s_in (by omega) (fun ea => ?_)
    rw [ea, r2]
    refine s_in (by omega) (fun eb => ?_)
    rw [eb, r8, (rb.2.1 (c 50 x.toNat).toNat (by omega)).1]
    refine s_in (by omega) (fun ec => ?_)
    refine sX12_heardOn (by omega) (by omega) ?_
    have lg := rl.lag wl (i := (c 10 (c 50 x.toNat).toNat * 8 + c 10 (c 49 x.toNat).toNat).toNat) (by omega)
    rw [rl.1]
    first | with_reducible refine c_lt ?_ ?_ (fun h2 => ?_) (fun h2 => ?_) | with_reducible refine c_le ?_ ?_ (fun h2 => ?_) (fun h2 => ?_) | with_reducible refine c_eq ?_ ?_ (fun h2 => ?_) (fun h2 => ?_) | with_reducible refine c_ne ?_ ?_ (fun h2 => ?_) (fun h2 => ?_)
    · omega
    · omega
    · refine zX12_isPaidAt_41 (zX12_isPaidAt_42 ⟨zb0, ?_⟩)
      rw [pI_f (fun z => by have := z.2; unfold thP at this; omega)] at k; exact k
    · refine zX12_isPaidAt_42 ⟨zb1, ?_⟩
      rw [pI_t ⟨h1.1, h1.2, by omega, by omega⟩] at k; exact k
/-- a word's end, as it is heard -/
def stV (g : mz_S) (i b : Nat) (dy : Int) : Int := if g 3 (g 10 b * 8 + g 10 (g 50 i).toNat).toNat = -1 ∨ ¬ g 56 i = -1 then g 55 i else imin (g 55 i) (dy + g 3 (g 10 b * 8 + g 10 (g 50 i).toNat).toNat)
theorem imin_rng {x y : Int} (hx : 0 ≤ w32 x ∧ w32 x ≤ 30000) (hy : 0 ≤ y ∧ y ≤ 30000) : 0 ≤ w32 (imin x y) ∧ w32 (imin x y) ≤ 30000 := by
  have : w32 y = y := w32_of (by omega) (by omega)
  unfold imin
  split <;> omega
theorem up_self (g : mz_S) (q i : Nat) : mx_up g q i (g q i) = g := by
  funext a b
  unfold mx_up
  split
  · rename_i h; rw [h.1, h.2]
  · rfl
theorem sX10_stopWH {T : Nat × (Nat → Int32)} {d : Nat} {Q : mz_K} {X : mz_X} {g : mz_S} {i b : Nat} {dy : Int} (wl : WfL0 g) (wb : WfB g) (hi : i < 100) (h50 : 0 ≤ g 50 i ∧ g 50 i < 12) (h56 : -1 ≤ g 56 i ∧ g 56 i ≤ 999) (hb : b < 12) (k : Q 0 (mx_up g 55 i (stV g i b dy))) : zC T (d + 3) 135 [mx_R 48, mx_I (i : Int), mx_I (b : Int), mx_I dy] g Q X := by
  have w0 := wl.1
  have wb1 := wb.1
  have ra := wb.2.1 b hb
  have rb := wb.2.1 (g 50 i).toNat (by omega)
  have rl := wl.2.2.2.1 (g 10 b * 8 + g 10 (g 50 i).toNat).toNat (by omega)
  unfold stV at k
  have no : (g 3 (g 10 b * 8 + g 10 (g 50 i).toNat).toNat = -1 ∨ ¬ g 56 i = -1) → Q 0 g := by
    intro z
    rw [if_pos z, up_self] at k
    exact k
  refine zX10_stopWhenHeard ?_
  refine s_inN ?_ (fun ea => ?_)
  · omega
  try simp only [ea]
  clear ea
  refine sX0_lagTo (d := d) wb (by omega) (by omega) ?_
  rw [show ((b : Int)).toNat = b by omega]
  first | with_reducible refine c_lt ?_ ?_ (fun h1 => ?_) (fun h1 => ?_) | with_reducible refine c_le ?_ ?_ (fun h1 => ?_) (fun h1 => ?_) | with_reducible refine c_eq ?_ ?_ (fun h1 => ?_) (fun h1 => ?_) | with_reducible refine c_ne ?_ ?_ (fun h1 => ?_) (fun h1 => ?_)
  · omega
  · omega
  · exact zX10_stopWhenHeard_49 (no (Or.inl h1))
  · refine sX10_isPaid (by omega) h56 ?_
    first | with_reducible refine b_eq (fun h2 => ?_) (fun h2 => ?_) | with_reducible refine b_ne (fun h2 => ?_) (fun h2 => ?_)
    · exact zX10_stopWhenHeard_49 (no (Or.inr h2))
    · refine s_inN ?_ (fun ea => ?_)
      · omega
      try simp only [ea]
      clear ea
      refine sMinI ?_
      refine s_inN ?_ (fun ea => ?_)
      · omega
      try simp only [ea]
      clear ea
      rintro _ rfl
      rw [if_neg (by omega)] at k
      exact zX10_stopWhenHeard_49 k
theorem sX10_stopWhenHeard {T : Nat × (Nat → Int32)} {d : Nat} {Q : mz_K} {X : mz_X} {g : mz_S} {i b : Nat} {dy : Int} (wl : WfL0 g) (wb : WfB g) (w : WfW g) (hi : (i : Int) < g 48 4) (hb : b < 12) (k : Q 0 (mx_up g 55 i (stV g i b dy))) : zC T (d + 3) 135 [mx_R 48, mx_I (i : Int), mx_I (b : Int), mx_I dy] g Q X := by
  have w1 := w.1
  have wb1 := wb.1
  obtain ⟨a1, a2, a3, a4, a5, a6, a7, a8, a9, a10, a11, a12, a13⟩ := w.2.1 i hi
  exact sX10_stopWH wl wb (by omega) (by omega) a8 hb k
theorem stR {c : mz_S} {i b : Nat} {dy l : Int} (hd : 0 ≤ dy ∧ dy ≤ 999) (hs : 0 ≤ w32 (c 55 i) ∧ w32 (c 55 i) ≤ 30000) (hp : c 56 i = -1) (hl : (c 3 (c 10 b * 8 + c 10 (c 50 i).toNat).toNat = -1 ∧ l = 1000000) ∨ (0 ≤ c 3 (c 10 b * 8 + c 10 (c 50 i).toNat).toNat ∧ c 3 (c 10 b * 8 + c 10 (c 50 i).toNat).toNat ≤ 9999 ∧ l = c 3 (c 10 b * 8 + c 10 (c 50 i).toNat).toNat)) : imin (c 55 i) (dy + l) = stV c i b dy := by
  unfold stV
  rcases hl with ⟨z, rfl⟩ | ⟨z, z2, rfl⟩
  · rw [if_pos (Or.inl z)]
    unfold imin
    rw [if_neg]
    rw [w32_of (n := dy + 1000000) (by omega) (by omega)]
    omega
  · rw [if_neg (by omega)]
/-- the reference: a word's end, where it isn't paid -/
theorem sX12_stops {T : Nat × (Nat → Int32)} {d : Nat} {Q : mz_K} {X : mz_X} {g : mz_S} {c : mz_S} {i b : Nat} {t : Int} (wl : WfL0 c) (wb : WfB c) (w : WfW c) (rl : ReL c g) (rb : ∀ j, j < 12 → g 106 j = c 10 j) (hi : (i : Int) < c 48 4) (hb : b < 12) (ht : t = c 10 b) (h135 : g 135 i = c 50 i) (h140 : g 140 i = c 55 i) (hp : c 56 i = -1) (k : Q 0 (mx_up g 140 i (stV c i b (c 1 0)))) : zC T (d + 2) 279 [mx_R 99, mx_I (i : Int), mx_I t] g Q X := by
  have w0 := wl.1
  have w1 := w.1
  have wb1 := wb.1
  obtain ⟨a1, a2, a3, a4, a5, a6, a7, a8, a9, a10, a11, a12⟩ := w.2.1 i hi
  have ra := wb.2.1 b hb
  have rb' := wb.2.1 (c 50 i).toNat (by omega)
  subst ht
  refine zX12_stops ?_
  refine s_inN ?_ (fun ea => ?_)
  · omega
  try simp only [ea]
  clear ea
  refine s_inN ?_ (fun ea => ?_)
  · omega
  try simp only [ea]
  clear ea
  rw [h135]
  refine s_in (by omega) (fun eb => ?_)
  rw [eb, rb (c 50 i).toNat (by omega), rl.1]
  refine sX12_heardOn (by omega) (by omega) ?_
  rw [h140]
  refine sMinI ?_
  refine s_inN ?_ (fun ea => ?_)
  · omega
  try simp only [ea]
  clear ea
  rintro _ rfl
  rw [stR (c := c) (i := i) (b := b) w0 a7 hp (rl.lag wl (i := (c 10 b * 8 + c 10 (c 50 i).toNat).toNat) (by omega))]
  exact k
