/-! what holds of words; the call word -/
def imin (a b : Int) : Int := if w32 b < w32 a then b else a
theorem sMinI {T : Nat × (Nat → Int32)} {d : Nat} {Q : mz_K} {X : mz_X} {g : mz_S} {a b : Int} (k : Q (imin a b) g) : zC T (d + 1) 349 [mx_I a, mx_I b] g Q X := by
  unfold imin at k
  refine zJ9_min_7cf53 ⟨fun h => ?_, fun h => ?_⟩
  · rw [if_pos h] at k
    exact zJ9_min_7cf53_10 k
  · rw [if_neg h] at k
    exact zJ9_min_7cf53_10 k
def WdI (g : mz_S) (i : Nat) : Prop := (0 ≤ g 49 i ∧ g 49 i < g 9 1) ∧ (0 ≤ g 50 i ∧ g 50 i < g 9 1) ∧ (0 ≤ g 51 i ∧ g 51 i < 4) ∧ (1 ≤ g 52 i ∧ g 52 i ≤ 100000) ∧ (0 ≤ g 53 i ∧ g 53 i ≤ 32767) ∧ (0 ≤ g 54 i ∧ g 54 i ≤ 20000) ∧ (0 ≤ w32 (g 55 i) ∧ w32 (g 55 i) ≤ 30000) ∧ (-1 ≤ g 56 i ∧ g 56 i ≤ 999) ∧ (-1 ≤ g 58 i ∧ g 58 i < g 48 4 ∧ ¬ g 58 i = i) ∧ (¬ g 58 i = -1 → g 49 (g 58 i).toNat = g 49 i) ∧ ((g 60 i = 0 ∨ g 60 i = 1) ∧ (g 60 i = 1 → ¬ g 58 i = -1)) ∧ (g 61 i = 0 ∨ g 61 i = 1) ∧ ¬ g 49 i = g 50 i
def WdR (c r : mz_S) (i : Nat) : Prop := r 134 i = c 49 i ∧ r 135 i = c 50 i ∧ r 136 i = c 51 i ∧ r 137 i = c 52 i ∧ r 138 i = c 53 i ∧ r 139 i = c 54 i ∧ r 140 i = c 55 i ∧ r 141 i = c 56 i ∧ r 142 i = c 57 i ∧ r 143 i = c 58 i ∧ r 144 i = c 59 i ∧ r 145 i = c 60 i ∧ r 146 i = c 61 i
def ReW (c r : mz_S) : Prop := r 99 55 = c 48 4 ∧ ∀ i : Nat, (i : Int) < c 48 4 → WdR c r i
def WfW (g : mz_S) : Prop := (0 ≤ g 48 4 ∧ g 48 4 ≤ 100) ∧ (∀ i : Nat, (i : Int) < g 48 4 → WdI g i) ∧ ∀ i : Nat, i < 100 → g 48 4 ≤ i → g 57 i = 0 ∧ g 59 i = 0 ∧ g 60 i = 0 ∧ g 61 i = 0
def IW (g : mz_S) : Prop := WfW g ∧ ReW g g
theorem ReW.fr {S F : List Nat} {c r r' : mz_S} (w : ReW c r) (h : Ch S F r r') (hS : ∀ q ∈ [134, 135, 136, 137, 138, 139, 140, 141, 142, 143, 144, 145, 146], q ∉ S) (hF : ∀ f ∈ [55], f ∉ F) : ReW c r' := by
  have e : ∀ q ∈ [134, 135, 136, 137, 138, 139, 140, 141, 142, 143, 144, 145, 146], r' q = r q := fun q hq => h.1 q (hS q hq) (by intro z; subst z; revert hq; decide)
  unfold ReW WdR at w ⊢
  rw [e 134 (by decide), e 135 (by decide), e 136 (by decide), e 137 (by decide), e 138 (by decide), e 139 (by decide), e 140 (by decide), e 141 (by decide), e 142 (by decide), e 143 (by decide), e 144 (by decide), e 145 (by decide), e 146 (by decide), h.2 55 (hF 55 (by decide))]
  exact w
theorem WfW.fr {S F : List Nat} {g g' : mz_S} (w : WfW g) (h : Ch S F g g') (hS : ∀ q ∈ [9, 48, 49, 50, 51, 52, 53, 54, 55, 56, 57, 58, 59, 60, 61], q ∉ S) : WfW g' := by
  have e : ∀ q ∈ [9, 48, 49, 50, 51, 52, 53, 54, 55, 56, 57, 58, 59, 60, 61], g' q = g q := fun q hq => h.1 q (hS q hq) (by intro z; subst z; revert hq; decide)
  unfold WfW WdI at w ⊢
  rw [e 9 (by decide), e 48 (by decide), e 49 (by decide), e 50 (by decide), e 51 (by decide), e 52 (by decide), e 53 (by decide), e 54 (by decide), e 55 (by decide), e 56 (by decide), e 57 (by decide), e 58 (by decide), e 59 (by decide), e 60 (by decide), e 61 (by decide)]
  exact w
theorem IW.fr {S F : List Nat} {g g' : mz_S} (w : IW g) (h : Ch S F g g') (hS : ∀ q ∈ [9, 48, 49, 50, 51, 52, 53, 54, 55, 56, 57, 58, 59, 60, 61, 134, 135, 136, 137, 138, 139, 140, 141, 142, 143, 144, 145, 146], q ∉ S) (hF : ∀ f ∈ [55], f ∉ F) : IW g' := by
  have e : ∀ q ∈ [9, 48, 49, 50, 51, 52, 53, 54, 55, 56, 57, 58, 59, 60, 61, 134, 135, 136, 137, 138, 139, 140, 141, 142, 143, 144, 145, 146], g' q = g q := fun q hq => h.1 q (hS q hq) (by intro z; subst z; revert hq; decide)
  refine ⟨w.1.fr h (fun q hq => hS q (by revert hq; revert q; decide)), ?_⟩
  have w2 := w.2.fr h (fun q hq => hS q (by revert hq; revert q; decide)) hF
  unfold ReW WdR at w2 ⊢
  rw [e 48 (by decide), e 49 (by decide), e 50 (by decide), e 51 (by decide), e 52 (by decide), e 53 (by decide), e 54 (by decide), e 55 (by decide), e 56 (by decide), e 57 (by decide), e 58 (by decide), e 59 (by decide), e 60 (by decide), e 61 (by decide)]
  exact w2
/-- the same where brokers came -/
theorem IW.brk {S F : List Nat} {g g' : mz_S} (w : IW g) (h : Ch S F g g') (hS : ∀ q ∈ [48, 49, 50, 51, 52, 53, 54, 55, 56, 57, 58, 59, 60, 61, 134, 135, 136, 137, 138, 139, 140, 141, 142, 143, 144, 145, 146], q ∉ S) (hF : ∀ f ∈ [55], f ∉ F) (h9 : g 9 1 ≤ g' 9 1) : IW g' := by
  have e : ∀ q ∈ [48, 49, 50, 51, 52, 53, 54, 55, 56, 57, 58, 59, 60, 61, 134, 135, 136, 137, 138, 139, 140, 141, 142, 143, 144, 145, 146], g' q = g q := fun q hq => h.1 q (hS q hq) (by intro z; subst z; revert hq; decide)
  unfold IW WfW ReW WdR WdI at w ⊢
  rw [e 48 (by decide), e 49 (by decide), e 50 (by decide), e 51 (by decide), e 52 (by decide), e 53 (by decide), e 54 (by decide), e 55 (by decide), e 56 (by decide), e 57 (by decide), e 58 (by decide), e 59 (by decide), e 60 (by decide), e 61 (by decide), e 134 (by decide), e 135 (by decide), e 136 (by decide), e 137 (by decide), e 138 (by decide), e 139 (by decide), e 140 (by decide), e 141 (by decide), e 142 (by decide), e 143 (by decide), e 144 (by decide), e 145 (by decide), e 146 (by decide), h.2 55 (hF 55 (by decide))]
  refine ⟨⟨w.1.1, fun i hi => ?_, w.1.2.2⟩, w.2⟩
  obtain ⟨a, b, r⟩ := w.1.2.1 i hi
  exact ⟨by omega, by omega, r⟩
theorem sX12_isWordC {T : Nat × (Nat → Int32)} {d : Nat} {Q : mz_K} {X : mz_X} {g : mz_S} {c : mz_S} {x : Int} (h : ReW c g) (w : WfW c) (hx : R32 x) (k : Q (pI (0 ≤ x ∧ x ≤ c 48 4 - 1)) g) : zC T (d + 2) 276 [mx_R 99, mx_I x] g Q X := by
  have hw := w.1
  have e := h.1
  refine zX12_isWord ?_
  rw [e, w32_of (n := c 48 4 - 1) (by omega) (by omega)]
  exact sX12_withinW hx (by omega) (by omega) ⟨pI_01 _, k⟩
/-- whether it is paid -/
theorem sX10_isPaid {T : Nat × (Nat → Int32)} {d : Nat} {Q : mz_K} {X : mz_X} {g : mz_S} {i : Nat} (hi : i < 100) (hp : -1 ≤ g 56 i ∧ g 56 i ≤ 999) (k : Q (pI (¬ g 56 i = -1)) g) : zC T (d + 1) 133 [mx_R 48, mx_I (i : Int)] g Q X := by
  refine zX10_isPaid ?_
  refine s_inN ?_ (fun ea => ?_)
  · omega
  try simp only [ea]
  clear ea
  first | with_reducible refine c_lt ?_ ?_ (fun h => ?_) (fun h => ?_) | with_reducible refine c_le ?_ ?_ (fun h => ?_) (fun h => ?_) | with_reducible refine c_eq ?_ ?_ (fun h => ?_) (fun h => ?_) | with_reducible refine c_ne ?_ ?_ (fun h => ?_) (fun h => ?_)
  · omega
  · omega
  · refine zX10_isPaid_15 ⟨zb0, ?_⟩
    rw [pI_f (fun z => z h)] at k; exact k
  · refine zX10_isPaid_15 ⟨zb1, ?_⟩
    rw [pI_t h] at k; exact k
theorem sX12_isPaidH {T : Nat × (Nat → Int32)} {d : Nat} {Q : mz_K} {X : mz_X} {g : mz_S} {c : mz_S} {x : Int} (w : WfW c) (h : ∀ i : Nat, (i : Int) < c 48 4 → g 141 i = c 56 i) (hx : -1 ≤ x ∧ x < c 48 4) (k : Q (pI (¬ x = -1 ∧ ¬ c 56 x.toNat = -1)) g) : zC T (d + 1) 277 [mx_R 99, mx_I x] g Q X := by
  have w1 := w.1
  refine zX12_isPaid ?_
  first | with_reducible refine c_lt ?_ ?_ (fun h1 => ?_) (fun h1 => ?_) | with_reducible refine c_le ?_ ?_ (fun h1 => ?_) (fun h1 => ?_) | with_reducible refine c_eq ?_ ?_ (fun h1 => ?_) (fun h1 => ?_) | with_reducible refine c_ne ?_ ?_ (fun h1 => ?_) (fun h1 => ?_)
  · omega
  · omega
  · refine zX12_isPaid_19 (zX12_isPaid_20 ⟨zb0, ?_⟩)
    rw [pI_f (fun z => z.1 h1)] at k; exact k
  · have r := h x.toNat (by omega)
    have wi := (w.2.1 x.toNat (by omega)).2.2.2.2.2.2.2.1
    refine s_in (by omega) (fun ea => ?_)
    rw [ea, r]
    first | with_reducible refine c_lt ?_ ?_ (fun h2 => ?_) (fun h2 => ?_) | with_reducible refine c_le ?_ ?_ (fun h2 => ?_) (fun h2 => ?_) | with_reducible refine c_eq ?_ ?_ (fun h2 => ?_) (fun h2 => ?_) | with_reducible refine c_ne ?_ ?_ (fun h2 => ?_) (fun h2 => ?_)
    · omega
    · omega
    · refine zX12_isPaid_19 (zX12_isPaid_20 ⟨zb0, ?_⟩)
      rw [pI_f (fun z => z.2 h2)] at k; exact k
    · refine zX12_isPaid_20 ⟨zb1, ?_⟩
      rw [pI_t ⟨h1, h2⟩] at k; exact k
theorem sX12_isPaid {T : Nat × (Nat → Int32)} {d : Nat} {Q : mz_K} {X : mz_X} {g : mz_S} {c : mz_S} {x : Int} (w : WfW c) (h : ReW c g) (hx : -1 ≤ x ∧ x < c 48 4) (k : Q (pI (¬ x = -1 ∧ ¬ c 56 x.toNat = -1)) g) : zC T (d + 1) 277 [mx_R 99, mx_I x] g Q X := sX12_isPaidH w (fun i hi => (h.2 i hi).2.2.2.2.2.2.2.1) hx k
/-- what a word is -/
def wstF (g : mz_S) (i : Nat) : Int := if ¬ g 56 i = -1 then 1 else if g 61 i = 1 ∨ (g 60 i = 1 ∧ g 61 (g 58 i).toNat = 1) then 2 else if w32 (g 55 i) ≤ g 1 0 then 3 else 0
theorem sX10_state {T : Nat × (Nat → Int32)} {d : Nat} {Q : mz_K} {X : mz_X} {g : mz_S} {i : Nat} (hn : 0 ≤ g 1 0 ∧ g 1 0 ≤ 999) (w : WfW g) (hi : (i : Int) < g 48 4) (k : Q (wstF g i) g) : zC T (d + 2) 144 [mx_R 48, mx_I (i : Int)] g Q X := by
  have w1 := w.1
  obtain ⟨a1, a2, a3, a4, a5, a6, a7, a8, a9, a10, a11, a12⟩ := w.2.1 i hi
  have wn : w32 (g 1 0) = g 1 0 := w32_of (by omega) (by omega)
  have l44 : g 56 i = -1 → ¬ (g 61 i = 1 ∨ (g 60 i = 1 ∧ g 61 (g 58 i).toNat = 1)) → aX10_state T (d + 1) Q X 44 [some (mx_R 48), some (mx_I (i : Int))] [] g (0, 0) := by
    intro z1 z2
    refine zX10_state_44 ?_
    refine s_inN ?_ (fun ea => ?_)
    · omega
    try simp only [ea]
    clear ea
    rw [wn]
    unfold wstF at k
    rw [if_neg (fun z => z z1), if_neg z2] at k
    refine ⟨fun z3 => zX10_state_65 ?_, fun z3 => zX10_state_65 ?_⟩
    · rw [if_neg (by omega)] at k; exact k
    · rw [if_pos (by omega)] at k; exact k
  have l42 : g 56 i = -1 → (g 61 i = 1 ∨ (g 60 i = 1 ∧ g 61 (g 58 i).toNat = 1)) → aX10_state T (d + 1) Q X 42 [some (mx_R 48), some (mx_I (i : Int))] [] g (0, 0) := by
    intro z1 z2
    refine zX10_state_42 ?_
    unfold wstF at k
    rw [if_neg (fun z => z z1), if_pos z2] at k
    exact k
  refine zX10_state (sX10_isPaid (by omega) a8 ?_)
  first | with_reducible refine b_eq (fun h1 => ?_) (fun h1 => ?_) | with_reducible refine b_ne (fun h1 => ?_) (fun h1 => ?_)
  · have h1' : g 56 i = -1 := Decidable.not_not.mp h1
    refine s_inN ?_ (fun ea => ?_)
    · omega
    try simp only [ea]
    clear ea
    first | with_reducible refine c_lt ?_ ?_ (fun h2 => ?_) (fun h2 => ?_) | with_reducible refine c_le ?_ ?_ (fun h2 => ?_) (fun h2 => ?_) | with_reducible refine c_eq ?_ ?_ (fun h2 => ?_) (fun h2 => ?_) | with_reducible refine c_ne ?_ ?_ (fun h2 => ?_) (fun h2 => ?_)
    · omega
    · omega
    · exact l42 h1' (Or.inl (by omega))
    · refine s_inN ?_ (fun ea => ?_)
      · omega
      try simp only [ea]
      clear ea
      first | with_reducible refine c_lt ?_ ?_ (fun h3 => ?_) (fun h3 => ?_) | with_reducible refine c_le ?_ ?_ (fun h3 => ?_) (fun h3 => ?_) | with_reducible refine c_eq ?_ ?_ (fun h3 => ?_) (fun h3 => ?_) | with_reducible refine c_ne ?_ ?_ (fun h3 => ?_) (fun h3 => ?_)
      · omega
      · omega
      · exact l44 h1' (by omega)
      · have z5 := a11.2 (by omega)
        obtain ⟨_, _, _, _, _, _, _, _, _, _, _, b12, _⟩ := w.2.1 (g 58 i).toNat (by omega)
        refine s_inN ?_ (fun ea => ?_)
        · omega
        try simp only [ea]
        clear ea
        refine s_in (by omega) (fun ea => ?_)
        rw [ea]
        first | with_reducible refine c_lt ?_ ?_ (fun h4 => ?_) (fun h4 => ?_) | with_reducible refine c_le ?_ ?_ (fun h4 => ?_) (fun h4 => ?_) | with_reducible refine c_eq ?_ ?_ (fun h4 => ?_) (fun h4 => ?_) | with_reducible refine c_ne ?_ ?_ (fun h4 => ?_) (fun h4 => ?_)
        · omega
        · omega
        · exact l44 h1' (by omega)
        · exact l42 h1' (Or.inr (by omega))
  · unfold wstF at k
    rw [if_pos h1] at k
    exact k
theorem sX12_stateOf {T : Nat × (Nat → Int32)} {d : Nat} {Q : mz_K} {X : mz_X} {g : mz_S} {c : mz_S} {i : Nat} (hn : 0 ≤ c 1 0 ∧ c 1 0 ≤ 999) (h0 : g 99 1 = c 1 0) (w : WfW c) (h : ReW c g) (hi : (i : Int) < c 48 4) (k : Q (wstF c i) g) : zC T (d + 2) 283 [mx_R 99, mx_I (i : Int)] g Q X := by
  have w1 := w.1
  obtain ⟨a1, a2, a3, a4, a5, a6, a7, a8, a9, a10, a11, a12⟩ := w.2.1 i hi
  obtain ⟨r1, r2, r3, r4, r5, r6, r7, r8, r9, r10, r11, r12, r13⟩ := h.2 i hi
  have wn : w32 (c 1 0) = c 1 0 := w32_of (by omega) (by omega)
  have l48 : c 56 i = -1 → ¬ (c 61 i = 1 ∨ (c 60 i = 1 ∧ c 61 (c 58 i).toNat = 1)) → aX12_stateOf T (d + 1) Q X 48 [some (mx_R 99), some (mx_I (i : Int))] [] g (0, 0) := by
    intro z1 z2
    refine zX12_stateOf_48 ?_
    refine s_inN ?_ (fun ea => ?_)
    · omega
    try simp only [ea]
    clear ea
    rw [h0, wn, r7]
    unfold wstF at k
    rw [if_neg (fun z => z z1), if_neg z2] at k
    refine ⟨fun z3 => zX12_stateOf_66 ?_, fun z3 => zX12_stateOf_66 ?_⟩
    · rw [if_neg (by omega)] at k; exact k
    · rw [if_pos (by omega)] at k; exact k
  have l44 : c 56 i = -1 → (c 61 i = 1 ∨ (c 60 i = 1 ∧ c 61 (c 58 i).toNat = 1)) → aX12_stateOf T (d + 1) Q X 44 [some (mx_R 99), some (mx_I (i : Int))] [] g (0, 0) := by
    intro z1 z2
    refine zX12_stateOf_44 (zX12_stateOf_66 ?_)
    unfold wstF at k
    rw [if_neg (fun z => z z1), if_pos z2] at k
    exact k
  refine zX12_stateOf (sX12_isPaid w h (by omega) ?_)
  rw [show ((i : Int)).toNat = i by omega]
  first | with_reducible refine b_eq (fun h1 => ?_) (fun h1 => ?_) | with_reducible refine b_ne (fun h1 => ?_) (fun h1 => ?_)
  · have h1' : c 56 i = -1 := by omega
    refine s_inN ?_ (fun ea => ?_)
    · omega
    try simp only [ea]
    clear ea
    rw [r13]
    first | with_reducible refine c_lt ?_ ?_ (fun h2 => ?_) (fun h2 => ?_) | with_reducible refine c_le ?_ ?_ (fun h2 => ?_) (fun h2 => ?_) | with_reducible refine c_eq ?_ ?_ (fun h2 => ?_) (fun h2 => ?_) | with_reducible refine c_ne ?_ ?_ (fun h2 => ?_) (fun h2 => ?_)
    · omega
    · omega
    · exact l44 h1' (Or.inl (by omega))
    · refine s_inN ?_ (fun ea => ?_)
      · omega
      try simp only [ea]
      clear ea
      rw [r12]
      first | with_reducible refine c_lt ?_ ?_ (fun h3 => ?_) (fun h3 => ?_) | with_reducible refine c_le ?_ ?_ (fun h3 => ?_) (fun h3 => ?_) | with_reducible refine c_eq ?_ ?_ (fun h3 => ?_) (fun h3 => ?_) | with_reducible refine c_ne ?_ ?_ (fun h3 => ?_) (fun h3 => ?_)
      · omega
      · omega
      · exact l48 h1' (by omega)
      · have z5 := a11.2 (by omega)
        obtain ⟨_, _, _, _, _, _, _, _, _, _, _, b12, _⟩ := w.2.1 (c 58 i).toNat (by omega)
        obtain ⟨_, _, _, _, _, _, _, _, _, _, _, _, q13⟩ := h.2 (c 58 i).toNat (by omega)
        refine s_inN ?_ (fun ea => ?_)
        · omega
        try simp only [ea]
        clear ea
        rw [r10]
        refine s_in (by omega) (fun ea => ?_)
        rw [ea, q13]
        first | with_reducible refine c_lt ?_ ?_ (fun h4 => ?_) (fun h4 => ?_) | with_reducible refine c_le ?_ ?_ (fun h4 => ?_) (fun h4 => ?_) | with_reducible refine c_eq ?_ ?_ (fun h4 => ?_) (fun h4 => ?_) | with_reducible refine c_ne ?_ ?_ (fun h4 => ?_) (fun h4 => ?_)
        · omega
        · omega
        · exact l48 h1' (by omega)
        · exact l44 h1' (Or.inr (by omega))
  · unfold wstF at k
    rw [if_pos h1.2] at k
    exact zX12_stateOf_66 k
def wdV (g : mz_S) (i : Nat) (x : Nat) : Int := if x = 0 then g 49 i else if x = 1 then g 50 i else if x = 2 then g 51 i else if x = 3 then g 52 i else if x = 4 then g 54 i else if x = 5 then g 55 i else if x = 6 then wstF g i else if x = 7 then g 57 i else if x = 8 then g 58 i else g 59 i
theorem C_word {T : Nat × (Nat → Int32)} {d : Nat} {X X' : mz_X} {g : mz_S} {x wh : Int} (wl : IL g) (w : IW g) (hx : R32 x) (hw : R32 wh) : zC T (d + 6) 366 [mx_R 0, mx_I x, mx_I wh, mx_R 179] g (fun kk g1 => zC T (d + 6) 284 [mx_R 99, mx_I x, mx_I wh] g1 (fun r g2 => AnsI kk r g2 ∧ Qy [179] [0] g g2) X') X := by
  have w1 := w.1.1
  have w0 := wl.1.1
  have wW := w.1
  have bad : ∀ n : Int, 1 ≤ n ∧ n ≤ 3 → AnsI n 0 (mx_up (mx_up g 99 0 0) 99 0 n) ∧ Qy [179] [0] g (mx_up (mx_up g 99 0 0) 99 0 n) := fun n hn => qy_bad (Ch.rf g) (fun z => z) (by decide) n hn
  refine wL_word (zX11_word (sX11_isWord hx w1 ⟨by decide, by decide, sX11_needFound (fun h1 => sX11_within hw (by omega) (by omega) ⟨by decide, by decide, sX11_needArgument (fun h2 => ?_) (fun h2 => ?_)⟩) (fun h1 => ?_)⟩))
  · obtain ⟨i, rfl⟩ := Int.eq_ofNat_of_zero_le h1.1
    have hi : (i : Int) < g 48 4 := by omega
    obtain ⟨s, rfl⟩ := Int.eq_ofNat_of_zero_le h2.1
    have ref : zC T (d + 6) 284 [mx_R 99, mx_I (i : Int), mx_I (s : Int)] (mx_up g 179 0 (w32 (wdV g i s))) (fun r g2 => AnsI 0 r g2 ∧ Qy [179] [0] g g2) X' := by
      have c1 : Ch [179] [0] g (mx_up (mx_up g 179 0 (w32 (wdV g i s))) 99 0 0) := ((Ch.rf g).up (by decide) (by decide)).up9 (by decide)
      have fin : ∀ v, v = wdV g i s → AnsI 0 v (mx_up (mx_up g 179 0 (w32 (wdV g i s))) 99 0 0) ∧ Qy [179] [0] g (mx_up (mx_up g 179 0 (w32 (wdV g i s))) 99 0 0) := fun v hv => ⟨⟨by omega, up_s, fun _ => by rw [up_q (by decide), up_s, hv]⟩, c1, fun z => z.fr c1 (by decide)⟩
      refine zX12_word ?_
      intro g1 e1
      rw [← e1] at c1 fin
      have h' : ReW g g1 := w.2.fr c1 (by decide) (by decide)
      have h0 : g1 99 1 = g 1 0 := by rw [c1.2 1 (by decide)]; exact wl.2.2.1.1
      refine sX12_isWordC h' wW hx ?_
      first | with_reducible refine b_eq (fun y1 => ?_) (fun y1 => ?_) | with_reducible refine b_ne (fun y1 => ?_) (fun y1 => ?_)
      · rw [w32_of hw.1 hw.2]
        refine ⟨fun z => absurd h2 z, fun _ => ?_⟩
        obtain ⟨r1, r2, r3, r4, r5, r6, r7, r8, r9, r10, r11, r12, r13⟩ := h'.2 i hi
        have inn : ∀ {P : Prop}, P → mx_in (i : Int) 100 ∧ P := fun p => ⟨zinN (by omega) (by omega), p⟩
        have at' : mx_at (i : Int) = i := zatN (by omega)
        rcases (show s = 0 ∨ s = 1 ∨ s = 2 ∨ s = 3 ∨ s = 4 ∨ s = 5 ∨ s = 6 ∨ s = 7 ∨ s = 8 ∨ s = 9 by omega) with z | z | z | z | z | z | z | z | z | z <;> subst z
        · exact zX12_word_76 (inn (fin _ (by rw [at', r1]; rfl)))
        · exact zX12_word_83 (inn (fin _ (by rw [at', r2]; rfl)))
        · exact zX12_word_90 (inn (fin _ (by rw [at', r3]; rfl)))
        · exact zX12_word_97 (inn (fin _ (by rw [at', r4]; rfl)))
        · exact zX12_word_104 (inn (fin _ (by rw [at', r6]; rfl)))
        · exact zX12_word_111 (inn (fin _ (by rw [at', r7]; rfl)))
        · exact zX12_word_118 (sX12_stateOf w0 h0 wW h' hi (fin _ rfl))
        · exact zX12_word_124 (inn (fin _ (by rw [at', r9]; rfl)))
        · exact zX12_word_131 (inn (fin _ (by rw [at', r10]; rfl)))
        · exact zX12_word_138 (inn (fin _ (by rw [at', r11]; rfl)))
      · exact absurd h1 y1
    have inn : ∀ {P : Prop}, P → mx_in (i : Int) 100 ∧ P := fun p => ⟨zinN (by omega) (by omega), p⟩
    have at' : mx_at (i : Int) = i := zatN (by omega)
    refine zX10_detail ?_
    rw [w32_of hw.1 hw.2]
    refine ⟨fun z => ?_, fun z => ?_⟩
    · have : s = 9 := by omega
      subst this
      exact inn (by rw [at']; exact ref)
    · rcases (show s = 0 ∨ s = 1 ∨ s = 2 ∨ s = 3 ∨ s = 4 ∨ s = 5 ∨ s = 6 ∨ s = 7 ∨ s = 8 by omega) with z | z | z | z | z | z | z | z | z <;> subst z
      · exact zX10_detail_52 (inn (by rw [at']; exact ref))
      · exact zX10_detail_59 (inn (by rw [at']; exact ref))
      · exact zX10_detail_66 (inn (by rw [at']; exact ref))
      · exact zX10_detail_73 (inn (by rw [at']; exact ref))
      · exact zX10_detail_80 (inn (by rw [at']; exact ref))
      · exact zX10_detail_87 (inn (by rw [at']; exact ref))
      · exact zX10_detail_94 (sX10_state w0 wW hi ref)
      · exact zX10_detail_100 (inn (by rw [at']; exact ref))
      · exact zX10_detail_107 (inn (by rw [at']; exact ref))
  · refine Or.inr ⟨rfl, zX12_word ?_⟩
    intro g1 e1
    have h' : ReW g g1 := by rw [e1]; exact w.2.fr (ch_0 g 0) (by decide) (by decide)
    refine sX12_isWordC h' wW hx ?_
    first | with_reducible refine b_eq (fun y1 => ?_) (fun y1 => ?_) | with_reducible refine b_ne (fun y1 => ?_) (fun y1 => ?_)
    · rw [w32_of hw.1 hw.2]
      refine ⟨fun _ => sX12_fails (by rw [e1]; exact bad 2 (by omega)), fun z => absurd z h2⟩
    · exact absurd h1 y1
  · refine Or.inl ⟨rfl, zX12_word ?_⟩
    intro g1 e1
    have h' : ReW g g1 := by rw [e1]; exact w.2.fr (ch_0 g 0) (by decide) (by decide)
    refine sX12_isWordC h' wW hx ?_
    first | with_reducible refine b_eq (fun y1 => ?_) (fun y1 => ?_) | with_reducible refine b_ne (fun y1 => ?_) (fun y1 => ?_)
    · exact absurd y1 h1
    · exact sX12_fails (by rw [e1]; exact bad 1 (by omega))
