/-! which lines are void -/
def exvB (cn : Nat → pA) (a b : Nat) (v : Int) : Bool := decide (∃ q, q < b ∧ a ≤ q ∧ (cn q).2.1 = 9 ∧ (cn q).2.2.1 = v)
abbrev exv (cn : Nat → pA) (a b : Nat) (v : Int) : Prop := exvB cn a b v = true
theorem exv_iff {cn : Nat → pA} {a b : Nat} {v : Int} : exv cn a b v ↔ ∃ q, q < b ∧ a ≤ q ∧ (cn q).2.1 = 9 ∧ (cn q).2.2.1 = v := decide_eq_true_iff
abbrev vd (cn : Nat → pA) (M p : Nat) : Prop := 0 < (cn p).1 ∧ exv cn (p + 1) M (cn p).1
def LnP (cn : Nat → pA) (M : Nat) : Prop := M ≤ 144 ∧ ∀ p, p < M → AWf (cn p)
def LR (g : mz_S) (cn : Nat → pA) (M : Nat) : Prop := g 99 50 = (M : Int) ∧ ∀ p, p < M → ∃ a : Nat, a < 144 ∧ g 130 p = (a : Int) ∧ g 125 a = (cn p).1 ∧ g 124 a = (cn p).2.1 ∧ ((cn p).2.1 = 9 → g 126 a = (cn p).2.2.1)
theorem sX12_isVoid {T : Nat × (Nat → Int32)} {d : Nat} {Q : mz_K} {X : mz_X} {g : mz_S} {cn : Nat → pA} {M p : Nat} (hw : LnP cn M) (hl : LR g cn M) (hp : p < M) (k : Q (pI (vd cn M p)) g) : zC T (d + 1) 267 [mx_R 99, mx_I (p : Int)] g Q X := by
  obtain ⟨l1, l2⟩ := hl
  obtain ⟨a, a1, a2, a3, a4, a5⟩ := l2 p hp
  have wp := hw.2 p hp
  have hM := hw.1
  have nr : 0 ≤ (cn p).1 ∧ (cn p).1 ≤ 999 := wp.2.1
  have main : ∀ n q : Nat, q + n = M → p < q → ∀ s : Int, s = pI (exv cn (p + 1) q (cn p).1) → (0 < (cn p).1 ∨ s = 0) → aX12_isVoid T d Q X 19 [some (mx_R 99), some (mx_I (p : Int)), some (mx_I (cn p).1), some (mx_I s), some (mx_I (q : Int))] [] g (0, 0) := by
    intro n
    induction n with
    | zero =>
      intro q hq hpq s hs h0
      refine zX12_isVoid_19 ?_
      rw [l1]
      first | with_reducible refine c_lt ?_ ?_ (fun z => ?_) (fun z => ?_) | with_reducible refine c_le ?_ ?_ (fun z => ?_) (fun z => ?_) | with_reducible refine c_eq ?_ ?_ (fun z => ?_) (fun z => ?_) | with_reducible refine c_ne ?_ ?_ (fun z => ?_) (fun z => ?_)
      · omega
      · omega
      · refine zX12_isVoid_81 ⟨by rw [hs]; exact pI_01 _, ?_⟩
        have e : s = pI (vd cn M p) := by
          rw [hs, show q = M by omega]
          rcases h0 with y | y
          · by_cases x : exv cn (p + 1) M (cn p).1
            · rw [pI_t x, pI_t ⟨y, x⟩]
            · rw [pI_f x, pI_f (fun w => x w.2)]
          · by_cases y2 : 0 < (cn p).1
            · by_cases x : exv cn (p + 1) M (cn p).1
              · rw [pI_t x, pI_t ⟨y2, x⟩]
              · rw [pI_f x, pI_f (fun w => x w.2)]
            · rw [pI_f (p := vd cn M p) (fun w => y2 w.1), ← show q = M by omega, ← hs, y]
        rw [e]
        exact k
      · omega
    | succ n ih =>
      intro q hq hpq s hs h0
      have s01 : s = 0 ∨ s = 1 := by rw [hs]; unfold pI; split <;> simp
      refine zX12_isVoid_19 ?_
      rw [l1]
      first | with_reducible refine c_lt ?_ ?_ (fun z => ?_) (fun z => ?_) | with_reducible refine c_le ?_ ?_ (fun z => ?_) (fun z => ?_) | with_reducible refine c_eq ?_ ?_ (fun z => ?_) (fun z => ?_) | with_reducible refine c_ne ?_ ?_ (fun z => ?_) (fun z => ?_)
      · omega
      · omega
      · omega
      · first | with_reducible refine c_lt ?_ ?_ (fun z2 => ?_) (fun z2 => ?_) | with_reducible refine c_le ?_ ?_ (fun z2 => ?_) (fun z2 => ?_) | with_reducible refine c_eq ?_ ?_ (fun z2 => ?_) (fun z2 => ?_) | with_reducible refine c_ne ?_ ?_ (fun z2 => ?_) (fun z2 => ?_)
        · omega
        · omega
        · refine zX12_isVoid_81 ⟨by rw [hs]; exact pI_01 _, ?_⟩
          have : s = 0 := by omega
          rw [this]
          rw [pI_f (p := vd cn M p) (fun w => by have := w.1; omega)] at k
          exact k
        · obtain ⟨b, b1, b2, b3, b4, b5⟩ := l2 q (by omega)
          have wq := hw.2 q (by omega)
          have sq : 0 ≤ (cn q).2.1 ∧ (cn q).2.1 ≤ 9 := wq.1
          have old : ∀ {R : Prop}, (exv cn (p + 1) (q + 1) (cn p).1) ↔ ((exv cn (p + 1) q (cn p).1) ∨ ((cn q).2.1 = 9 ∧ (cn q).2.2.1 = (cn p).1)) := by
            intro _
            rw [exv_iff, exv_iff]
            constructor
            · rintro ⟨q', h1, h2, h3⟩
              rcases Nat.lt_or_ge q' q with y | y
              · exact Or.inl ⟨q', y, h2, h3⟩
              · rw [show q' = q by omega] at h3; exact Or.inr h3
            · rintro (⟨q', h1, h2, h3⟩ | h3)
              · exact ⟨q', by omega, h2, h3⟩
              · exact ⟨q, by omega, hpq, h3⟩
          have nx1 : (exv cn (p + 1) (q + 1) (cn p).1) → aX12_isVoid T d Q X 69 [some (mx_R 99), some (mx_I (p : Int)), some (mx_I (cn p).1), some (mx_I s), some (mx_I (q : Int))] [] g (0, 0) := by
            intro x
            refine zX12_isVoid_69 (zX12_isVoid_74 ?_)
            rw [show (q : Int) + 1 = ((q + 1 : Nat) : Int) by omega]
            exact ih (q + 1) (by omega) (by omega) 1 (by rw [pI_t x]) (Or.inl (by omega))
          have nx0 : ¬ (exv cn (p + 1) (q + 1) (cn p).1) → aX12_isVoid T d Q X 73 [some (mx_R 99), some (mx_I (p : Int)), some (mx_I (cn p).1), some (mx_I s), some (mx_I (q : Int))] [] g (0, 0) := by
            intro x
            refine zX12_isVoid_73 (zX12_isVoid_74 ?_)
            rw [show (q : Int) + 1 = ((q + 1 : Nat) : Int) by omega]
            exact ih (q + 1) (by omega) (by omega) 0 (by rw [pI_f x]) (Or.inl (by omega))
          have sx : s = 0 ↔ ¬ exv cn (p + 1) q (cn p).1 := by
            rw [hs]
            by_cases x : exv cn (p + 1) q (cn p).1
            · rw [pI_t x]; exact ⟨fun y => absurd y (by decide), fun y => absurd x y⟩
            · rw [pI_f x]; exact ⟨fun _ => x, fun _ => rfl⟩
          first | with_reducible refine c_lt ?_ ?_ (fun z3 => ?_) (fun z3 => ?_) | with_reducible refine c_le ?_ ?_ (fun z3 => ?_) (fun z3 => ?_) | with_reducible refine c_eq ?_ ?_ (fun z3 => ?_) (fun z3 => ?_) | with_reducible refine c_ne ?_ ?_ (fun z3 => ?_) (fun z3 => ?_)
          · omega
          · omega
          · exact nx1 ((old (R := True)).mpr (Or.inl (Classical.not_not.mp (fun y => z3 (sx.mpr y)))))
          · have nn := sx.mp (by omega)
            refine s_inN ?_ (fun ea => ?_)
            · omega
            try simp only [ea]
            clear ea
            rw [b2]
            refine s_inN ?_ (fun ea => ?_)
            · omega
            try simp only [ea]
            clear ea
            rw [b4]
            first | with_reducible refine c_lt ?_ ?_ (fun z4 => ?_) (fun z4 => ?_) | with_reducible refine c_le ?_ ?_ (fun z4 => ?_) (fun z4 => ?_) | with_reducible refine c_eq ?_ ?_ (fun z4 => ?_) (fun z4 => ?_) | with_reducible refine c_ne ?_ ?_ (fun z4 => ?_) (fun z4 => ?_)
            · omega
            · omega
            · exact nx0 (fun y => ((old (R := True)).mp y).elim nn (fun w => z4 w.1))
            · have s9 : (cn q).2.1 = 9 := by omega
              have ar : 1 ≤ (cn q).2.2.1 ∧ (cn q).2.2.1 ≤ 999 := wq.2.2.1 s9
              refine s_inN ?_ (fun ea => ?_)
              · omega
              try simp only [ea]
              clear ea
              refine s_inN ?_ (fun ea => ?_)
              · omega
              try simp only [ea]
              clear ea
              rw [b5 s9]
              first | with_reducible refine c_lt ?_ ?_ (fun z5 => ?_) (fun z5 => ?_) | with_reducible refine c_le ?_ ?_ (fun z5 => ?_) (fun z5 => ?_) | with_reducible refine c_eq ?_ ?_ (fun z5 => ?_) (fun z5 => ?_) | with_reducible refine c_ne ?_ ?_ (fun z5 => ?_) (fun z5 => ?_)
              · omega
              · omega
              · exact nx0 (fun y => ((old (R := True)).mp y).elim nn (fun w => z5 w.2))
              · exact nx1 ((old (R := True)).mpr (Or.inr ⟨s9, by omega⟩))
  refine zX12_isVoid ?_
  refine s_inN ?_ (fun ea => ?_)
  · omega
  try simp only [ea]
  clear ea
  rw [a2]
  refine s_inN ?_ (fun ea => ?_)
  · omega
  try simp only [ea]
  clear ea
  rw [a3, show (p : Int) + 1 = ((p + 1 : Nat) : Int) by omega]
  exact main (M - (p + 1)) (p + 1) (by omega) (by omega) 0 (by rw [pI_f (by rw [exv_iff]; rintro ⟨q', h1, h2, _⟩; omega)]) (Or.inr rfl)
/-- the class's stamps -/
def VW (g : mz_S) (cn : Nat → pA) (M p : Nat) (w : Int) : Prop := g 39 11 = w ∧ (0 ≤ w ∧ w ≤ 2147483647) ∧ ∀ v : Nat, v < 1000 → (0 ≤ g 46 v ∧ g 46 v ≤ w) ∧ (g 46 v = w ↔ exv cn p M (v : Int))
def LC (g : mz_S) (x : pA) (l : Nat) : Prop := l < 144 ∧ g 33 l = x.1 ∧ g 32 l = x.2.1 ∧ g 34 l = x.2.2.1
theorem sX3_isVoid {T : Nat × (Nat → Int32)} {d : Nat} {Q : mz_K} {X : mz_X} {g : mz_S} {cn : Nat → pA} {M p l : Nat} {w : Int} (hw : LnP cn M) (hp : p < M) (hl : LC g (cn p) l) (hv : VW g cn M (p + 1) w) (k : Q (pI (vd cn M p)) g) : zC T (d + 1) 41 [mx_R 39, mx_I (l : Int)] g Q X := by
  obtain ⟨l0, l1, l2, l3⟩ := hl
  have wp := hw.2 p hp
  have nr : 0 ≤ (cn p).1 ∧ (cn p).1 ≤ 999 := wp.2.1
  obtain ⟨v1, v2, v3⟩ := hv
  refine zX3_isVoid ?_
  refine s_inN ?_ (fun ea => ?_)
  · omega
  try simp only [ea]
  clear ea
  rw [l1]
  first | with_reducible refine c_lt ?_ ?_ (fun z => ?_) (fun z => ?_) | with_reducible refine c_le ?_ ?_ (fun z => ?_) (fun z => ?_) | with_reducible refine c_eq ?_ ?_ (fun z => ?_) (fun z => ?_) | with_reducible refine c_ne ?_ ?_ (fun z => ?_) (fun z => ?_)
  · omega
  · omega
  · rw [pI_f (p := vd cn M p) (fun y => by have := y.1; omega)] at k
    exact zX3_isVoid_37 (zX3_isVoid_38 ⟨by decide, k⟩)
  · obtain ⟨m, em⟩ := Int.eq_ofNat_of_zero_le nr.1
    have vv := v3 m (by omega)
    refine s_inN ?_ (fun ea => ?_)
    · omega
    try simp only [ea]
    clear ea
    rw [em]
    refine s_inN ?_ (fun ea => ?_)
    · omega
    try simp only [ea]
    clear ea
    rw [v1]
    have iff : vd cn M p ↔ g 46 m = w := by
      rw [vv.2]
      constructor
      · rintro ⟨_, y⟩; rw [em] at y; exact y
      · intro y; exact ⟨by omega, by rw [em]; exact y⟩
    first | with_reducible refine c_lt ?_ ?_ (fun z2 => ?_) (fun z2 => ?_) | with_reducible refine c_le ?_ ?_ (fun z2 => ?_) (fun z2 => ?_) | with_reducible refine c_eq ?_ ?_ (fun z2 => ?_) (fun z2 => ?_) | with_reducible refine c_ne ?_ ?_ (fun z2 => ?_) (fun z2 => ?_)
    · omega
    · omega
    · rw [pI_f (fun y => z2 (iff.mp y))] at k
      exact zX3_isVoid_37 (zX3_isVoid_38 ⟨by decide, k⟩)
    · rw [pI_t (iff.mpr (by omega))] at k
      exact zX3_isVoid_38 ⟨by decide, k⟩
theorem sX3_noteVoid {T : Nat × (Nat → Int32)} {d : Nat} {Q : mz_K} {X : mz_X} {g : mz_S} {cn : Nat → pA} {M p l : Nat} {w : Int} (hw : LnP cn M) (hp : p < M) (hl : LC g (cn p) l) (hv : VW g cn M (p + 1) w) (k : ∀ g', Ch [46] [] g g' → VW g' cn M p w → Q 0 g') : zC T (d + 1) 42 [mx_R 39, mx_I (l : Int)] g Q X := by
  obtain ⟨l0, l1, l2, l3⟩ := hl
  have wp := hw.2 p hp
  have sr : 0 ≤ (cn p).2.1 ∧ (cn p).2.1 ≤ 9 := wp.1
  obtain ⟨v1, v2, v3⟩ := hv
  have sp : ∀ v : Nat, (exv cn p M (v : Int)) ↔ ((exv cn (p + 1) M (v : Int)) ∨ ((cn p).2.1 = 9 ∧ (cn p).2.2.1 = (v : Int))) := by
    intro v
    rw [exv_iff, exv_iff]
    constructor
    · rintro ⟨q, h1, h2, h3⟩
      by_cases y : q = p
      · subst y; exact Or.inr h3
      · exact Or.inl ⟨q, h1, by omega, h3⟩
    · rintro (⟨q, h1, h2, h3⟩ | h3)
      · exact ⟨q, h1, by omega, h3⟩
      · exact ⟨p, hp, by omega, h3⟩
  refine zX3_noteVoid ?_
  refine s_inN ?_ (fun ea => ?_)
  · omega
  try simp only [ea]
  clear ea
  rw [l2]
  first | with_reducible refine c_lt ?_ ?_ (fun z => ?_) (fun z => ?_) | with_reducible refine c_le ?_ ?_ (fun z => ?_) (fun z => ?_) | with_reducible refine c_eq ?_ ?_ (fun z => ?_) (fun z => ?_) | with_reducible refine c_ne ?_ ?_ (fun z => ?_) (fun z => ?_)
  · omega
  · omega
  · refine zX3_noteVoid_32 (k g (Ch.rf g) ⟨v1, v2, fun v hv => ⟨(v3 v hv).1, ?_⟩⟩)
    rw [(v3 v hv).2, sp]
    exact ⟨Or.inl, fun y => y.elim id (fun x => absurd x.1 z)⟩
  · have s9 : (cn p).2.1 = 9 := by omega
    have ar : 1 ≤ (cn p).2.2.1 ∧ (cn p).2.2.1 ≤ 999 := wp.2.2.1 s9
    obtain ⟨m, em⟩ := Int.eq_ofNat_of_zero_le (show 0 ≤ (cn p).2.2.1 by omega)
    refine s_inN ?_ (fun ea => ?_)
    · omega
    try simp only [ea]
    clear ea
    rw [l3, em]
    refine s_inN ?_ (fun ea => ?_)
    · omega
    try simp only [ea]
    clear ea
    intro g1 e1
    rw [v1] at e1
    refine zX3_noteVoid_32 (k g1 (by rw [e1]; exact (Ch.rf g).up (by decide) (by decide)) ⟨by rw [e1, up_q (by decide)]; exact v1, v2, fun v hv => ?_⟩)
    rw [sp]
    by_cases y : v = m
    · subst y
      rw [e1, up_s]
      exact ⟨by omega, fun _ => Or.inr ⟨s9, em⟩, fun _ => rfl⟩
    · rw [e1, up_i y]
      refine ⟨(v3 v hv).1, ?_⟩
      rw [(v3 v hv).2]
      exact ⟨Or.inl, fun x => x.elim id (fun x => absurd x.2 (by rw [em]; omega))⟩
