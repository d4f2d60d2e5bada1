/-! a line speaks -/
abbrev spk (nm : Nat → Int) (x : pA) : Prop := (x.2.2.2.2 = [] ∨ ((vgo nm x.2.2.2.2).1 = false ∧ w64 ((vgo nm x.2.2.2.2).2 0) = 0)) ∧ (vgo nm x.2.2.2.1).1 = false
def spv (nm : Nat → Int) (x : pA) : Int := (vgo nm x.2.2.2.1).2 0
theorem vgo_one {nm : Nat → Int} {v : Int} : vgo nm [(154, v)] = (false, lset (fun _ => 0) 0 v) := by
  unfold vgo
  show vrun nm [(154, v)] 2 0 (0, fun _ => 0) = _
  unfold vrun
  rw [if_neg (show ¬ ([(154, v)] : List (Int × Int)).length ≤ 0 by simp), if_pos (show (([(154, v)] : List (Int × Int)).getD 0 (0, 0)).1 = 154 from rfl)]
  unfold vrun
  rw [if_pos (show ([(154, v)] : List (Int × Int)).length ≤ 0 + 1 by simp)]
  rfl
theorem AWf.sum {x : pA} (h : AWf x) (hs : x.2.1 ≤ 8) : TyP x.2.2.2.1 false := by
  have one : ∀ v : Int, 0 ≤ v ∧ v ≤ 999999 → TyP [(154, v)] false := fun v hv => by
    have := Reg.push (l := [(154, v)]) (i := 0) (r := []) (H := 14) (by decide) (Or.inl ⟨rfl, hv⟩)
    exact this
  by_cases z : x.2.1 < 7
  · exact h.2.2.2.1 z
  · by_cases y : x.2.1 = 7
    · rcases h.2.2.2.2.1 y with q | q <;> rw [q] <;> exact one _ (by decide)
    · rw [h.2.2.2.2.2.1 (by omega)]; exact one _ (by decide)
theorem sX3_speaks {T : Nat × (Nat → Int32)} {d : Nat} {Q : mz_K} {X : mz_X} {g : mz_S} {x : pA} {l a : Nat} (hx : LnC g l x a) (hw : AWf x) (hs : x.2.1 ≤ 8) (hl : l < 144) (ha : a + x.2.2.2.1.length + x.2.2.2.2.length ≤ 2400) (k : ∀ g', Ch [39, 47] [] g g' → (∀ p, p ≠ 13 → p ≠ 14 → g' 39 p = g 39 p) → (spk (g 45) x → g' 47 0 = spv (g 45) x) → Q (pI (spk (g 45) x)) g') : zC T (d + 4) 45 [mx_R 39, mx_I (l : Int)] g Q X := by
  obtain ⟨l1, l2, l3, l4, l5, l6, l7, l8⟩ := hx
  have e2 : g 36 l = ((a + x.2.2.2.1.length : Nat) : Int) := by rw [l2]; omega
  have e3 : g 37 l = ((a + x.2.2.2.1.length + x.2.2.2.2.length : Nat) : Int) := by rw [l3]; omega
  have sum : ∀ (g1 : mz_S) (x3 : Int), Ch [39, 47] [] g g1 → (∀ p, p ≠ 13 → p ≠ 14 → g1 39 p = g 39 p) → (x.2.2.2.2 = [] ∨ ((vgo (g 45) x.2.2.2.2).1 = false ∧ w64 ((vgo (g 45) x.2.2.2.2).2 0) = 0)) → aX3_speaks T (d + 3) Q X 51 [some (mx_R 39), some (mx_I (l : Int)), some (mx_I ((a + x.2.2.2.1.length : Nat) : Int)), some (mx_I x3)] [] g1 (0, 0) := by
    intro g1 x3 c1 p1 ht
    refine zX3_speaks_51 ?_
    refine s_inN ?_ (fun ea => ?_)
    · omega
    try simp only [ea]
    clear ea
    rw [c1.1 35 (by decide) (by decide), l1]
    refine sX3_reckon (d := d) (hw.sum hs) (by omega) (fun i hi => by rw [c1.1 38 (by decide) (by decide)]; exact l7 i hi) (fun g2 h2 => ?_)
    rw [c1.1 45 (by decide) (by decide)] at h2
    obtain ⟨c2, p2, v1, v2⟩ := h2
    have cc := c1.tr c2
    have pp : ∀ p, p ≠ 13 → p ≠ 14 → g2 39 p = g 39 p := fun p q1 q2 => (p2 p q1 q2).trans (p1 p q1 q2)
    cases hb : (vgo (g 45) x.2.2.2.1).1 with
    | false =>
      have v := v2 hb
      have sp : spk (g 45) x := ⟨ht, hb⟩
      have kk := k g2 cc pp (fun _ => v.2)
      rw [pI_t sp] at kk
      rw [v.1]
      exact ⟨fun z => absurd rfl z, fun _ => zX3_speaks_77 ⟨by decide, kk⟩⟩
    | true =>
      have v := v1 hb
      have sp : ¬ spk (g 45) x := fun z => by rw [z.2] at hb; exact absurd hb (by decide)
      have kk := k g2 cc pp (fun z => absurd z sp)
      rw [pI_f sp] at kk
      rw [v]
      exact ⟨fun _ => zX3_speaks_77 ⟨by decide, kk⟩, fun z => absurd (by decide) z⟩
  have no : ∀ (g1 : mz_S) (x2 x3 : Int), Ch [39, 47] [] g g1 → (∀ p, p ≠ 13 → p ≠ 14 → g1 39 p = g 39 p) → ¬ (x.2.2.2.2 = [] ∨ ((vgo (g 45) x.2.2.2.2).1 = false ∧ w64 ((vgo (g 45) x.2.2.2.2).2 0) = 0)) → aX3_speaks T (d + 3) Q X 49 [some (mx_R 39), some (mx_I (l : Int)), some (mx_I x2), some (mx_I x3)] [] g1 (0, 0) := by
    intro g1 x2 x3 c1 p1 hn
    have sp : ¬ spk (g 45) x := fun z => hn z.1
    have kk := k g1 c1 p1 (fun z => absurd z sp)
    rw [pI_f sp] at kk
    exact zX3_speaks_49 ⟨by decide, kk⟩
  refine zX3_speaks ?_
  refine s_inN ?_ (fun ea => ?_)
  · omega
  try simp only [ea]
  clear ea
  refine s_inN ?_ (fun ea => ?_)
  · omega
  try simp only [ea]
  clear ea
  rw [e2, e3]
  first | with_reducible refine c_lt ?_ ?_ (fun z => ?_) (fun z => ?_) | with_reducible refine c_le ?_ ?_ (fun z => ?_) (fun z => ?_) | with_reducible refine c_eq ?_ ?_ (fun z => ?_) (fun z => ?_) | with_reducible refine c_ne ?_ ?_ (fun z => ?_) (fun z => ?_)
  · omega
  · omega
  · exact sum g _ (Ch.rf g) (fun _ _ _ => rfl) (Or.inl (List.eq_nil_of_length_eq_zero (by omega)))
  · have ne : ¬ x.2.2.2.2 = [] := fun y => by rw [y] at z; exact z (Int.le_refl _)
    have ty := hw.2.2.2.2.2.2.resolve_left ne
    refine sX3_reckon (d := d) ty (by omega) l8 (fun g1 h1 => ?_)
    obtain ⟨c1, p1, v1, v2⟩ := h1
    cases hb : (vgo (g 45) x.2.2.2.2).1 with
    | true =>
      rw [v1 hb]
      exact ⟨fun _ => no g1 _ _ c1 p1 (fun y => y.elim ne (fun w => by rw [w.1] at hb; exact absurd hb (by decide))), fun y => absurd (by decide) y⟩
    | false =>
      have v := v2 hb
      rw [v.1]
      refine ⟨fun y => absurd rfl y, fun _ => ?_⟩
      refine s_inE (0) ?_ ?_ (fun ea => ?_)
      · omega
      · omega
      try simp only [ea]
      clear ea
      rw [v.2, lcm_z, w64_00]
      exact ⟨fun y => sum g1 _ c1 p1 (Or.inr ⟨hb, y⟩), fun y => no g1 _ _ c1 p1 (fun q => q.elim ne (fun w => y w.2))⟩
