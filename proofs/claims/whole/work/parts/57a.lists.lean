/-! which texts stand, in their order -/
def Lt2 (since : Nat → Int) (a b : Nat) : Prop := since a < since b ∨ (since a = since b ∧ a < b)
theorem srt_uniq {since : Nat → Int} : ∀ {l m : List Nat}, l.Pairwise (Lt2 since) → m.Pairwise (Lt2 since) → (∀ t, t ∈ l ↔ t ∈ m) → l = m := by
  intro l
  induction l with
  | nil =>
    intro m _ _ h
    cases m with
    | nil => rfl
    | cons b m => exact absurd ((h b).mpr (List.mem_cons_self)) (List.not_mem_nil)
  | cons a l ih =>
    intro m hl hm h
    cases m with
    | nil => exact absurd ((h a).mp (List.mem_cons_self)) (List.not_mem_nil)
    | cons b m =>
      rw [List.pairwise_cons] at hl hm
      have ab : a = b := by
        rcases List.mem_cons.mp ((h a).mp (List.mem_cons_self)) with z | z
        · exact z
        · rcases List.mem_cons.mp ((h b).mpr (List.mem_cons_self)) with y | y
          · exact y.symm
          · have p := hl.1 b y
            have q := hm.1 a z
            unfold Lt2 at p q
            omega
      subst ab
      have : l = m := by
        refine ih hl.2 hm.2 (fun t => ?_)
        constructor
        · intro z
          rcases List.mem_cons.mp ((h t).mp (List.mem_cons_of_mem _ z)) with y | y
          · subst y; have := hl.1 t z; unfold Lt2 at this; omega
          · exact y
        · intro z
          rcases List.mem_cons.mp ((h t).mpr (List.mem_cons_of_mem _ z)) with y | y
          · subst y; have := hm.1 t z; unfold Lt2 at this; omega
          · exact y
      rw [this]
def flC (o : Nat → Int) (P : Nat → Bool) : Nat → List Nat
  | 0 => []
  | k + 1 => if P (o k).toNat = true then flC o P k ++ [(o k).toNat] else flC o P k
theorem flC_len {o : Nat → Int} {P : Nat → Bool} : ∀ k, (flC o P k).length ≤ k := by
  intro k
  induction k with
  | zero => exact Nat.le_refl _
  | succ k ih =>
    unfold flC
    split
    · rw [List.length_append]; show _ + 1 ≤ _; omega
    · omega
theorem flC_mem {o : Nat → Int} {P : Nat → Bool} {t : Nat} : ∀ k, t ∈ flC o P k ↔ ∃ i, i < k ∧ (o i).toNat = t ∧ P t = true := by
  intro k
  induction k with
  | zero => exact ⟨fun z => absurd z List.not_mem_nil, fun ⟨i, hi, _⟩ => absurd hi (Nat.not_lt_zero _)⟩
  | succ k ih =>
    unfold flC
    split
    · next z =>
      rw [List.mem_append, ih, List.mem_singleton]
      constructor
      · rintro (⟨i, h1, h2⟩ | rfl)
        · exact ⟨i, by omega, h2⟩
        · exact ⟨k, by omega, rfl, z⟩
      · rintro ⟨i, h1, h2, h3⟩
        rcases Nat.lt_or_ge i k with y | y
        · exact Or.inl ⟨i, y, h2, h3⟩
        · rw [show i = k by omega] at h2; exact Or.inr h2.symm
    · next z =>
      rw [ih]
      constructor
      · rintro ⟨i, h1, h2⟩; exact ⟨i, by omega, h2⟩
      · rintro ⟨i, h1, h2, h3⟩
        rcases Nat.lt_or_ge i k with y | y
        · exact ⟨i, y, h2, h3⟩
        · rw [show i = k by omega] at h2; subst h2; exact absurd h3 z
theorem flC_srt {o since : Nat → Int} {P : Nat → Bool} {nt : Nat} (h : OrdC o since nt) : ∀ k, k ≤ nt → (flC o P k).Pairwise (Lt2 since) := by
  intro k
  induction k with
  | zero => intro _; exact List.Pairwise.nil
  | succ k ih =>
    intro hk
    unfold flC
    split
    · rw [List.pairwise_append]
      refine ⟨ih (by omega), List.pairwise_singleton _ _, fun a ha b hb => ?_⟩
      obtain ⟨i, h1, h2, _⟩ := (flC_mem k).mp ha
      rw [List.mem_singleton] at hb
      subst hb h2
      have q := h.2.1 i k h1 (by omega)
      have q1 := h.1 i (by omega)
      have q2 := h.1 k (by omega)
      unfold Lt2
      omega
    · exact ih (by omega)
theorem flC_all {o since : Nat → Int} {P : Nat → Bool} {nt t : Nat} (h : OrdC o since nt) : t ∈ flC o P nt ↔ t < nt ∧ P t = true := by
  rw [flC_mem]
  constructor
  · rintro ⟨i, h1, h2, h3⟩
    exact ⟨by have := h.1 i h1; omega, h3⟩
  · rintro ⟨h1, h2⟩
    obtain ⟨i, h3, h4⟩ := h.2.2 t h1
    exact ⟨i, h3, by omega, h2⟩
/-- texts up to day d, and on that day up to text j -/
def upT (since : Nat → Int) (P : Nat → Bool) (d : Int) (j t : Nat) : Bool := P t && (decide (since t < d) || (decide (since t = d) && decide (t < j)))
theorem upT_iff {since : Nat → Int} {P : Nat → Bool} {d : Int} {j t : Nat} : upT since P d j t = true ↔ P t = true ∧ (since t < d ∨ (since t = d ∧ t < j)) := by
  unfold upT
  simp
theorem flC_cg {o since : Nat → Int} {P P' : Nat → Bool} {nt : Nat} (h : OrdC o since nt) (e : ∀ t, t < nt → P t = P' t) : flC o P nt = flC o P' nt := by
  refine srt_uniq (flC_srt h nt (Nat.le_refl _)) (flC_srt h nt (Nat.le_refl _)) (fun t => ?_)
  rw [flC_all h, flC_all h]
  constructor
  · rintro ⟨h1, h2⟩; exact ⟨h1, by rw [← e t h1]; exact h2⟩
  · rintro ⟨h1, h2⟩; exact ⟨h1, by rw [e t h1]; exact h2⟩
theorem flC_step {o since : Nat → Int} {P : Nat → Bool} {nt j : Nat} {d : Int} (h : OrdC o since nt) (hj : j < nt) : flC o (upT since P d (j + 1)) nt = if P j = true ∧ since j = d then flC o (upT since P d j) nt ++ [j] else flC o (upT since P d j) nt := by
  split
  · next z =>
    refine srt_uniq (flC_srt h nt (Nat.le_refl _)) ?_ (fun t => ?_)
    · rw [List.pairwise_append]
      refine ⟨flC_srt h nt (Nat.le_refl _), List.pairwise_singleton _ _, fun a ha b hb => ?_⟩
      rw [flC_all h, upT_iff] at ha
      rw [List.mem_singleton] at hb
      subst hb
      unfold Lt2
      omega
    · rw [List.mem_append, flC_all h, flC_all h, upT_iff, upT_iff, List.mem_singleton]
      constructor
      · rintro ⟨h1, h2, h3⟩
        by_cases y : t = j
        · exact Or.inr y
        · exact Or.inl ⟨h1, h2, by omega⟩
      · rintro (⟨h1, h2, h3⟩ | rfl)
        · exact ⟨h1, h2, by omega⟩
        · exact ⟨hj, z.1, by omega⟩
  · next z =>
    refine flC_cg h (fun t ht => ?_)
    have e : ∀ a b : Bool, (a = true ↔ b = true) → a = b := by decide
    refine e _ _ ?_
    rw [upT_iff, upT_iff]
    by_cases y : t = j
    · subst y
      constructor
      · rintro ⟨h1, h2⟩; have : ¬ since t = d := fun q => z ⟨h1, q⟩; exact ⟨h1, by omega⟩
      · rintro ⟨h1, h2⟩; exact ⟨h1, by omega⟩
    · constructor
      · rintro ⟨h1, h2⟩; exact ⟨h1, by omega⟩
      · rintro ⟨h1, h2⟩; exact ⟨h1, by omega⟩
theorem flC_day {o since : Nat → Int} {P : Nat → Bool} {nt : Nat} {d : Int} (h : OrdC o since nt) : flC o (upT since P d nt) nt = flC o (upT since P (d + 1) 0) nt := by
  refine flC_cg h (fun t ht => ?_)
  have e : ∀ a b : Bool, (a = true ↔ b = true) → a = b := by decide
  refine e _ _ ?_
  rw [upT_iff, upT_iff]
  constructor
  · rintro ⟨h1, h2⟩; exact ⟨h1, by omega⟩
  · rintro ⟨h1, h2⟩; exact ⟨h1, by omega⟩
theorem flC_none {o since : Nat → Int} {P : Nat → Bool} {nt : Nat} (h : OrdC o since nt) (hs : ∀ t, t < nt → 0 ≤ since t) : flC o (upT since P 0 0) nt = [] := by
  refine List.eq_nil_iff_forall_not_mem.mpr (fun t ht => ?_)
  rw [flC_all h, upT_iff] at ht
  have := hs t ht.1
  omega
def flat (sz : Nat → Nat) : List Nat → List (Nat × Nat)
  | [] => []
  | t :: r => (List.range (sz t)).map (fun j => (t, j)) ++ flat sz r
theorem flat_app {sz : Nat → Nat} {l m : List Nat} : flat sz (l ++ m) = flat sz l ++ flat sz m := by
  induction l with
  | nil => rfl
  | cons a l ih => show _ ++ flat sz (l ++ m) = _; rw [ih, ← List.append_assoc]; rfl
theorem flat_one {sz : Nat → Nat} {t : Nat} : flat sz [t] = (List.range (sz t)).map (fun j => (t, j)) := List.append_nil _
theorem flat_len {sz : Nat → Nat} {l : List Nat} (h : ∀ t ∈ l, sz t ≤ 24) : (flat sz l).length ≤ 24 * l.length := by
  induction l with
  | nil => exact Nat.le_refl _
  | cons a l ih =>
    have := ih (fun t ht => h t (List.mem_cons_of_mem _ ht))
    have := h a List.mem_cons_self
    show ((List.range (sz a)).map (fun j => (a, j)) ++ flat sz l).length ≤ 24 * (l.length + 1)
    rw [List.length_append, List.length_map, List.length_range]
    omega
theorem flat_mem {sz : Nat → Nat} {l : List Nat} {x : Nat × Nat} : x ∈ flat sz l ↔ x.1 ∈ l ∧ x.2 < sz x.1 := by
  induction l with
  | nil => exact ⟨fun z => absurd z List.not_mem_nil, fun z => absurd z.1 List.not_mem_nil⟩
  | cons a l ih =>
    show x ∈ _ ++ flat sz l ↔ _
    rw [List.mem_append, ih, List.mem_map, List.mem_cons]
    constructor
    · rintro (⟨j, h1, rfl⟩ | ⟨h1, h2⟩)
      · exact ⟨Or.inl rfl, List.mem_range.mp h1⟩
      · exact ⟨Or.inr h1, h2⟩
    · rintro ⟨h1 | h1, h2⟩
      · exact Or.inl ⟨x.2, List.mem_range.mpr (by rw [← h1]; exact h2), by rw [← h1]⟩
      · exact Or.inr ⟨h1, h2⟩
