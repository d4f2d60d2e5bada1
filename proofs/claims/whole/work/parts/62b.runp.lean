/-! a run: who comes, in order -/
def ruI (P : Nat → Prop) [DecidablePred P] (lg : Nat → Int) (l : Nat) : Nat → Nat → List Nat
  | _, 0 => []
  | t, c + 1 => (if P t ∧ lg t = (l : Int) then [t] else []) ++ ruI P lg l (t + 1) c
def ruO (P : Nat → Prop) [DecidablePred P] (lg : Nat → Int) (m : Nat) : Nat → Nat → List Nat
  | _, 0 => []
  | l, c + 1 => ruI P lg l 0 m ++ ruO P lg m (l + 1) c
def ruS (cl : Nat → Int) : List Nat → Int → Int
  | [], _ => -1
  | k :: L, left => if left - cl k < 0 then (k : Int) else ruS cl L (left - cl k)
theorem ruI_mem {P : Nat → Prop} [DecidablePred P] {lg : Nat → Int} {l x : Nat} : ∀ c t, x ∈ ruI P lg l t c ↔ t ≤ x ∧ x < t + c ∧ P x ∧ lg x = (l : Int) := by
  intro c
  induction c with
  | zero => intro t; simp [ruI]; omega
  | succ c ih =>
    intro t
    show x ∈ (if P t ∧ lg t = (l : Int) then [t] else []) ++ ruI P lg l (t + 1) c ↔ _
    rw [List.mem_append, ih]
    by_cases h : P t ∧ lg t = (l : Int)
    · rw [if_pos h, List.mem_singleton]
      constructor
      · rintro (rfl | ⟨a, b, c1⟩)
        · exact ⟨by omega, by omega, h⟩
        · exact ⟨by omega, by omega, c1⟩
      · rintro ⟨a, b, c1⟩
        by_cases e : x = t
        · exact Or.inl e
        · exact Or.inr ⟨by omega, by omega, c1⟩
    · rw [if_neg h]
      constructor
      · rintro (a | ⟨a, b, c1⟩)
        · exact absurd a (List.not_mem_nil)
        · exact ⟨by omega, by omega, c1⟩
      · rintro ⟨a, b, c1⟩
        refine Or.inr ⟨?_, by omega, c1⟩
        by_cases e : x = t
        · subst e; exact absurd c1 h
        · omega
theorem ruO_mem {P : Nat → Prop} [DecidablePred P] {lg : Nat → Int} {m x : Nat} : ∀ c l, x ∈ ruO P lg m l c ↔ x < m ∧ P x ∧ (l : Int) ≤ lg x ∧ lg x < (l : Int) + c := by
  intro c
  induction c with
  | zero => intro l; simp [ruO]
  | succ c ih =>
    intro l
    show x ∈ ruI P lg l 0 m ++ ruO P lg m (l + 1) c ↔ _
    rw [List.mem_append, ih, ruI_mem]
    constructor
    · rintro (⟨a, b, c1, c2⟩ | ⟨a, b, c1, c2⟩)
      · exact ⟨by omega, c1, by omega, by omega⟩
      · exact ⟨a, b, by omega, by omega⟩
    · rintro ⟨a, b, c1, c2⟩
      by_cases e : lg x = (l : Int)
      · exact Or.inl ⟨by omega, by omega, b, e⟩
      · exact Or.inr ⟨a, b, by omega, by omega⟩
def ruB (lg : Nat → Int) (a b : Nat) : Prop := lg a < lg b ∨ (lg a = lg b ∧ a < b)
theorem ruI_pw {P : Nat → Prop} [DecidablePred P] {lg : Nat → Int} {l : Nat} : ∀ c t, (ruI P lg l t c).Pairwise (ruB lg) := by
  intro c
  induction c with
  | zero => intro t; exact List.Pairwise.nil
  | succ c ih =>
    intro t
    show ((if P t ∧ lg t = (l : Int) then [t] else []) ++ ruI P lg l (t + 1) c).Pairwise (ruB lg)
    rw [List.pairwise_append]
    refine ⟨?_, ih _, fun a ha b hb => ?_⟩
    · split
      · exact List.pairwise_singleton _ _
      · exact List.Pairwise.nil
    · have hb := (ruI_mem _ _).mp hb
      split at ha
      · rename_i h
        rw [List.mem_singleton] at ha
        subst ha
        exact Or.inr ⟨by omega, by omega⟩
      · exact absurd ha (List.not_mem_nil)
theorem ruO_pw {P : Nat → Prop} [DecidablePred P] {lg : Nat → Int} {m : Nat} : ∀ c l, (ruO P lg m l c).Pairwise (ruB lg) := by
  intro c
  induction c with
  | zero => intro l; exact List.Pairwise.nil
  | succ c ih =>
    intro l
    show (ruI P lg l 0 m ++ ruO P lg m (l + 1) c).Pairwise (ruB lg)
    rw [List.pairwise_append]
    refine ⟨ruI_pw _ _, ih _, fun a ha b hb => ?_⟩
    have ha := (ruI_mem _ _).mp ha
    have hb := (ruO_mem _ _).mp hb
    exact Or.inl (by omega)
