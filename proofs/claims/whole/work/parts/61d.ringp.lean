/-! what a best ring is -/
def RgE (N : Nat → Nat → Int) (B : rgR) : Prop := 3 ≤ B.1 ∧ B.2.2.length = B.1 ∧ B.2.2.Nodup ∧ 0 < B.2.1 ∧ ∀ i, i < B.1 → B.2.1 ≤ N (B.2.2.getD i 0) (B.2.2.getD (if i + 1 < B.1 then i + 1 else 0) 0)
theorem getD_ap2 {p : List Nat} {x i : Nat} : (p ++ [x]).getD i 0 = if i < p.length then p.getD i 0 else if i = p.length then x else 0 := by
  rw [List.getD_eq_getElem?_getD, List.getElem?_append]
  split
  · rw [List.getD_eq_getElem?_getD]
  · split
    · rename_i h; subst h; simp
    · rw [List.getElem?_eq_none (by simp; omega)]; rfl
theorem extL_E {N : Nat → Nat → Int} {m : Nat} {r : rgR} : ∀ n p least, 1 ≤ p.length → p.Nodup → (∀ i, i + 1 < p.length → least ≤ N (p.getD i 0) (p.getD (i + 1) 0)) → r ∈ extL N m n p least → RgE N r := by
  intro n
  have hd : ∀ (p : List Nat) (least : Int), 1 ≤ p.length → p.Nodup → (∀ i, i + 1 < p.length → least ≤ N (p.getD i 0) (p.getD (i + 1) 0)) → r ∈ (if 3 ≤ p.length ∧ 0 < rgC N p least then [(p.length, rgC N p least, p)] else []) → RgE N r := by
    intro p least h1 h2 h3 h
    split at h
    · rename_i z
      rw [List.mem_singleton] at h
      rw [h]
      refine ⟨z.1, rfl, h2, z.2, fun i hi => ?_⟩
      show rgC N p least ≤ N (p.getD i 0) (p.getD (if i + 1 < p.length then i + 1 else 0) 0)
      have hi : i < p.length := hi
      by_cases y : i + 1 < p.length
      · rw [if_pos y]
        have := h3 i y
        unfold rgC
        omega
      · rw [if_neg y]
        unfold rgC rgL
        rw [show i = p.length - 1 by omega]
        omega
    · exact absurd h (List.not_mem_nil)
  induction n with
  | zero => intro p least h1 h2 h3 h; exact hd p least h1 h2 h3 h
  | succ n ih =>
    intro p least h1 h2 h3 h
    rcases List.mem_append.mp h with z | z
    · exact hd p least h1 h2 h3 z
    · obtain ⟨s, hs⟩ := flF_mem _ _ z
      by_cases y : rgO N p s
      · rw [if_pos y] at hs
        refine ih _ _ (by simp) ?_ (fun i hi => ?_) hs
        · rw [List.nodup_append]
          refine ⟨h2, by simp, fun a ha b hb => ?_⟩
          rw [List.mem_singleton] at hb
          subst hb
          intro e
          exact y.2 (e ▸ ha)
        · rw [List.length_append] at hi
          have e1 : [s].length = 1 := rfl
          rw [getD_ap2, getD_ap2, if_pos (by omega)]
          by_cases w : i + 1 < p.length
          · rw [if_pos w]
            have := h3 i w
            omega
          · rw [if_neg w, if_pos (by omega), show p.getD i 0 = rgL p by unfold rgL; rw [show i = p.length - 1 by omega]]
            omega
      · rw [if_neg y] at hs; exact absurd hs (List.not_mem_nil)
theorem foldF_mem : ∀ (l : List rgR) (b : rgR), l.foldl rgF b = b ∨ l.foldl rgF b ∈ l := by
  intro l
  induction l with
  | nil => intro b; exact Or.inl rfl
  | cons r l ih =>
    intro b
    rcases ih (rgF b r) with z | z
    · show l.foldl rgF (rgF b r) = b ∨ l.foldl rgF (rgF b r) ∈ r :: l
      rw [z]
      unfold rgF
      split
      · exact Or.inr (List.mem_cons_self ..)
      · exact Or.inl rfl
    · exact Or.inr (List.mem_cons_of_mem _ z)
theorem best_E {N : Nat → Nat → Int} {m most : Nat} {mx : Int} : (extA N m most mx).foldl rgF (0, 0, []) = (0, 0, []) ∨ RgE N ((extA N m most mx).foldl rgF (0, 0, [])) := by
  rcases foldF_mem (extA N m most mx) (0, 0, []) with z | z
  · exact Or.inl z
  · refine Or.inr ?_
    obtain ⟨s, hs⟩ := flF_mem _ _ z
    exact extL_E _ _ _ (by simp) (by simp) (fun i hi => by simp at hi) hs
theorem nodup_getD {p : List Nat} (h : p.Nodup) {i j : Nat} (hi : i < p.length) (hj : j < p.length) (e : p.getD i 0 = p.getD j 0) : i = j := by
  rw [List.getD_eq_getElem?_getD, List.getD_eq_getElem?_getD, List.getElem?_eq_getElem hi, List.getElem?_eq_getElem hj] at e
  exact (List.getElem_inj h).mp e
