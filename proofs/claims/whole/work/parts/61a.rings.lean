/-! rings: all sizes at once, and size by size -/
abbrev rgR : Type := Nat × Int × List Nat
def rgF (b r : rgR) : rgR := if b.2.1 * b.1 < r.2.1 * r.1 ∨ (r.2.1 * r.1 = b.2.1 * b.1 ∧ r.1 < b.1) then r else b
def rgG (b r : rgR) : rgR := if r.2.1 * r.1 ≤ b.2.1 * b.1 then b else r
def flF (F : Nat → List rgR) : Nat → Nat → List rgR
  | _, 0 => []
  | t, c + 1 => F t ++ flF F (t + 1) c
def rgL (p : List Nat) : Nat := p.getD (p.length - 1) 0
def rgC (N : Nat → Nat → Int) (p : List Nat) (least : Int) : Int := min least (N (rgL p) (p.getD 0 0))
abbrev rgO (N : Nat → Nat → Int) (p : List Nat) (to : Nat) : Prop := 0 < N (rgL p) to ∧ to ∉ p
def extL (N : Nat → Nat → Int) (m : Nat) : Nat → List Nat → Int → List rgR
  | 0, p, least => if 3 ≤ p.length ∧ 0 < rgC N p least then [(p.length, rgC N p least, p)] else []
  | n + 1, p, least => (if 3 ≤ p.length ∧ 0 < rgC N p least then [(p.length, rgC N p least, p)] else []) ++ flF (fun to => if rgO N p to then extL N m n (p ++ [to]) (min least (N (rgL p) to)) else []) (p.getD 0 0 + 1) (m - (p.getD 0 0 + 1))
def rndL (N : Nat → Nat → Int) (m : Nat) : Nat → List Nat → Int → List rgR
  | 0, p, least => if 0 < rgC N p least then [(p.length, rgC N p least, p)] else []
  | n + 1, p, least => flF (fun to => if rgO N p to then rndL N m n (p ++ [to]) (min least (N (rgL p) to)) else []) (p.getD 0 0 + 1) (m - (p.getD 0 0 + 1))
theorem flF_filter {F : Nat → List rgR} {q : rgR → Bool} : ∀ c t, (flF F t c).filter q = flF (fun t => (F t).filter q) t c := by
  intro c
  induction c with
  | zero => intro t; rfl
  | succ c ih => intro t; show (F t ++ flF F (t + 1) c).filter q = _; rw [List.filter_append, ih]; rfl
theorem flF_cg {F F' : Nat → List rgR} (h : ∀ t, F t = F' t) : ∀ c t, flF F t c = flF F' t c := by
  intro c
  induction c with
  | zero => intro t; rfl
  | succ c ih => intro t; show F t ++ _ = F' t ++ _; rw [h, ih]
theorem flF_nil : ∀ c t, flF (fun _ => []) t c = [] := by
  intro c
  induction c with
  | zero => intro t; rfl
  | succ c ih => intro t; show [] ++ _ = _; rw [ih]; rfl
theorem ext_rnd (N : Nat → Nat → Int) (m k : Nat) (hk : 3 ≤ k) : ∀ n p least, (extL N m n p least).filter (fun r => decide (r.1 = k)) = if p.length ≤ k ∧ k ≤ p.length + n then rndL N m (k - p.length) p least else [] := by
  intro n
  induction n with
  | zero =>
    intro p least
    show (if 3 ≤ p.length ∧ 0 < rgC N p least then [(p.length, rgC N p least, p)] else []).filter _ = _
    by_cases h : p.length = k
    · rw [if_pos (show p.length ≤ k ∧ k ≤ p.length + 0 by omega), show k - p.length = 0 by omega]
      show _ = if 0 < rgC N p least then [(p.length, rgC N p least, p)] else []
      by_cases h2 : 0 < rgC N p least
      · rw [if_pos ⟨by omega, h2⟩, if_pos h2]; simp [h]
      · rw [if_neg (fun z => h2 z.2), if_neg h2]; rfl
    · rw [if_neg (show ¬ (p.length ≤ k ∧ k ≤ p.length + 0) by omega)]
      split
      · simp [h]
      · rfl
  | succ n ih =>
    intro p least
    show ((if 3 ≤ p.length ∧ 0 < rgC N p least then [(p.length, rgC N p least, p)] else []) ++ flF _ _ _).filter _ = _
    rw [List.filter_append, flF_filter]
    have e : ∀ to, (if rgO N p to then extL N m n (p ++ [to]) (min least (N (rgL p) to)) else []).filter (fun r => decide (r.1 = k)) = if p.length + 1 ≤ k ∧ k ≤ p.length + (n + 1) then (if rgO N p to then rndL N m (k - (p.length + 1)) (p ++ [to]) (min least (N (rgL p) to)) else []) else [] := by
      intro to
      by_cases h : rgO N p to
      · rw [if_pos h, if_pos h, ih, List.length_append]
        show (if p.length + 1 ≤ k ∧ k ≤ p.length + 1 + n then _ else _) = _
        by_cases h2 : p.length + 1 ≤ k ∧ k ≤ p.length + (n + 1)
        · rw [if_pos (by omega), if_pos h2]; rfl
        · rw [if_neg (by omega), if_neg h2]
      · rw [if_neg h, if_neg h]
        split <;> rfl
    rw [flF_cg e]
    by_cases h : p.length = k
    · rw [flF_cg (F' := fun _ => []) (fun t => if_neg (by omega)), flF_nil, List.append_nil, if_pos (show p.length ≤ k ∧ k ≤ p.length + (n + 1) by omega), show k - p.length = 0 by omega]
      show _ = if 0 < rgC N p least then [(p.length, rgC N p least, p)] else []
      by_cases h2 : 0 < rgC N p least
      · rw [if_pos ⟨by omega, h2⟩, if_pos h2]; simp [h]
      · rw [if_neg (fun z => h2 z.2), if_neg h2]; rfl
    · have e0 : (if 3 ≤ p.length ∧ 0 < rgC N p least then [(p.length, rgC N p least, p)] else []).filter (fun r => decide (r.1 = k)) = ([] : List rgR) := by
        split
        · simp [h]
        · rfl
      rw [e0, List.nil_append]
      by_cases h2 : p.length + 1 ≤ k ∧ k ≤ p.length + (n + 1)
      · rw [if_pos (by omega), show k - p.length = (k - (p.length + 1)) + 1 by omega]
        exact flF_cg (fun t => if_pos h2) _ _
      · rw [if_neg (by omega), flF_cg (F' := fun _ => []) (fun t => if_neg h2), flF_nil]
/-- what one size is and another isn't may change places -/
theorem rgF_comm {b x y : rgR} (h : x.1 ≠ y.1) : rgF (rgF b x) y = rgF (rgF b y) x := by
  unfold rgF
  generalize hb : b.2.1 * (b.1 : Int) = B
  generalize hx : x.2.1 * (x.1 : Int) = Xx
  generalize hy : y.2.1 * (y.1 : Int) = Yy
  by_cases h1 : B < Xx ∨ (Xx = B ∧ x.1 < b.1) <;> by_cases h2 : B < Yy ∨ (Yy = B ∧ y.1 < b.1)
  · rw [if_pos h1, if_pos h2, hx, hy]
    by_cases h3 : Xx < Yy ∨ (Yy = Xx ∧ y.1 < x.1)
    · rw [if_pos h3, if_neg (by omega)]
    · rw [if_neg h3, if_pos (by omega)]
  · rw [if_pos h1, if_neg h2, hx, hb, if_neg (by omega), if_pos h1]
  · rw [if_neg h1, if_pos h2, hb, hy, if_pos h2, if_neg (by omega)]
  · rw [if_neg h1, if_neg h2, hb, if_neg h2, if_neg h1]
theorem fold_out {x : rgR} : ∀ (l : List rgR) (b : rgR), (∀ y ∈ l, x.1 ≠ y.1) → l.foldl rgF (rgF b x) = rgF (l.foldl rgF b) x := by
  intro l
  induction l with
  | nil => intro b _; rfl
  | cons y l ih =>
    intro b h
    show l.foldl rgF (rgF (rgF b x) y) = rgF (l.foldl rgF (rgF b y)) x
    rw [rgF_comm (h y (List.mem_cons_self ..)), ih _ (fun z hz => h z (List.mem_cons_of_mem _ hz))]
theorem fold_part (k : Nat) : ∀ (l : List rgR) (b : rgR), l.foldl rgF b = ((l.filter (fun r => decide (r.1 = k))) ++ l.filter (fun r => decide (¬ r.1 = k))).foldl rgF b := by
  intro l
  induction l with
  | nil => intro b; rfl
  | cons y l ih =>
    intro b
    show l.foldl rgF (rgF b y) = _
    rw [ih]
    by_cases h : y.1 = k
    · rw [List.filter_cons_of_pos (by simpa using h), List.filter_cons_of_neg (by simpa using h)]
      rfl
    · rw [List.filter_cons_of_neg (by simpa using h), List.filter_cons_of_pos (by simpa using h), List.foldl_append, List.foldl_append]
      show _ = (List.filter _ l).foldl rgF (rgF _ y)
      rw [fold_out]
      intro z hz
      have := (List.mem_filter.mp hz).2
      simp at this
      omega
theorem fold_same {k : Nat} : ∀ (l : List rgR) (b : rgR), b.1 ≤ k → (∀ y ∈ l, y.1 = k) → l.foldl rgF b = l.foldl rgG b ∧ (l.foldl rgG b).1 ≤ k := by
  intro l
  induction l with
  | nil => intro b h _; exact ⟨rfl, h⟩
  | cons y l ih =>
    intro b h1 h2
    have hy := h2 y (List.mem_cons_self ..)
    have e : rgF b y = rgG b y := by
      unfold rgF rgG
      by_cases z : y.2.1 * (y.1 : Int) ≤ b.2.1 * (b.1 : Int)
      · rw [if_pos z, if_neg]
        rintro (x | x) <;> omega
      · rw [if_neg z, if_pos (Or.inl (by omega))]
    show l.foldl rgF (rgF b y) = l.foldl rgG (rgG b y) ∧ (l.foldl rgG (rgG b y)).1 ≤ k
    rw [e]
    refine ih _ ?_ (fun z hz => h2 z (List.mem_cons_of_mem _ hz))
    unfold rgG
    split <;> omega
/-- all rings -/
def extA (N : Nat → Nat → Int) (m most : Nat) (mx : Int) : List rgR := flF (fun a => extL N m (most - 1) [a] mx) 0 m
def rndA (N : Nat → Nat → Int) (m k : Nat) (mx : Int) : List rgR := flF (fun a => rndL N m (k - 1) [a] mx) 0 m
theorem extA_filter {N : Nat → Nat → Int} {m most k : Nat} {mx : Int} (h : 3 ≤ k) (h1 : 1 ≤ most) : (extA N m most mx).filter (fun r => decide (r.1 = k)) = if k ≤ most then rndA N m k mx else [] := by
  unfold extA
  rw [flF_filter]
  have e : ∀ a, (extL N m (most - 1) [a] mx).filter (fun r => decide (r.1 = k)) = if k ≤ most then rndL N m (k - 1) [a] mx else [] := by
    intro a
    rw [ext_rnd N m k h]
    show (if 1 ≤ k ∧ k ≤ 1 + (most - 1) then rndL N m (k - 1) [a] mx else []) = _
    by_cases z : k ≤ most
    · rw [if_pos (by omega), if_pos z]
    · rw [if_neg (by omega), if_neg z]
  rw [flF_cg e]
  by_cases z : k ≤ most
  · rw [if_pos z]; exact flF_cg (fun t => if_pos z) _ _
  · rw [if_neg z, flF_cg (F' := fun _ => []) (fun t => if_neg z), flF_nil]
theorem flF_mem {F : Nat → List rgR} {r : rgR} : ∀ c t, r ∈ flF F t c → ∃ s, r ∈ F s := by
  intro c
  induction c with
  | zero => intro t h; exact absurd h (List.not_mem_nil)
  | succ c ih =>
    intro t h
    rcases List.mem_append.mp h with z | z
    · exact ⟨t, z⟩
    · exact ih (t + 1) z
theorem extL_sz {N : Nat → Nat → Int} {m : Nat} {r : rgR} : ∀ n p least, r ∈ extL N m n p least → 3 ≤ r.1 ∧ r.1 ≤ p.length + n := by
  intro n
  have hd : ∀ (p : List Nat) (least : Int), r ∈ (if 3 ≤ p.length ∧ 0 < rgC N p least then [(p.length, rgC N p least, p)] else []) → 3 ≤ r.1 ∧ r.1 = p.length := by
    intro p least h
    split at h
    · rename_i z
      rw [List.mem_singleton] at h
      rw [h]; exact ⟨z.1, rfl⟩
    · exact absurd h (List.not_mem_nil)
  induction n with
  | zero => intro p least h; have := hd p least h; omega
  | succ n ih =>
    intro p least h
    rcases List.mem_append.mp h with z | z
    · have := hd p least z; omega
    · obtain ⟨s, hs⟩ := flF_mem _ _ z
      by_cases y : rgO N p s
      · rw [if_pos y] at hs
        have := ih _ _ hs
        rw [List.length_append] at this
        have e : [s].length = 1 := rfl
        omega
      · rw [if_neg y] at hs; exact absurd hs (List.not_mem_nil)
def rndM (N : Nat → Nat → Int) (m : Nat) (mx : Int) : Nat → Nat → rgR → rgR
  | _, 0, b => b
  | k, c + 1, b => rndM N m mx (k + 1) c ((rndA N m k mx).foldl rgG b)
theorem rings_same {N : Nat → Nat → Int} {m most : Nat} {mx : Int} (h : 3 ≤ most ∧ most ≤ 5) : (extA N m most mx).foldl rgF (0, 0, []) = rndM N m mx 3 (most - 2) (0, 0, []) := by
  obtain ⟨E, eE⟩ : ∃ E, E = extA N m most mx := ⟨_, rfl⟩
  have f3 := extA_filter (N := N) (m := m) (most := most) (k := 3) (mx := mx) (by omega) (by omega)
  have f4 := extA_filter (N := N) (m := m) (most := most) (k := 4) (mx := mx) (by omega) (by omega)
  have f5 := extA_filter (N := N) (m := m) (most := most) (k := 5) (mx := mx) (by omega) (by omega)
  have sz : ∀ r ∈ E, 3 ≤ r.1 ∧ r.1 ≤ most := by
    intro r hr
    rw [eE] at hr
    obtain ⟨s, hs⟩ := flF_mem _ _ hr
    have := extL_sz _ _ _ hs
    have e : [s].length = 1 := rfl
    omega
  rw [← eE] at f3 f4 f5 ⊢
  have al : ∀ k, 3 ≤ k → ∀ y ∈ rndA N m k mx, k ≤ most → y.1 = k := by
    intro k hk y hy hm
    have f := extA_filter (N := N) (m := m) (most := most) (k := k) (mx := mx) hk (by omega)
    rw [if_pos hm] at f
    rw [← f] at hy
    simpa using (List.mem_filter.mp hy).2
  have two : ∀ k, (E.filter (fun r => decide (¬ r.1 = 3))).filter (fun r => decide (r.1 = k)) = if k = 3 then [] else E.filter (fun r => decide (r.1 = k)) := by
    intro k
    rw [List.filter_filter]
    split
    · rename_i z
      subst z
      rw [List.filter_eq_nil_iff]
      intro a _
      simp
    · refine List.filter_congr (fun a _ => ?_)
      by_cases y : a.1 = k
      · simp [y]; omega
      · simp [y]
  have three : ((E.filter (fun r => decide (¬ r.1 = 3))).filter (fun r => decide (¬ r.1 = 4))) = E.filter (fun r => decide (r.1 = 5)) := by
    rw [List.filter_filter]
    refine List.filter_congr (fun a ha => ?_)
    have := sz a ha
    by_cases y : a.1 = 5
    · simp [y]
    · simp [y]; omega
  rw [fold_part 3, List.foldl_append, fold_part 4 (E.filter (fun r => decide (¬ r.1 = 3))), List.foldl_append, two 4, if_neg (by omega), three, f3, f4, f5, if_pos (by omega)]
  have s3 := fold_same (k := 3) (rndA N m 3 mx) (0, 0, []) (by show 0 ≤ 3; omega) (fun y hy => al 3 (by omega) y hy (by omega))
  rw [s3.1]
  rcases (show most = 3 ∨ most = 4 ∨ most = 5 by omega) with z | z | z
  · subst z
    rw [if_neg (by omega), if_neg (by omega)]
    rfl
  · subst z
    rw [if_pos (by omega), if_neg (by omega)]
    have s4 := fold_same (k := 4) (rndA N m 4 mx) ((rndA N m 3 mx).foldl rgG (0, 0, [])) (by have := s3.2; omega) (fun y hy => al 4 (by omega) y hy (by omega))
    rw [s4.1]
    rfl
  · subst z
    rw [if_pos (by omega), if_pos (by omega)]
    have s4 := fold_same (k := 4) (rndA N m 4 mx) ((rndA N m 3 mx).foldl rgG (0, 0, [])) (by have := s3.2; omega) (fun y hy => al 4 (by omega) y hy (by omega))
    rw [s4.1]
    have s5 := fold_same (k := 5) (rndA N m 5 mx) ((rndA N m 4 mx).foldl rgG ((rndA N m 3 mx).foldl rgG (0, 0, []))) (by have := s4.2; omega) (fun y hy => al 5 (by omega) y hy (by omega))
    rw [s5.1]
    rfl
