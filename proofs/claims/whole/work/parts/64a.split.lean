/-! a split -/
def bo (r : Nat → Int) : Nat → Nat
  | 0 => 0
  | k + 1 => if r (bo r k) < r k then k else bo r k
theorem bo_lt (r : Nat → Int) : ∀ m, 1 ≤ m → bo r m < m := by
  intro m
  induction m with
  | zero => intro h; omega
  | succ m ih =>
    intro _
    unfold bo
    split
    · omega
    · by_cases h : 1 ≤ m
      · have := ih h; omega
      · have : m = 0 := by omega
        subst this
        show (0 : Nat) < 1
        omega
theorem bo_max (r : Nat → Int) : ∀ m, ∀ x, x < m → r x ≤ r (bo r m) ∧ (x < bo r m → r x < r (bo r m)) := by
  intro m
  induction m with
  | zero => intro x hx; omega
  | succ m ih =>
    intro x hx
    unfold bo
    split
    · rename_i h
      by_cases e : x = m
      · subst e; exact ⟨by omega, fun z => by omega⟩
      · have := ih x (by omega); exact ⟨by omega, fun _ => by omega⟩
    · rename_i h
      by_cases e : x = m
      · subst e
        refine ⟨by omega, fun z => ?_⟩
        by_cases h1 : 1 ≤ x
        · have := bo_lt r x h1; omega
        · have : x = 0 := by omega
          subst this
          exact absurd z (Nat.not_lt_zero _)
      · exact ih x (by omega)
theorem bo_uniq {r : Nat → Int} {m b : Nat} (hb : b < m) (h : ∀ x, x < m → r x ≤ r b ∧ (x < b → r x < r b)) : bo r m = b := by
  have h1 := bo_lt r m (by omega)
  have h2 := bo_max r m b hb
  have h3 := h (bo r m) h1
  rcases Nat.lt_trichotomy (bo r m) b with z | z | z
  · have := h3.2 z; omega
  · exact z
  · have := h2.2 z; omega
def sG (f : Nat → Int) (G : Nat → Bool) (m : Nat) : Int := sumN (fun x => if G x = true then f x else 0) m
def spP (sum : Int) (w : Nat → Int) (G : Nat → Bool) (m : Nat) (x : Nat) : Int := if G x = true then sum * w x / sG w G m else 0
def spR (sum : Int) (w : Nat → Int) (G : Nat → Bool) (m : Nat) (x : Nat) : Int := if G x = true then sum * w x % sG w G m else -1
def spI (m : Nat) : Nat → (Nat → Int) × (Nat → Int) → (Nat → Int) × (Nat → Int)
  | 0, s => s
  | n + 1, s => spI m n (fun x => if x = bo s.2 m then s.1 x + 1 else s.1 x, fun x => if x = bo s.2 m then -1 else s.2 x)
def spN (sum : Int) (w : Nat → Int) (G : Nat → Bool) (m : Nat) : Nat := (sum - sumN (spP sum w G m) m).toNat
def spF (sum : Int) (w : Nat → Int) (G : Nat → Bool) (m : Nat) (x : Nat) : Int := (spI m (spN sum w G m) (spP sum w G m, spR sum w G m)).1 x
/-- what is left over is less than those who have a rest -/
def spV (m : Nat) (G : Nat → Bool) (all : Int) (n : Nat) (r : Nat → Int) : Prop := (n : Int) * all ≤ sumN (fun x => if 0 ≤ r x then r x else 0) m ∧ (∀ x, x < m → -1 ≤ r x ∧ r x < all) ∧ ∀ x, x < m → G x = false → r x = -1
theorem sumN_one {f f' : Nat → Int} {m b : Nat} (hb : b < m) (h : ∀ x, x < m → x ≠ b → f' x = f x) : sumN f' m = sumN f m + (f' b - f b) := by
  have main : ∀ n, n ≤ m → sumN f' n = sumN f n + (if b < n then f' b - f b else 0) := by
    intro n
    induction n with
    | zero => intro _; show (0 : Int) = 0 + _; rw [if_neg (by omega)]; rfl
    | succ n ih =>
      intro hn
      show sumN f' n + f' n = sumN f n + f n + _
      rw [ih (by omega)]
      by_cases e : n = b
      · subst e
        rw [if_neg (by omega), if_pos (by omega)]
        omega
      · rw [h n (by omega) e]
        by_cases y : b < n
        · rw [if_pos y, if_pos (by omega)]; omega
        · rw [if_neg y, if_neg (by omega)]; omega
  rw [main m (Nat.le_refl _), if_pos hb]
theorem spV_pos {m : Nat} {G : Nat → Bool} {all : Int} {n : Nat} {r : Nat → Int} (hall : 0 < all) (h : spV m G all (n + 1) r) : 0 < r (bo r m) ∧ G (bo r m) = true ∧ bo r m < m := by
  have : ∃ x, x < m ∧ 0 < r x := by
    refine Classical.byContradiction (fun z => ?_)
    have z' : ∀ x, x < m → r x ≤ 0 := fun x hx => Classical.byContradiction (fun y => z ⟨x, hx, by omega⟩)
    have : sumN (fun x => if 0 ≤ r x then r x else 0) m = 0 := sumN_zero (fun x hx => by
      have := z' x hx
      show (if 0 ≤ r x then r x else 0) = 0
      split <;> omega)
    have h1 := h.1
    rw [this] at h1
    have h2 : ((n + 1 : Nat) : Int) * all = (n : Int) * all + all := by rw [show ((n + 1 : Nat) : Int) = (n : Int) + 1 by omega, Int.add_mul, Int.one_mul]
    have h3 : 0 ≤ (n : Int) * all := Int.mul_nonneg (by omega) (by omega)
    omega
  obtain ⟨x, hx, hp⟩ := this
  have hb := bo_lt r m (by omega)
  have := (bo_max r m x hx).1
  refine ⟨by omega, ?_, hb⟩
  cases hg : G (bo r m) with
  | true => rfl
  | false => have := h.2.2 _ hb hg; omega
theorem spV_step {m : Nat} {G : Nat → Bool} {all : Int} {n : Nat} {r : Nat → Int} (hall : 0 < all) (h : spV m G all (n + 1) r) : spV m G all n (fun x => if x = bo r m then -1 else r x) := by
  obtain ⟨p1, p2, p3⟩ := spV_pos hall h
  have rb := h.2.1 _ p3
  refine ⟨?_, fun x hx => ?_, fun x hx hg => ?_⟩
  · have e := sumN_one (f := fun x => if 0 ≤ r x then r x else 0) (f' := fun x => if 0 ≤ (if x = bo r m then -1 else r x) then (if x = bo r m then -1 else r x) else 0) (b := bo r m) p3 (fun x hx hne => by simp only [if_neg hne])
    have e1 : (if 0 ≤ (if bo r m = bo r m then -1 else r (bo r m)) then (if bo r m = bo r m then -1 else r (bo r m)) else 0) = (0 : Int) := by simp
    have e2 : (if 0 ≤ r (bo r m) then r (bo r m) else 0) = r (bo r m) := if_pos (by omega)
    have e := e.trans (congrArg (sumN (fun x => if 0 ≤ r x then r x else 0) m + ·) (congr (congrArg (fun a b : Int => a - b) e1) e2))
    show _ ≤ sumN (fun x => if 0 ≤ (if x = bo r m then -1 else r x) then (if x = bo r m then -1 else r x) else 0) m
    rw [e]
    have h1 := h.1
    have h2 : ((n + 1 : Nat) : Int) * all = (n : Int) * all + all := by rw [show ((n + 1 : Nat) : Int) = (n : Int) + 1 by omega, Int.add_mul, Int.one_mul]
    omega
  · have := h.2.1 x hx
    by_cases e : x = bo r m
    · simp only [if_pos e]; omega
    · simp only [if_neg e]; exact this
  · by_cases e : x = bo r m
    · simp only [if_pos e]
    · simp only [if_neg e]; exact h.2.2 x hx hg
theorem sum_mul {f : Nat → Int} {c : Int} : ∀ m, sumN (fun x => c * f x) m = c * sumN f m := by
  intro m
  induction m with
  | zero => show (0 : Int) = c * 0; rw [Int.mul_zero]
  | succ m ih => show sumN _ m + c * f m = c * (sumN f m + f m); rw [ih, Int.mul_add]
theorem sp_sum {sum : Int} {w : Nat → Int} {G : Nat → Bool} {m : Nat} : sumN (spP sum w G m) m * sG w G m + sumN (fun x => if 0 ≤ spR sum w G m x then spR sum w G m x else 0) m = sum * sG w G m ∨ sG w G m ≤ 0 := by
  by_cases h : sG w G m ≤ 0
  · exact Or.inr h
  · refine Or.inl ?_
    rw [Int.mul_comm, ← sum_mul, ← sumN_add]
    unfold sG at h ⊢
    rw [← sum_mul]
    refine sumN_congr (fun x _ => ?_)
    unfold spP spR sG
    by_cases g : G x = true
    · simp only [if_pos g]
      have := Int.emod_nonneg (sum * w x) (show sumN (fun x => if G x = true then w x else 0) m ≠ 0 by omega)
      rw [if_pos this]
      exact Int.mul_ediv_add_emod (sum * w x) _
    · simp only [if_neg g]
      rw [if_neg (by omega), Int.mul_zero, Int.mul_zero]; rfl
theorem spV_0 {sum : Int} {w : Nat → Int} {G : Nat → Bool} {m : Nat} (hall : 0 < sG w G m) : spV m G (sG w G m) (spN sum w G m) (spR sum w G m) ∧ sumN (spP sum w G m) m ≤ sum := by
  have h := sp_sum (sum := sum) (w := w) (G := G) (m := m)
  have pos : 0 ≤ sumN (fun x => if 0 ≤ spR sum w G m x then spR sum w G m x else 0) m := sumN_pos (fun x _ => by show 0 ≤ (if 0 ≤ spR sum w G m x then spR sum w G m x else 0); split <;> omega)
  rcases h with h | h
  · have le : sumN (spP sum w G m) m ≤ sum := by
      refine Classical.byContradiction (fun z => ?_)
      have : (sum + 1) * sG w G m ≤ sumN (spP sum w G m) m * sG w G m := Int.mul_le_mul_of_nonneg_right (by omega) (by omega)
      rw [Int.add_mul, Int.one_mul] at this
      omega
    refine ⟨⟨?_, fun x hx => ?_, fun x hx hg => ?_⟩, le⟩
    · unfold spN
      have : (((sum - sumN (spP sum w G m) m).toNat : Nat) : Int) = sum - sumN (spP sum w G m) m := by omega
      rw [this, Int.sub_mul]
      omega
    · unfold spR
      split
      · have a := Int.emod_nonneg (sum * w x) (show sG w G m ≠ 0 by omega)
        have b := Int.emod_lt_of_pos (sum * w x) hall
        omega
      · omega
    · unfold spR
      rw [if_neg (by rw [hg]; decide)]
  · omega
theorem bo_s (r : Nat → Int) (k : Nat) : bo r (k + 1) = if r (bo r k) < r k then k else bo r k := rfl
theorem bo_cg {r r' : Nat → Int} : ∀ {m : Nat}, (∀ x, x < m → r x = r' x) → bo r m = bo r' m := by
  intro m
  induction m with
  | zero => intro _; rfl
  | succ m ih =>
    intro h
    have e := ih (fun x hx => h x (by omega))
    rw [bo_s, bo_s, e]
    by_cases h1 : 1 ≤ m
    · rw [h (bo r' m) (by have := bo_lt r' m h1; omega), h m (by omega)]
    · have : m = 0 := by omega
      subst this
      show (if r 0 < r 0 then 0 else 0) = (if r' 0 < r' 0 then 0 else 0)
      rw [h 0 (by omega)]
theorem spI_cg {m : Nat} : ∀ n {p p' r r' : Nat → Int}, (∀ x, x < m → p x = p' x) → (∀ x, x < m → r x = r' x) → ∀ x, x < m → (spI m n (p, r)).1 x = (spI m n (p', r')).1 x := by
  intro n
  induction n with
  | zero => intro p p' r r' hp _ x hx; exact hp x hx
  | succ n ih =>
    intro p p' r r' hp hr
    have e := bo_cg hr
    refine ih (fun x hx => ?_) (fun x hx => ?_)
    · show (if x = bo r m then p x + 1 else p x) = (if x = bo r' m then p' x + 1 else p' x)
      rw [e, hp x hx]
    · show (if x = bo r m then -1 else r x) = (if x = bo r' m then -1 else r' x)
      rw [e, hr x hx]
theorem sG_cg {f f' : Nat → Int} {G G' : Nat → Bool} {m : Nat} (hG : ∀ x, x < m → G x = G' x) (hf : ∀ x, x < m → G x = true → f x = f' x) : sG f G m = sG f' G' m := by
  refine sumN_congr (fun x hx => ?_)
  rw [← hG x hx]
  by_cases e : G x = true
  · rw [if_pos e, if_pos e, hf x hx e]
  · rw [if_neg e, if_neg e]
theorem spF_cg {sum : Int} {w w' : Nat → Int} {G G' : Nat → Bool} {m : Nat} (hG : ∀ x, x < m → G x = G' x) (hf : ∀ x, x < m → G x = true → w x = w' x) : ∀ x, x < m → spF sum w G m x = spF sum w' G' m x := by
  have e := sG_cg hG hf
  have eP : ∀ x, x < m → spP sum w G m x = spP sum w' G' m x := fun x hx => by
    unfold spP
    rw [e, ← hG x hx]
    by_cases z : G x = true
    · rw [if_pos z, if_pos z, hf x hx z]
    · rw [if_neg z, if_neg z]
  have eR : ∀ x, x < m → spR sum w G m x = spR sum w' G' m x := fun x hx => by
    unfold spR
    rw [e, ← hG x hx]
    by_cases z : G x = true
    · rw [if_pos z, if_pos z, hf x hx z]
    · rw [if_neg z, if_neg z]
  have eN : spN sum w G m = spN sum w' G' m := by
    unfold spN
    rw [sumN_congr (f := spP sum w G m) (f' := spP sum w' G' m) (fun x hx => eP x hx)]
  intro x hx
  unfold spF
  rw [eN]
  exact spI_cg _ eP eR x hx
theorem sG_s (f : Nat → Int) (G : Nat → Bool) (m : Nat) : sG f G (m + 1) = sG f G m + (if G m = true then f m else 0) := rfl
/-- a split gives out all of the sum, none a negative part -/
theorem spI_sum {m : Nat} {G : Nat → Bool} {all : Int} (hall : 0 < all) : ∀ n {p r : Nat → Int}, spV m G all n r → sumN (spI m n (p, r)).1 m = sumN p m + (n : Int) ∧ ∀ x, x < m → p x ≤ (spI m n (p, r)).1 x := by
  intro n
  induction n with
  | zero => intro p r _; exact ⟨by show sumN p m = sumN p m + ((0 : Nat) : Int); omega, fun x _ => Int.le_refl _⟩
  | succ n ih =>
    intro p r h
    obtain ⟨p1, p2, p3⟩ := spV_pos hall h
    have s := ih (p := fun x => if x = bo r m then p x + 1 else p x) (spV_step hall h)
    have e : sumN (fun x => if x = bo r m then p x + 1 else p x) m = sumN p m + ((if bo r m = bo r m then p (bo r m) + 1 else p (bo r m)) - p (bo r m)) := sumN_one (f := p) p3 (fun x _ hne => if_neg hne)
    rw [if_pos rfl] at e
    refine ⟨?_, fun x hx => ?_⟩
    · show sumN (spI m n _).1 m = _
      rw [s.1, e]
      omega
    · refine Int.le_trans ?_ (s.2 x hx)
      show p x ≤ (if x = bo r m then p x + 1 else p x)
      split <;> omega
theorem spF_sum {sum : Int} {w : Nat → Int} {G : Nat → Bool} {m : Nat} (hall : 0 < sG w G m) : sumN (spF sum w G m) m = sum := by
  have h := spV_0 (sum := sum) hall
  have := (spI_sum hall (spN sum w G m) (p := spP sum w G m) h.1).1
  show sumN (spI m (spN sum w G m) (spP sum w G m, spR sum w G m)).1 m = sum
  rw [this]
  unfold spN
  have := h.2
  omega
theorem spF_pos {sum : Int} {w : Nat → Int} {G : Nat → Bool} {m : Nat} (hs : 0 ≤ sum) (hw : ∀ x, x < m → G x = true → 0 ≤ w x) (hall : 0 < sG w G m) : ∀ x, x < m → 0 ≤ spF sum w G m x := fun x hx => by
  have h := spV_0 (sum := sum) hall
  have h2 := (spI_sum hall (spN sum w G m) (p := spP sum w G m) h.1).2 x hx
  refine Int.le_trans ?_ h2
  unfold spP
  split
  · rename_i z
    exact Int.ediv_nonneg (Int.mul_nonneg hs (hw x hx z)) (by omega)
  · omega
/-- who is no member gets nothing -/
theorem spI_out {m : Nat} {G : Nat → Bool} {all : Int} (hall : 0 < all) : ∀ n {p r : Nat → Int}, spV m G all n r → ∀ x, x < m → G x = false → (spI m n (p, r)).1 x = p x := by
  intro n
  induction n with
  | zero => intro p r _ x _ _; rfl
  | succ n ih =>
    intro p r h x hx hg
    obtain ⟨p1, p2, p3⟩ := spV_pos hall h
    have s := ih (p := fun x => if x = bo r m then p x + 1 else p x) (spV_step hall h) x hx hg
    refine s.trans ?_
    show (if x = bo r m then p x + 1 else p x) = p x
    rw [if_neg (fun e => by rw [e, p2] at hg; exact absurd hg (by decide))]
theorem spF_out {sum : Int} {w : Nat → Int} {G : Nat → Bool} {m : Nat} (hall : 0 < sG w G m) {x : Nat} (hx : x < m) (hg : G x = false) : spF sum w G m x = 0 := by
  have h := spV_0 (sum := sum) hall
  refine (spI_out hall (spN sum w G m) (p := spP sum w G m) h.1 x hx hg).trans ?_
  unfold spP
  rw [if_neg (by rw [hg]; decide)]
