/-! the reference's tokens -/
def tcl (k : Int) : Int := if k = 155 then 0 else if 128 ≤ k ∧ k ≤ 153 then 1 else if k = 154 then 2 else if k = 156 then 4 else 3
theorem tcl_rng (k : Int) : 0 ≤ tcl k ∧ tcl k ≤ 4 := by
  unfold tcl
  split
  · omega
  · split
    · omega
    · split
      · omega
      · split <;> omega
theorem tcl_1 {k : Int} (h : tcl k = 1) : 128 ≤ k ∧ k ≤ 153 := by
  unfold tcl at h
  split at h
  · omega
  · split at h
    · assumption
    · split at h
      · omega
      · split at h <;> omega
theorem tcl_sg {k : Int} (h : cSg k = true) : tcl k = 3 := by
  have := cSg_rng h
  unfold tcl
  rw [if_neg (by omega), if_neg (by omega), if_neg (by omega), if_neg (by omega)]
theorem tcl_c (k : Int) : (tcl k = 0 ↔ k = 155) ∧ (tcl k = 1 ↔ 128 ≤ k ∧ k ≤ 153) ∧ (tcl k = 2 ↔ k = 154) ∧ (tcl k = 4 ↔ k = 156) := by
  unfold tcl
  by_cases h1 : k = 155
  · rw [if_pos h1]; omega
  · rw [if_neg h1]
    by_cases h2 : 128 ≤ k ∧ k ≤ 153
    · rw [if_pos h2]; omega
    · rw [if_neg h2]
      by_cases h3 : k = 154
      · rw [if_pos h3]; omega
      · rw [if_neg h3]
        by_cases h4 : k = 156
        · rw [if_pos h4]; omega
        · rw [if_neg h4]; omega
/-- place and end, the token's sort, its value; bytes are bytes; a word's kind is by its letters -/
def TokR (g : mz_S) (x : Int × Nat × Nat × Int) : Prop := g 99 29 = (x.2.1 : Int) ∧ g 99 28 = (x.2.2.1 : Int) ∧ g 99 30 = tcl x.1 ∧ ((x.1 = 154 → g 99 31 = x.2.2.2) ∧ (tcl x.1 = 3 → g 99 31 = x.1 ∧ 0 ≤ x.1 ∧ x.1 ≤ 127)) ∧ (∀ i, i < 400 → 0 ≤ g 119 i ∧ g 119 i ≤ 255) ∧ (128 ≤ x.1 ∧ x.1 ≤ 153 → x.1 = wkL (g 119) x.2.1 x.2.2.1 wds 128 ∧ x.2.1 < x.2.2.1 ∧ x.2.2.1 ≤ 400)
theorem wdE_one {b : Nat → Int} {q e : Nat} {w w' : List Int} (h : wdE b q e w = true) (h' : wdE b q e w' = true) : w = w' := by
  rw [wdE_iff] at h h'
  refine List.ext_getElem (by omega) (fun i h1 h2 => ?_)
  have a := h.2 i h1
  have c := h'.2 i h2
  rw [a] at c
  rw [List.getD_eq_getElem?_getD, List.getD_eq_getElem?_getD, List.getElem?_eq_getElem h1, List.getElem?_eq_getElem h2] at c
  exact c
theorem wkL_ge {b : Nat → Int} {q e : Nat} : ∀ (ws : List (List Int)) (k : Int), k + ws.length ≤ 153 → k ≤ wkL b q e ws k := by
  intro ws
  induction ws with
  | nil => intro k h; show k ≤ 153; have : ([] : List (List Int)).length = 0 := rfl; omega
  | cons w r ih =>
    intro k h
    rw [List.length_cons] at h
    show k ≤ (if wdE b q e w = true then k else wkL b q e r (k + 1))
    split
    · omega
    · have := ih (k + 1) (by omega); omega
theorem wkL_iff {b : Nat → Int} {q e : Nat} : ∀ (ws : List (List Int)) (k : Int) (j : Nat), j < ws.length → ws.Nodup → k + ws.length ≤ 153 → (wkL b q e ws k = k + j ↔ wdE b q e (ws.getD j []) = true) := by
  intro ws
  induction ws with
  | nil => intro k j h; exact absurd h (Nat.not_lt_zero _)
  | cons w r ih =>
    intro k j hj hn hk
    rw [List.length_cons] at hj hk
    have hn' := List.nodup_cons.mp hn
    show (if wdE b q e w = true then k else wkL b q e r (k + 1)) = k + j ↔ _
    cases j with
    | zero =>
      show _ ↔ wdE b q e w = true
      split
      · next z => exact ⟨fun _ => z, fun _ => by omega⟩
      · next z =>
        have := wkL_ge (b := b) (q := q) (e := e) r (k + 1) (by omega)
        exact ⟨fun y => by omega, fun y => absurd y z⟩
    | succ j =>
      have eg : (w :: r).getD (j + 1) [] = r.getD j [] := rfl
      rw [eg]
      split
      · next z =>
        refine ⟨fun y => by omega, fun y => ?_⟩
        have e1 := wdE_one z y
        refine absurd ?_ hn'.1
        rw [e1, List.getD_eq_getElem?_getD, List.getElem?_eq_getElem (by omega)]
        exact List.getElem_mem _
      · rw [← ih (k + 1) j (by omega) hn'.2 (by omega)]
        omega
theorem sX12_isLetter {T : Nat × (Nat → Int32)} {d : Nat} {Q : mz_K} {X : mz_X} {g : mz_S} {x : Int} (hx : R32 x) (k : Q (pI (97 ≤ x ∧ x ≤ 122)) g) : zC T (d + 1) 242 [mx_I x] g Q X := by
  refine zX12_isLetter ?_
  first | with_reducible refine c_lt ?_ ?_ (fun h => ?_) (fun h => ?_) | with_reducible refine c_le ?_ ?_ (fun h => ?_) (fun h => ?_) | with_reducible refine c_eq ?_ ?_ (fun h => ?_) (fun h => ?_) | with_reducible refine c_ne ?_ ?_ (fun h => ?_) (fun h => ?_)
  · omega
  · omega
  · refine zX12_isLetter_16 (zX12_isLetter_17 ⟨zb0, ?_⟩)
    rw [pI_f (by omega)] at k; exact k
  · first | with_reducible refine c_lt ?_ ?_ (fun h2 => ?_) (fun h2 => ?_) | with_reducible refine c_le ?_ ?_ (fun h2 => ?_) (fun h2 => ?_) | with_reducible refine c_eq ?_ ?_ (fun h2 => ?_) (fun h2 => ?_) | with_reducible refine c_ne ?_ ?_ (fun h2 => ?_) (fun h2 => ?_)
    · omega
    · omega
    · refine zX12_isLetter_16 (zX12_isLetter_17 ⟨zb0, ?_⟩)
      rw [pI_f (by omega)] at k; exact k
    · refine zX12_isLetter_17 ⟨zb1, ?_⟩
      rw [pI_t (by omega)] at k; exact k
theorem sX12_isDigit {T : Nat × (Nat → Int32)} {d : Nat} {Q : mz_K} {X : mz_X} {g : mz_S} {x : Int} (hx : R32 x) (k : Q (pI (48 ≤ x ∧ x ≤ 57)) g) : zC T (d + 1) 243 [mx_I x] g Q X := by
  refine zX12_isDigit ?_
  first | with_reducible refine c_lt ?_ ?_ (fun h => ?_) (fun h => ?_) | with_reducible refine c_le ?_ ?_ (fun h => ?_) (fun h => ?_) | with_reducible refine c_eq ?_ ?_ (fun h => ?_) (fun h => ?_) | with_reducible refine c_ne ?_ ?_ (fun h => ?_) (fun h => ?_)
  · omega
  · omega
  · refine zX12_isDigit_16 (zX12_isDigit_17 ⟨zb0, ?_⟩)
    rw [pI_f (by omega)] at k; exact k
  · first | with_reducible refine c_lt ?_ ?_ (fun h2 => ?_) (fun h2 => ?_) | with_reducible refine c_le ?_ ?_ (fun h2 => ?_) (fun h2 => ?_) | with_reducible refine c_eq ?_ ?_ (fun h2 => ?_) (fun h2 => ?_) | with_reducible refine c_ne ?_ ?_ (fun h2 => ?_) (fun h2 => ?_)
    · omega
    · omega
    · refine zX12_isDigit_16 (zX12_isDigit_17 ⟨zb0, ?_⟩)
      rw [pI_f (by omega)] at k; exact k
    · refine zX12_isDigit_17 ⟨zb1, ?_⟩
      rw [pI_t (by omega)] at k; exact k
theorem cSg_iff {x : Int} : cSg x = true ↔ (x = 59 ∨ x = 58 ∨ x = 60 ∨ x = 62 ∨ x = 61 ∨ x = 43 ∨ x = 45 ∨ x = 42 ∨ x = 47 ∨ x = 37 ∨ x = 40 ∨ x = 41 ∨ x = 91 ∨ x = 93) := by
  unfold cSg
  simp only [List.contains_iff_mem, List.mem_cons, List.not_mem_nil, or_false]
theorem sX12_isMark {T : Nat × (Nat → Int32)} {d : Nat} {Q : mz_K} {X : mz_X} {g : mz_S} {x : Int} (hx : R32 x) (k : Q (pI (cSg x = true)) g) : zC T (d + 1) 244 [mx_I x] g Q X := by
  have yes : cSg x = true → aX12_isMark T d Q X 84 [some (mx_I x)] [] g (0, 0) := by
    intro z
    rw [pI_t z] at k
    exact zX12_isMark_84 (zX12_isMark_89 ⟨zb1, k⟩)
  rw [cSg_iff] at yes
  refine zX12_isMark ?_
  repeat' first
    | exact yes (by omega)
    | with_reducible refine c_eq (by omega) (by omega) (fun _ => ?_) (fun _ => ?_)
    | with_reducible refine c_ne (by omega) (by omega) (fun _ => ?_) (fun _ => ?_)
  refine zX12_isMark_89 ⟨zb0, ?_⟩
  rw [pI_f (by rw [cSg_iff]; omega)] at k
  exact k
theorem sX12_see {T : Nat × (Nat → Int32)} {d : Nat} {Q : mz_K} {X : mz_X} {g : mz_S} {i n : Nat} (hn : g 99 27 = n) (hi : i ≤ 400) (hn4 : n ≤ 400) (k : Q (if i < n then g 119 i else 0) g) : zC T (d + 1) 241 [mx_R 99, mx_I (i : Int)] g Q X := by
  refine zX12_see ?_
  rw [hn]
  first | with_reducible refine c_lt ?_ ?_ (fun z => ?_) (fun z => ?_) | with_reducible refine c_le ?_ ?_ (fun z => ?_) (fun z => ?_) | with_reducible refine c_eq ?_ ?_ (fun z => ?_) (fun z => ?_) | with_reducible refine c_ne ?_ ?_ (fun z => ?_) (fun z => ?_)
  · omega
  · omega
  · rw [if_neg (by omega)] at k
    exact zX12_see_18 k
  · rw [if_pos (by omega)] at k
    refine s_inN ?_ (fun ea => ?_)
    · omega
    try simp only [ea]
    clear ea
    exact zX12_see_18 k
