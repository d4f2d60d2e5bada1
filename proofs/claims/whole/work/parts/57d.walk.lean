/-! places of the class's walk -/
theorem flC_pre {o : Nat → Int} {P : Nat → Bool} {k : Nat} : ∀ n, k ≤ n → ∃ R, flC o P n = flC o P k ++ R := by
  intro n
  induction n with
  | zero => intro h; exact ⟨[], by rw [show k = 0 by omega]; rfl⟩
  | succ n ih =>
    intro h
    by_cases z : k = n + 1
    · subst z; exact ⟨[], (List.append_nil _).symm⟩
    · obtain ⟨R, e⟩ := ih (by omega)
      by_cases y : P (o n).toNat = true
      · refine ⟨R ++ [(o n).toNat], ?_⟩
        rw [← List.append_assoc, ← e]
        show (if P (o n).toNat = true then _ else _) = _
        rw [if_pos y]
      · refine ⟨R, ?_⟩
        rw [← e]
        show (if P (o n).toNat = true then _ else _) = _
        rw [if_neg y]
def plC (o : Nat → Int) (P : Nat → Bool) (sz : Nat → Nat) (k : Nat) : Nat := (flat sz (flC o P k)).length
theorem plC_s {o : Nat → Int} {P : Nat → Bool} {sz : Nat → Nat} {k : Nat} : plC o P sz (k + 1) = if P (o k).toNat = true then plC o P sz k + sz (o k).toNat else plC o P sz k := by
  unfold plC
  show (flat sz (if P (o k).toNat = true then flC o P k ++ [(o k).toNat] else flC o P k)).length = _
  split
  · rw [flat_app, flat_one, List.length_append, List.length_map, List.length_range]
  · rfl
theorem plC_le {o : Nat → Int} {P : Nat → Bool} {sz : Nat → Nat} {k n : Nat} (h : k ≤ n) : plC o P sz k ≤ plC o P sz n := by
  obtain ⟨R, e⟩ := flC_pre (o := o) (P := P) n h
  unfold plC
  rw [e, flat_app, List.length_append]; omega
theorem plC_at {o : Nat → Int} {P : Nat → Bool} {sz : Nat → Nat} {k n j : Nat} (h : k < n) (hP : P (o k).toNat = true) (hj : j < sz (o k).toNat) : (flat sz (flC o P n)).getD (plC o P sz k + j) (0, 0) = ((o k).toNat, j) := by
  obtain ⟨R, e⟩ := flC_pre (o := o) (P := P) (k := k + 1) n h
  have e2 : flC o P (k + 1) = flC o P k ++ [(o k).toNat] := by
    show (if P (o k).toNat = true then _ else _) = _
    rw [if_pos hP]
  rw [e, e2, flat_app, flat_app, flat_one, List.append_assoc]
  unfold plC
  rw [getD_ar, getD_al (by rw [List.length_map, List.length_range]; exact hj)]
  rw [List.getD_eq_getElem?_getD, List.getElem?_map, List.getElem?_range hj]
  rfl
/-- the contents by place -/
def cnF (al : Nat → List pA) (F : List (Nat × Nat)) (p : Nat) : pA := (al (F.getD p (0, 0)).1).getD (F.getD p (0, 0)).2 (0, 0, 0, [], [])
def stP (g : mz_S) (town : Nat) (day : Int) (t : Nat) : Bool := zb (g 41 t) town && decide (g 42 t ≤ day)
theorem sX3_stands {T : Nat × (Nat → Int32)} {d : Nat} {Q : mz_K} {X : mz_X} {g : mz_S} {t town : Nat} {day : Int} (ht : t < 6) (h42 : 0 ≤ g 42 t ∧ g 42 t ≤ 999) (hw : town < 32) (hd : 0 ≤ day ∧ day ≤ 999) (k : Q (pI (stP g town day t = true)) g) : zC T (d + 2) 39 [mx_R 39, mx_I (t : Int), mx_I (town : Int), mx_I day] g Q X := by
  have iff : stP g town day t = true ↔ zb (g 41 t) town = true ∧ g 42 t ≤ day := by unfold stP; simp
  refine zX3_stands ?_
  refine s_inN ?_ (fun ea => ?_)
  · omega
  try simp only [ea]
  clear ea
  refine sX11_holds hw ?_
  first | with_reducible refine b_eq (fun z => ?_) (fun z => ?_) | with_reducible refine b_ne (fun z => ?_) (fun z => ?_)
  · rw [pI_f (fun y => z (iff.mp y).1)] at k
    exact zX3_stands_27 (zX3_stands_28 ⟨by decide, k⟩)
  · refine s_inN ?_ (fun ea => ?_)
    · omega
    try simp only [ea]
    clear ea
    first | with_reducible refine c_lt ?_ ?_ (fun z2 => ?_) (fun z2 => ?_) | with_reducible refine c_le ?_ ?_ (fun z2 => ?_) (fun z2 => ?_) | with_reducible refine c_eq ?_ ?_ (fun z2 => ?_) (fun z2 => ?_) | with_reducible refine c_ne ?_ ?_ (fun z2 => ?_) (fun z2 => ?_)
    · omega
    · omega
    · rw [pI_f (fun y => by have := (iff.mp y).2; omega)] at k
      exact zX3_stands_27 (zX3_stands_28 ⟨by decide, k⟩)
    · rw [pI_t (iff.mpr ⟨z, by omega⟩)] at k
      exact zX3_stands_28 ⟨by decide, k⟩
/-- how many are void -/
def cntV (cn : Nat → pA) (M : Nat) (b : Bool) : Nat → Nat
  | 0 => 0
  | p + 1 => cntV cn M b p + (if b = false ∨ vd cn M p then 1 else 0)
