/-! steps are well formed: how high the stack is, and where truths lie -/
def TyR (l : List (Int × Int)) (ty : Nat → List Bool) (c i : Nat) : Prop :=
  ((((l.getD i (0, 0)).1 = 154 ∧ 0 ≤ (l.getD i (0, 0)).2 ∧ (l.getD i (0, 0)).2 ≤ 999999) ∨ (136 ≤ (l.getD i (0, 0)).1 ∧ (l.getD i (0, 0)).1 ≤ 144)) ∧ ty (i + 1) = ty i ++ [false])
  ∨ ((l.getD i (0, 0)).1 = 152 ∧ ∃ r, ty i = r ++ [true] ∧ ty (i + 1) = r ++ [true])
  ∨ (((l.getD i (0, 0)).1 = 150 ∨ (l.getD i (0, 0)).1 = 151) ∧ ∃ (r : List Bool) (v : Nat), ty i = r ++ [true] ∧ ty (i + 1) = r ∧ (l.getD i (0, 0)).2 = v ∧ i < v ∧ v ≤ c ∧ ty v = r ++ [true])
  ∨ (((l.getD i (0, 0)).1 = 42 ∨ (l.getD i (0, 0)).1 = 47 ∨ (l.getD i (0, 0)).1 = 37 ∨ (l.getD i (0, 0)).1 = 43 ∨ (l.getD i (0, 0)).1 = 45) ∧ ∃ (r : List Bool) (a b : Bool), ty i = r ++ [a, b] ∧ ty (i + 1) = r ++ [false])
  ∨ (((l.getD i (0, 0)).1 = 60 ∨ (l.getD i (0, 0)).1 = 62 ∨ (l.getD i (0, 0)).1 = 61) ∧ ∃ (r : List Bool) (a b : Bool), ty i = r ++ [a, b] ∧ ty (i + 1) = r ++ [true])
def Reg (l : List (Int × Int)) (a c : Nat) (r0 r1 : List Bool) (H : Nat) : Prop := a ≤ c ∧ ∃ ty : Nat → List Bool, ty a = r0 ∧ ty c = r1 ∧ (∀ i, a ≤ i → i < c → TyR l ty c i) ∧ ∀ i, a ≤ i → i ≤ c → (ty i).length ≤ H
theorem Reg.nil {l : List (Int × Int)} {a : Nat} {r : List Bool} {H : Nat} (h : r.length ≤ H) : Reg l a a r r H := ⟨Nat.le_refl _, fun _ => r, rfl, rfl, fun i h1 h2 => by omega, fun i _ _ => h⟩
theorem Reg.wk {l : List (Int × Int)} {a c : Nat} {r0 r1 : List Bool} {H H' : Nat} (h : Reg l a c r0 r1 H) (hH : H ≤ H') : Reg l a c r0 r1 H' := by
  obtain ⟨h0, ty, h1, h2, h3, h4⟩ := h
  exact ⟨h0, ty, h1, h2, h3, fun i a b => Nat.le_trans (h4 i a b) hH⟩
theorem TyR.cg {l l' : List (Int × Int)} {ty ty' : Nat → List Bool} {c c' i : Nat} (h : TyR l ty c i) (hl : l'.getD i (0, 0) = l.getD i (0, 0)) (hc : c ≤ c') (hty : ∀ j, i ≤ j → j ≤ c → ty' j = ty j) (hi : i < c) : TyR l' ty' c' i := by
  unfold TyR at h ⊢
  rw [hl, hty i (Nat.le_refl _) (by omega), hty (i + 1) (by omega) (by omega)]
  rcases h with h | h | ⟨h, r, v, h1, h2, h3, h4, h5, h6⟩ | h | h
  · exact Or.inl h
  · exact Or.inr (Or.inl h)
  · exact Or.inr (Or.inr (Or.inl ⟨h, r, v, h1, h2, h3, h4, by omega, by rw [hty v (by omega) h5]; exact h6⟩))
  · exact Or.inr (Or.inr (Or.inr (Or.inl h)))
  · exact Or.inr (Or.inr (Or.inr (Or.inr h)))
theorem Reg.ext {l l' : List (Int × Int)} {a c : Nat} {r0 r1 : List Bool} {H : Nat} (h : Reg l a c r0 r1 H) (hl : ∀ i, a ≤ i → i < c → l'.getD i (0, 0) = l.getD i (0, 0)) : Reg l' a c r0 r1 H := by
  obtain ⟨h0, ty, h1, h2, h3, h4⟩ := h
  exact ⟨h0, ty, h1, h2, fun i a b => (h3 i a b).cg (hl i a b) (Nat.le_refl _) (fun _ _ _ => rfl) b, h4⟩
theorem Reg.app {l : List (Int × Int)} {a b c : Nat} {r0 r1 r2 : List Bool} {H : Nat} (h : Reg l a b r0 r1 H) (h' : Reg l b c r1 r2 H) : Reg l a c r0 r2 H := by
  obtain ⟨h0, ty, h1, h2, h3, h4⟩ := h
  obtain ⟨g0, uy, g1, g2, g3, g4⟩ := h'
  refine ⟨by omega, fun i => if i < b then ty i else uy i, ?_, ?_, fun i p q => ?_, fun i p q => ?_⟩
  · show (if a < b then ty a else uy a) = r0
    split
    · exact h1
    · have : a = b := by omega
      subst this; rw [g1, ← h2, h1]
  · show (if c < b then ty c else uy c) = r2
    rw [if_neg (by omega)]; exact g2
  · rcases Nat.lt_or_ge i b with z | z
    · refine (h3 i p z).cg rfl g0 (fun j j1 j2 => ?_) z
      show (if j < b then ty j else uy j) = ty j
      split
      · rfl
      · have : j = b := by omega
        subst this; rw [g1, h2]
    · refine (g3 i z q).cg rfl (Nat.le_refl _) (fun j j1 j2 => ?_) q
      show (if j < b then ty j else uy j) = uy j
      rw [if_neg (by omega)]
  · show (if i < b then ty i else uy i).length ≤ H
    split
    · exact h4 i p (by omega)
    · exact g4 i (by omega) q
theorem Reg.one {l : List (Int × Int)} {i : Nat} {r0 r1 : List Bool} {H : Nat} (h0 : r0.length ≤ H) (h1 : r1.length ≤ H) (h : TyR l (fun j => if j ≤ i then r0 else r1) (i + 1) i) : Reg l i (i + 1) r0 r1 H := by
  refine ⟨by omega, fun j => if j ≤ i then r0 else r1, if_pos (Nat.le_refl _), if_neg (by omega), fun j a b => ?_, fun j _ _ => ?_⟩
  · have : j = i := by omega
    subst this; exact h
  · show (if j ≤ i then r0 else r1).length ≤ H
    split
    · exact h0
    · exact h1
theorem Reg.push {l : List (Int × Int)} {i : Nat} {r : List Bool} {H : Nat} (hH : r.length + 1 ≤ H) (h : ((l.getD i (0, 0)).1 = 154 ∧ 0 ≤ (l.getD i (0, 0)).2 ∧ (l.getD i (0, 0)).2 ≤ 999999) ∨ (136 ≤ (l.getD i (0, 0)).1 ∧ (l.getD i (0, 0)).1 ≤ 144)) : Reg l i (i + 1) r (r ++ [false]) H := by
  refine Reg.one (by omega) (by rw [List.length_append]; exact hH) (Or.inl ⟨h, ?_⟩)
  dsimp only
  rw [if_neg (by omega), if_pos (Nat.le_refl _)]
theorem Reg.bin {l : List (Int × Int)} {i : Nat} {r : List Bool} {a b : Bool} {H : Nat} (hH : r.length + 2 ≤ H) (h : (l.getD i (0, 0)).1 = 42 ∨ (l.getD i (0, 0)).1 = 47 ∨ (l.getD i (0, 0)).1 = 37 ∨ (l.getD i (0, 0)).1 = 43 ∨ (l.getD i (0, 0)).1 = 45) : Reg l i (i + 1) (r ++ [a, b]) (r ++ [false]) H := by
  refine Reg.one (by rw [List.length_append]; exact hH) (by rw [List.length_append]; show r.length + 1 ≤ H; omega) (Or.inr (Or.inr (Or.inr (Or.inl ⟨h, r, a, b, ?_, ?_⟩))))
  · exact if_pos (Nat.le_refl _)
  · exact if_neg (by omega)
theorem Reg.cmp {l : List (Int × Int)} {i : Nat} {r : List Bool} {a b : Bool} {H : Nat} (hH : r.length + 2 ≤ H) (h : (l.getD i (0, 0)).1 = 60 ∨ (l.getD i (0, 0)).1 = 62 ∨ (l.getD i (0, 0)).1 = 61) : Reg l i (i + 1) (r ++ [a, b]) (r ++ [true]) H := by
  refine Reg.one (by rw [List.length_append]; exact hH) (by rw [List.length_append]; show r.length + 1 ≤ H; omega) (Or.inr (Or.inr (Or.inr (Or.inr ⟨h, r, a, b, ?_, ?_⟩))))
  · exact if_pos (Nat.le_refl _)
  · exact if_neg (by omega)
theorem Reg.nt {l : List (Int × Int)} {i : Nat} {r : List Bool} {H : Nat} (hH : r.length + 1 ≤ H) (h : (l.getD i (0, 0)).1 = 152) : Reg l i (i + 1) (r ++ [true]) (r ++ [true]) H := by
  refine Reg.one (by rw [List.length_append]; exact hH) (by rw [List.length_append]; exact hH) (Or.inr (Or.inl ⟨h, r, ?_, ?_⟩))
  · exact if_pos (Nat.le_refl _)
  · exact if_neg (by omega)
theorem Reg.gate {l : List (Int × Int)} {i c : Nat} {r : List Bool} {H : Nat} (hH : r.length + 1 ≤ H) (h : Reg l (i + 1) c r (r ++ [true]) H) (hk : (l.getD i (0, 0)).1 = 150 ∨ (l.getD i (0, 0)).1 = 151) (hv : (l.getD i (0, 0)).2 = (c : Int)) : Reg l i c (r ++ [true]) (r ++ [true]) H := by
  obtain ⟨h0, ty, h1, h2, h3, h4⟩ := h
  refine ⟨by omega, fun j => if j ≤ i then r ++ [true] else ty j, if_pos (Nat.le_refl _), ?_, fun j a b => ?_, fun j a b => ?_⟩
  · show (if c ≤ i then r ++ [true] else ty c) = _
    rw [if_neg (by omega)]; exact h2
  · by_cases z : j = i
    · subst z
      refine Or.inr (Or.inr (Or.inl ⟨hk, r, c, if_pos (Nat.le_refl _), ?_, hv, by omega, Nat.le_refl _, ?_⟩))
      · show (if j + 1 ≤ j then r ++ [true] else ty (j + 1)) = r
        rw [if_neg (by omega)]; exact h1
      · show (if c ≤ j then r ++ [true] else ty c) = _
        rw [if_neg (by omega)]; exact h2
    · refine (h3 j (by omega) b).cg rfl (Nat.le_refl _) (fun q q1 q2 => ?_) b
      show (if q ≤ i then r ++ [true] else ty q) = ty q
      rw [if_neg (by omega)]
  · show (if j ≤ i then r ++ [true] else ty j).length ≤ H
    split
    · rw [List.length_append]; exact hH
    · exact h4 j (by omega) b
/-- lists that begin alike -/
theorem pG.gd {N : Nat} {s s' : pS} (h : pG N s s') {i : Nat} (hi : i < s.2.2.2.length) : s'.2.2.2.getD i (0, 0) = s.2.2.2.getD i (0, 0) := by
  obtain ⟨-, -, l, e⟩ := h
  rw [e, List.getD_eq_getElem?_getD, List.getD_eq_getElem?_getD, List.getElem?_append_left hi]
theorem pG.ln {N : Nat} {s s' : pS} (h : pG N s s') : s.2.2.2.length ≤ s'.2.2.2.length := by
  obtain ⟨-, -, l, e⟩ := h
  rw [e, List.length_append]; omega
theorem emit_gd {k v : Int} {s : pS} (h : s.2.1 = 0) : (pemit k v s).2.2.2.length = s.2.2.2.length + 1 ∧ (pemit k v s).2.2.2.getD s.2.2.2.length (0, 0) = (k, v) := by
  have e := (len_emit (k := k) (v := v) h).1
  rw [e]
  refine ⟨by rw [List.length_append]; rfl, ?_⟩
  rw [List.getD_eq_getElem?_getD, List.getElem?_append_right (Nat.le_refl _), Nat.sub_self]; rfl
