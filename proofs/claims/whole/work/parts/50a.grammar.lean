/-! the grammar as a pure function of tokens -/
abbrev pS : Type := Nat × Int × Int × List (Int × Int)
abbrev pT : Type := (Nat → Int) × (Nat → Int) × (Nat → Int)
def pk (t : pT) (s : pS) : Int := if s.2.1 = 0 then t.1 s.1 else 155
def pfail (t : pT) (w : Int) (s : pS) : pS := if s.2.1 = 0 then (s.1, (if t.1 s.1 = 156 then 1 else w), t.2.1 s.1, s.2.2.2) else s
def padv (s : pS) : pS := (s.1 + 1, s.2)
def pemit (k v : Int) (s : pS) : pS := if s.2.1 = 0 then (s.1, s.2.1, s.2.2.1, s.2.2.2 ++ [(k, v)]) else s
def ppatch (i : Nat) (s : pS) : pS := (s.1, s.2.1, s.2.2.1, s.2.2.2.set i ((s.2.2.2.getD i (0, 0)).1, (s.2.2.2.length : Int)))
def ptake (t : pT) (k : Int) (s : pS) : pS := if pk t s = k then padv s else pfail t 2 s
/-- 0 atom, 1 items behind, 2 item, 3 items of a sum behind, 4 sum, 5 ones behind, 6 one, 7 part, 8 parts behind, 9 test -/
def prs (t : pT) : Nat → Nat → Nat → pS → pS
  | 0, _, _, s => s
  | f + 1, sel, n, s =>
    if sel = 0 then
      (if pk t s = 154 then padv (pemit 154 (t.2.2 s.1) s)
       else if 136 ≤ pk t s ∧ pk t s ≤ 144 then padv (pemit (pk t s) 0 s)
       else if pk t s = 40 then (if 5 ≤ n then pfail t 5 s else ptake t 41 (prs t f 4 (n + 1) (padv s)))
       else pfail t 2 s)
    else if sel = 1 then (if pk t s = 42 ∨ pk t s = 47 ∨ pk t s = 37 then prs t f 1 n (pemit (pk t s) 0 (prs t f 0 n (padv s))) else s)
    else if sel = 2 then prs t f 1 n (prs t f 0 n s)
    else if sel = 3 then (if pk t s = 43 ∨ pk t s = 45 then prs t f 3 n (pemit (pk t s) 0 (prs t f 2 n (padv s))) else s)
    else if sel = 4 then prs t f 3 n (prs t f 2 n s)
    else if sel = 5 then (if pk t s = 151 then prs t f 5 n (ppatch s.2.2.2.length (prs t f 6 n (pemit 151 0 (padv s)))) else s)
    else if sel = 6 then
      (if pk t s = 152 then (if 5 ≤ n then pfail t 5 s else pemit 152 0 (prs t f 6 (n + 1) (padv s)))
       else if pk t s = 91 then (if 5 ≤ n then pfail t 5 s else ptake t 93 (prs t f 9 (n + 1) (padv s)))
       else if pk t (prs t f 4 n s) = 60 ∨ pk t (prs t f 4 n s) = 62 ∨ pk t (prs t f 4 n s) = 61 then pemit (pk t (prs t f 4 n s)) 0 (prs t f 4 n (padv (prs t f 4 n s)))
       else pfail t 2 (prs t f 4 n s))
    else if sel = 7 then prs t f 5 n (prs t f 6 n s)
    else if sel = 8 then (if pk t s = 150 then prs t f 8 n (ppatch s.2.2.2.length (prs t f 7 n (pemit 150 0 (padv s)))) else s)
    else prs t f 8 n (prs t f 7 n s)
theorem prs_0 (t : pT) (f n : Nat) (s : pS) : prs t (f + 1) 0 n s = if pk t s = 154 then padv (pemit 154 (t.2.2 s.1) s) else if 136 ≤ pk t s ∧ pk t s ≤ 144 then padv (pemit (pk t s) 0 s) else if pk t s = 40 then (if 5 ≤ n then pfail t 5 s else ptake t 41 (prs t f 4 (n + 1) (padv s))) else pfail t 2 s := rfl
theorem prs_1 (t : pT) (f n : Nat) (s : pS) : prs t (f + 1) 1 n s = if pk t s = 42 ∨ pk t s = 47 ∨ pk t s = 37 then prs t f 1 n (pemit (pk t s) 0 (prs t f 0 n (padv s))) else s := rfl
theorem prs_2 (t : pT) (f n : Nat) (s : pS) : prs t (f + 1) 2 n s = prs t f 1 n (prs t f 0 n s) := rfl
theorem prs_3 (t : pT) (f n : Nat) (s : pS) : prs t (f + 1) 3 n s = if pk t s = 43 ∨ pk t s = 45 then prs t f 3 n (pemit (pk t s) 0 (prs t f 2 n (padv s))) else s := rfl
theorem prs_4 (t : pT) (f n : Nat) (s : pS) : prs t (f + 1) 4 n s = prs t f 3 n (prs t f 2 n s) := rfl
theorem prs_5 (t : pT) (f n : Nat) (s : pS) : prs t (f + 1) 5 n s = if pk t s = 151 then prs t f 5 n (ppatch s.2.2.2.length (prs t f 6 n (pemit 151 0 (padv s)))) else s := rfl
theorem prs_6 (t : pT) (f n : Nat) (s : pS) : prs t (f + 1) 6 n s = if pk t s = 152 then (if 5 ≤ n then pfail t 5 s else pemit 152 0 (prs t f 6 (n + 1) (padv s))) else if pk t s = 91 then (if 5 ≤ n then pfail t 5 s else ptake t 93 (prs t f 9 (n + 1) (padv s))) else if pk t (prs t f 4 n s) = 60 ∨ pk t (prs t f 4 n s) = 62 ∨ pk t (prs t f 4 n s) = 61 then pemit (pk t (prs t f 4 n s)) 0 (prs t f 4 n (padv (prs t f 4 n s))) else pfail t 2 (prs t f 4 n s) := rfl
theorem prs_7 (t : pT) (f n : Nat) (s : pS) : prs t (f + 1) 7 n s = prs t f 5 n (prs t f 6 n s) := rfl
theorem prs_8 (t : pT) (f n : Nat) (s : pS) : prs t (f + 1) 8 n s = if pk t s = 150 then prs t f 8 n (ppatch s.2.2.2.length (prs t f 7 n (pemit 150 0 (padv s)))) else s := rfl
theorem prs_9 (t : pT) (f n : Nat) (s : pS) : prs t (f + 1) 9 n s = prs t f 8 n (prs t f 7 n s) := rfl
/-- behind a fault nothing changes -/
theorem pk_bad {t : pT} {s : pS} (h : ¬ s.2.1 = 0) : pk t s = 155 := if_neg h
theorem pk_ok {t : pT} {s : pS} (h : s.2.1 = 0) : pk t s = t.1 s.1 := if_pos h
theorem pfail_bad {t : pT} {w : Int} {s : pS} (h : ¬ s.2.1 = 0) : pfail t w s = s := if_neg h
theorem pemit_bad {k v : Int} {s : pS} (h : ¬ s.2.1 = 0) : pemit k v s = s := if_neg h
theorem ptake_bad {t : pT} {k : Int} {s : pS} (hk : ¬ k = 155) (h : ¬ s.2.1 = 0) : ptake t k s = s := by
  unfold ptake
  rw [pk_bad h, if_neg (fun z => hk z.symm), pfail_bad h]
theorem sel10 {p : Nat → Prop} (h0 : p 0) (h1 : p 1) (h2 : p 2) (h3 : p 3) (h4 : p 4) (h5 : p 5) (h6 : p 6) (h7 : p 7) (h8 : p 8) (h9 : p 9) : ∀ sel, sel ≤ 9 → p sel := by
  intro sel h
  have : sel = 0 ∨ sel = 1 ∨ sel = 2 ∨ sel = 3 ∨ sel = 4 ∨ sel = 5 ∨ sel = 6 ∨ sel = 7 ∨ sel = 8 ∨ sel = 9 := by omega
  rcases this with z | z | z | z | z | z | z | z | z | z <;> subst z <;> assumption
theorem prs_bad (t : pT) (f : Nat) : ∀ sel, sel ≤ 9 → ∀ n s, ¬ s.2.1 = 0 → prs t f sel n s = s := by
  induction f with
  | zero => intro sel _ n s _; rfl
  | succ f ih =>
    refine sel10 ?_ ?_ ?_ ?_ ?_ ?_ ?_ ?_ ?_ ?_ <;> intro n s h <;> have hk := pk_bad (t := t) h
    · rw [prs_0, hk, if_neg (by decide), if_neg (by decide), if_neg (by decide), pfail_bad h]
    · rw [prs_1, hk, if_neg (by decide)]
    · rw [prs_2, ih 0 (by decide) n s h, ih 1 (by decide) n s h]
    · rw [prs_3, hk, if_neg (by decide)]
    · rw [prs_4, ih 2 (by decide) n s h, ih 3 (by decide) n s h]
    · rw [prs_5, hk, if_neg (by decide)]
    · rw [prs_6, hk, if_neg (by decide), if_neg (by decide), ih 4 (by decide) n s h, hk, if_neg (by decide), pfail_bad h]
    · rw [prs_7, ih 6 (by decide) n s h, ih 5 (by decide) n s h]
    · rw [prs_8, hk, if_neg (by decide)]
    · rw [prs_9, ih 7 (by decide) n s h, ih 8 (by decide) n s h]
/-- it goes on along the tokens, up to the last one; what was written stays -/
def pG (N : Nat) (s s' : pS) : Prop := s.1 ≤ s'.1 ∧ (s.1 < N → s'.1 < N) ∧ ∃ l, s'.2.2.2 = s.2.2.2 ++ l
def pN (t : pT) (N : Nat) : Prop := ∀ i, N ≤ i + 1 → t.1 i = 155 ∨ t.1 i = 156
theorem pG.rf (N : Nat) (s : pS) : pG N s s := ⟨Nat.le_refl _, fun z => z, [], (List.append_nil _).symm⟩
theorem pG.tr {N : Nat} {s s1 s2 : pS} (h : pG N s s1) (h2 : pG N s1 s2) : pG N s s2 := by
  obtain ⟨a, b, l, c⟩ := h
  obtain ⟨a2, b2, l2, c2⟩ := h2
  exact ⟨by omega, fun z => b2 (b z), l ++ l2, by rw [c2, c, List.append_assoc]⟩
theorem pG.fail {t : pT} {N : Nat} {w : Int} {s : pS} : pG N s (pfail t w s) := by
  unfold pfail
  split
  · exact ⟨Nat.le_refl _, fun z => z, [], (List.append_nil _).symm⟩
  · exact pG.rf N s
theorem pG.emit {N : Nat} {k v : Int} {s : pS} : pG N s (pemit k v s) := by
  unfold pemit
  split
  · exact ⟨Nat.le_refl _, fun z => z, [(k, v)], rfl⟩
  · exact pG.rf N s
theorem pk_n {t : pT} {N : Nat} (hN : pN t N) {s : pS} (hk : ¬ pk t s = 155 ∧ ¬ pk t s = 156) : s.2.1 = 0 ∧ s.1 + 1 < N ∧ pk t s = t.1 s.1 := by
  have h0 : s.2.1 = 0 := by
    refine Decidable.byContradiction (fun z => hk.1 (pk_bad z))
  rw [pk_ok h0] at hk ⊢
  refine ⟨h0, ?_, rfl⟩
  rcases Nat.lt_or_ge (s.1 + 1) N with z | z
  · exact z
  · have := hN s.1 z
    omega
theorem pG.adv {t : pT} {N : Nat} (hN : pN t N) {s : pS} (hk : ¬ pk t s = 155 ∧ ¬ pk t s = 156) : pG N s (padv s) := ⟨Nat.le_succ _, fun _ => (pk_n hN hk).2.1, [], (List.append_nil _).symm⟩
theorem pG.take {t : pT} {N : Nat} (hN : pN t N) {s : pS} {k : Int} (hk : ¬ k = 155 ∧ ¬ k = 156) : pG N s (ptake t k s) := by
  unfold ptake
  split
  · next z => exact pG.adv hN (by rw [z]; exact hk)
  · exact pG.fail
theorem pG.patch {N : Nat} {s s' : pS} (h : pG N s s') {i : Nat} (hi : s.2.2.2.length ≤ i) : pG N s (ppatch i s') := by
  obtain ⟨a, b, l, c⟩ := h
  refine ⟨a, b, l.set (i - s.2.2.2.length) ((s'.2.2.2.getD i (0, 0)).1, (s'.2.2.2.length : Int)), ?_⟩
  show s'.2.2.2.set i _ = _
  rw [c, List.set_append]
  rw [if_neg (by omega)]
theorem pk_emit {t : pT} {s : pS} {k v : Int} : pk t (pemit k v s) = pk t s := by
  unfold pemit
  split
  · next h => rw [pk_ok (s := s) h]; exact pk_ok (by exact h)
  · rfl
theorem prs_G {t : pT} {N : Nat} (hN : pN t N) (f : Nat) : ∀ sel, sel ≤ 9 → ∀ n s, pG N s (prs t f sel n s) := by
  induction f with
  | zero => intro sel _ n s; exact pG.rf N s
  | succ f ih =>
    refine sel10 ?_ ?_ ?_ ?_ ?_ ?_ ?_ ?_ ?_ ?_ <;> intro n s
    · rw [prs_0]
      split
      · next z => exact (pG.emit (N := N)).tr (pG.adv hN (by rw [pk_emit]; omega))
      · split
        · next z => exact (pG.emit (N := N)).tr (pG.adv hN (by rw [pk_emit]; omega))
        · split
          · next z =>
            split
            · exact pG.fail
            · exact ((pG.adv hN (by omega)).tr (ih _ (by decide) _ _)).tr (pG.take hN (by decide))
          · exact pG.fail
    · rw [prs_1]
      split
      · next z => exact (((pG.adv hN (by omega)).tr (ih _ (by decide) _ _)).tr pG.emit).tr (ih _ (by decide) _ _)
      · exact pG.rf N s
    · rw [prs_2]; exact (ih _ (by decide) _ _).tr (ih _ (by decide) _ _)
    · rw [prs_3]
      split
      · next z => exact (((pG.adv hN (by omega)).tr (ih _ (by decide) _ _)).tr pG.emit).tr (ih _ (by decide) _ _)
      · exact pG.rf N s
    · rw [prs_4]; exact (ih _ (by decide) _ _).tr (ih _ (by decide) _ _)
    · rw [prs_5]
      split
      · next z =>
        refine pG.tr ?_ (ih _ (by decide) _ _)
        exact pG.patch (((pG.adv hN (by omega)).tr pG.emit).tr (ih _ (by decide) _ _)) (Nat.le_refl _)
      · exact pG.rf N s
    · rw [prs_6]
      split
      · next z =>
        split
        · exact pG.fail
        · exact ((pG.adv hN (by omega)).tr (ih _ (by decide) _ _)).tr pG.emit
      · split
        · next z =>
          split
          · exact pG.fail
          · exact ((pG.adv hN (by omega)).tr (ih _ (by decide) _ _)).tr (pG.take hN (by decide))
        · split
          · next z => exact (((ih _ (by decide) _ _).tr (pG.adv hN (by omega))).tr (ih _ (by decide) _ _)).tr pG.emit
          · exact (ih _ (by decide) _ _).tr pG.fail
    · rw [prs_7]; exact (ih _ (by decide) _ _).tr (ih _ (by decide) _ _)
    · rw [prs_8]
      split
      · next z =>
        refine pG.tr ?_ (ih _ (by decide) _ _)
        exact pG.patch (((pG.adv hN (by omega)).tr pG.emit).tr (ih _ (by decide) _ _)) (Nat.le_refl _)
      · exact pG.rf N s
    · rw [prs_9]; exact (ih _ (by decide) _ _).tr (ih _ (by decide) _ _)
