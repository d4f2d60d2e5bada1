/-! what the grammar writes is well formed -/
def hbT (sel n : Nat) : Nat := (if sel = 0 then 11 else if sel ≤ 2 then 12 else if sel ≤ 4 then 13 else 14) - 2 * n
def isLp (sel : Nat) : Bool := decide (sel = 1 ∨ sel = 3 ∨ sel = 5 ∨ sel = 8)
def SW (t : pT) (N f : Nat) : Prop := ∀ sel, sel ≤ 9 → ∀ (n : Nat) (s : pS) (r : List Bool), n ≤ 5 → pM N s + sel < f → s.2.1 = 0 → (prs t f sel n s).2.1 = 0 → Reg (prs t f sel n s).2.2.2 s.2.2.2.length (prs t f sel n s).2.2.2.length (if isLp sel = true then r ++ [decide (5 ≤ sel)] else r) (r ++ [decide (5 ≤ sel)]) (r.length + hbT sel n)
theorem ft_take {t : pT} {k : Int} {s : pS} (hk : ¬ k = 155) (h : (ptake t k s).2.1 = 0) : s.2.1 = 0 := Decidable.byContradiction (fun z => by rw [ptake_bad hk z] at h; exact z h)
theorem SW_all {t : pT} {N : Nat} (hN : pN t N) (hV : ∀ i, 0 ≤ t.2.2 i ∧ t.2.2 i ≤ 999999) (f : Nat) : SW t N f := by
  induction f with
  | zero => intro sel _ n s r _ h; omega
  | succ f ih =>
    have G := fun sel (h : sel ≤ 9) n s => prs_G hN f sel h n s
    -- two pieces, one behind the other
    have glue : ∀ {s1 s2 : pS} {a : Nat} {r0 r1 r2 : List Bool} {H : Nat}, pG N s1 s2 → Reg s1.2.2.2 a s1.2.2.2.length r0 r1 H → Reg s2.2.2.2 s1.2.2.2.length s2.2.2.2.length r1 r2 H → Reg s2.2.2.2 a s2.2.2.2.length r0 r2 H := by
      intro s1 s2 a r0 r1 r2 H g h1 h2
      exact (h1.ext (fun i _ hi => g.gd hi)).app h2
    have emitS : ∀ {k v : Int} {s1 : pS} {a : Nat} {r0 r1 r2 : List Bool} {H : Nat}, s1.2.1 = 0 → Reg s1.2.2.2 a s1.2.2.2.length r0 r1 H → (∀ l : List (Int × Int), l.getD s1.2.2.2.length (0, 0) = (k, v) → Reg l s1.2.2.2.length (s1.2.2.2.length + 1) r1 r2 H) → Reg (pemit k v s1).2.2.2 a (pemit k v s1).2.2.2.length r0 r2 H := by
      intro k v s1 a r0 r1 r2 H h0 h1 h2
      have e := emit_gd (k := k) (v := v) h0
      refine glue (pG.emit (N := N)) h1 ?_
      rw [e.1]
      exact h2 _ e.2
    have dec : ∀ (n : Nat), n ≤ 5 → hbT 0 n = 11 - 2 * n ∧ hbT 1 n = 12 - 2 * n ∧ hbT 2 n = 12 - 2 * n ∧ hbT 3 n = 13 - 2 * n ∧ hbT 4 n = 13 - 2 * n ∧ hbT 5 n = 14 - 2 * n ∧ hbT 6 n = 14 - 2 * n ∧ hbT 7 n = 14 - 2 * n ∧ hbT 8 n = 14 - 2 * n ∧ hbT 9 n = 14 - 2 * n := fun n _ => ⟨rfl, rfl, rfl, rfl, rfl, rfl, rfl, rfl, rfl, rfl⟩
    refine sel10 ?_ ?_ ?_ ?_ ?_ ?_ ?_ ?_ ?_ ?_ <;> intro n s r hn hM hs hs'
    · -- atom
      have hb := dec n hn
      rw [prs_0] at hs' ⊢
      show Reg _ _ _ r (r ++ [false]) _
      split
      · next z =>
        refine emitS hs (Reg.nil (by omega)) (fun l hl => Reg.push (by omega) (Or.inl (by rw [hl]; exact ⟨rfl, hV s.1⟩)))
      · next z =>
        rw [if_neg z] at hs'
        split
        · next z2 => exact emitS hs (Reg.nil (by omega)) (fun l hl => Reg.push (by omega) (Or.inr (by rw [hl]; exact z2)))
        · next z2 =>
          rw [if_neg z2] at hs'
          split
          · next z3 =>
            rw [if_pos z3] at hs'
            split
            · next z4 => rw [if_pos z4] at hs'; exact absurd hs' (ft_fail (by decide))
            · next z4 =>
              rw [if_neg z4] at hs'
              have hs1 := ft_take (by decide) hs'
              have m := pM_adv hN (s := s) (by omega)
              have q := ih 4 (by decide) (n + 1) (padv s) r (by omega) (by omega) hs hs1
              rw [pr_take]
              have hb1 := (dec (n + 1) (by omega)).2.2.2.2.1
              exact Reg.wk q (by omega)
          · next z3 => rw [if_neg z3] at hs'; exact absurd hs' (ft_fail (by decide))
    · -- items behind
      have hb := dec n hn
      rw [prs_1] at hs' ⊢
      show Reg _ _ _ (r ++ [false]) (r ++ [false]) _
      split
      · next z =>
        rw [if_pos z] at hs'
        have m := pM_adv hN (s := s) (by omega)
        have e2 := ft_prs (by decide) hs'
        have e1 : (prs t f 0 n (padv s)).2.1 = 0 := by rw [← ft_emit]; exact e2
        have q := ih 0 (by decide) n (padv s) (r ++ [false]) hn (by omega) hs e1
        have M := pM_le hN (f := f) (sel := 0) (n := n) (s := padv s) (by decide)
        have q2 := ih 1 (by decide) n (pemit (pk t s) 0 (prs t f 0 n (padv s))) r hn (by rw [pM_emit]; omega) e2 hs'
        refine glue (G 1 (by decide) n _) (emitS (r1 := (r ++ [false]) ++ [decide (5 ≤ 0)]) e1 (Reg.wk q ?_) (fun l hl => ?_)) q2
        · rw [List.length_append]
          show r.length + 1 + _ ≤ _
          omega
        · have := Reg.bin (l := l) (i := (prs t f 0 n (padv s)).2.2.2.length) (r := r) (a := false) (b := false) (H := r.length + hbT 1 n) (by omega) (by rw [hl]; dsimp only; omega)
          have e : (r ++ [false]) ++ [decide (5 ≤ 0)] = r ++ [false, false] := by rw [List.append_assoc]; rfl
          rw [e]
          exact this
      · exact Reg.nil (by rw [List.length_append]; show r.length + 1 ≤ _; omega)
    · have hb := dec n hn
      rw [prs_2] at hs' ⊢
      have e1 := ft_prs (by decide) hs'
      have M := pM_le hN (f := f) (sel := 0) (n := n) (s := s) (by decide)
      have q := ih 0 (by decide) n s r hn (by omega) hs e1
      have q2 := ih 1 (by decide) n (prs t f 0 n s) r hn (by omega) e1 hs'
      exact glue (G 1 (by decide) n _) (Reg.wk q (by omega)) (Reg.wk q2 (by omega))
    · have hb := dec n hn
      rw [prs_3] at hs' ⊢
      show Reg _ _ _ (r ++ [false]) (r ++ [false]) _
      split
      · next z =>
        rw [if_pos z] at hs'
        have m := pM_adv hN (s := s) (by omega)
        have e2 := ft_prs (by decide) hs'
        have e1 : (prs t f 2 n (padv s)).2.1 = 0 := by rw [← ft_emit]; exact e2
        have q := ih 2 (by decide) n (padv s) (r ++ [false]) hn (by omega) hs e1
        have M := pM_le hN (f := f) (sel := 2) (n := n) (s := padv s) (by decide)
        have q2 := ih 3 (by decide) n (pemit (pk t s) 0 (prs t f 2 n (padv s))) r hn (by rw [pM_emit]; omega) e2 hs'
        refine glue (G 3 (by decide) n _) (emitS (r1 := (r ++ [false]) ++ [decide (5 ≤ 2)]) e1 (Reg.wk q ?_) (fun l hl => ?_)) q2
        · rw [List.length_append]
          show r.length + 1 + _ ≤ _
          omega
        · have := Reg.bin (l := l) (i := (prs t f 2 n (padv s)).2.2.2.length) (r := r) (a := false) (b := false) (H := r.length + hbT 3 n) (by omega) (by rw [hl]; dsimp only; omega)
          have e : (r ++ [false]) ++ [decide (5 ≤ 2)] = r ++ [false, false] := by rw [List.append_assoc]; rfl
          rw [e]
          exact this
      · exact Reg.nil (by rw [List.length_append]; show r.length + 1 ≤ _; omega)
    · have hb := dec n hn
      rw [prs_4] at hs' ⊢
      have e1 := ft_prs (by decide) hs'
      have M := pM_le hN (f := f) (sel := 2) (n := n) (s := s) (by decide)
      have q := ih 2 (by decide) n s r hn (by omega) hs e1
      have q2 := ih 3 (by decide) n (prs t f 2 n s) r hn (by omega) e1 hs'
      exact glue (G 3 (by decide) n _) (Reg.wk q (by omega)) (Reg.wk q2 (by omega))
    · have hb := dec n hn
      rw [prs_5] at hs' ⊢
      show Reg _ _ _ (r ++ [true]) (r ++ [true]) _
      split
      · next z =>
        rw [if_pos z] at hs'
        have m := pM_adv hN (s := s) (by omega)
        have e3 := ft_prs (by decide) hs'
        have e2 : (prs t f 6 n (pemit 151 0 (padv s))).2.1 = 0 := e3
        have e1 : (pemit 151 0 (padv s)).2.1 = 0 := by rw [ft_emit]; exact hs
        have eg := emit_gd (k := 151) (v := 0) (s := padv s) hs
        have M := pM_le hN (f := f) (sel := 6) (n := n) (s := pemit 151 0 (padv s)) (by decide)
        rw [pM_emit] at M
        have q := ih 6 (by decide) n (pemit 151 0 (padv s)) r hn (by rw [pM_emit]; omega) e1 e2
        have gg := G 6 (by decide) n (pemit 151 0 (padv s))
        have lg := gg.ln
        have el : (padv s).2.2.2.length = s.2.2.2.length := rfl
        rw [eg.1, el] at q lg
        rw [el] at eg
        have gv := gg.gd (i := s.2.2.2.length) (by rw [eg.1]; omega)
        rw [eg.2] at gv
        have q2 := ih 5 (by decide) n (ppatch s.2.2.2.length (prs t f 6 n (pemit 151 0 (padv s)))) r hn (by rw [pM_patch]; omega) e3 hs'
        have pl : (ppatch s.2.2.2.length (prs t f 6 n (pemit 151 0 (padv s)))).2.2.2.length = (prs t f 6 n (pemit 151 0 (padv s))).2.2.2.length := List.length_set
        have pv : (ppatch s.2.2.2.length (prs t f 6 n (pemit 151 0 (padv s)))).2.2.2.getD s.2.2.2.length (0, 0) = (151, ((prs t f 6 n (pemit 151 0 (padv s))).2.2.2.length : Int)) := by
          show ((prs t f 6 n (pemit 151 0 (padv s))).2.2.2.set s.2.2.2.length (((prs t f 6 n (pemit 151 0 (padv s))).2.2.2.getD s.2.2.2.length (0, 0)).1, _)).getD s.2.2.2.length (0, 0) = _
          rw [gv, List.getD_eq_getElem?_getD, List.getElem?_set_self (by omega)]; rfl
        have q' : Reg (ppatch s.2.2.2.length (prs t f 6 n (pemit 151 0 (padv s)))).2.2.2 (s.2.2.2.length + 1) (prs t f 6 n (pemit 151 0 (padv s))).2.2.2.length r (r ++ [true]) (r.length + hbT 5 n) := by
          refine Reg.wk (Reg.ext q (fun i h1 h2 => ?_)) (by omega)
          show ((prs t f 6 n (pemit 151 0 (padv s))).2.2.2.set s.2.2.2.length _).getD i (0, 0) = _
          rw [List.getD_eq_getElem?_getD, List.getElem?_set_ne (by omega), ← List.getD_eq_getElem?_getD]
        have gt := Reg.gate (by omega) q' (by rw [pv]; simp) (by rw [pv])
        rw [← pl] at gt
        exact glue (G 5 (by decide) n _) gt q2
      · exact Reg.nil (by rw [List.length_append]; show r.length + 1 ≤ _; omega)
    · -- one
      have hb := dec n hn
      rw [prs_6] at hs' ⊢
      show Reg _ _ _ r (r ++ [true]) _
      split
      · next z =>
        rw [if_pos z] at hs'
        split
        · next z2 => rw [if_pos z2] at hs'; exact absurd hs' (ft_fail (by decide))
        · next z2 =>
          rw [if_neg z2] at hs'
          have m := pM_adv hN (s := s) (by omega)
          have e1 : (prs t f 6 (n + 1) (padv s)).2.1 = 0 := by rw [← ft_emit]; exact hs'
          have q := ih 6 (by decide) (n + 1) (padv s) r (by omega) (by omega) hs e1
          have hb1 := (dec (n + 1) (by omega)).2.2.2.2.2.2.1
          exact emitS e1 (Reg.wk q (by omega)) (fun l hl => Reg.nt (by omega) (by rw [hl]))
      · next z =>
        rw [if_neg z] at hs'
        split
        · next z3 =>
          rw [if_pos z3] at hs'
          split
          · next z2 => rw [if_pos z2] at hs'; exact absurd hs' (ft_fail (by decide))
          · next z2 =>
            rw [if_neg z2] at hs'
            have hs1 := ft_take (by decide) hs'
            have m := pM_adv hN (s := s) (by omega)
            have q := ih 9 (by decide) (n + 1) (padv s) r (by omega) (by omega) hs hs1
            rw [pr_take]
            have hb1 := (dec (n + 1) (by omega)).2.2.2.2.2.2.2.2.2
            exact Reg.wk q (by omega)
        · next z3 =>
          rw [if_neg z3] at hs'
          split
          · next z4 =>
            rw [if_pos z4] at hs'
            have e2 : (prs t f 4 n (padv (prs t f 4 n s))).2.1 = 0 := by rw [← ft_emit]; exact hs'
            have e1 : (prs t f 4 n s).2.1 = 0 := by have := ft_prs (by decide) e2; exact this
            have M := pM_le hN (f := f) (sel := 4) (n := n) (s := s) (by decide)
            have m := pM_adv hN (s := prs t f 4 n s) (by omega)
            have q := ih 4 (by decide) n s r hn (by omega) hs e1
            have q2 := ih 4 (by decide) n (padv (prs t f 4 n s)) (r ++ [false]) hn (by omega) e1 e2
            refine emitS e2 (glue (G 4 (by decide) n (padv (prs t f 4 n s))) (Reg.wk (H' := r.length + hbT 6 n) q (by omega)) (Reg.wk q2 ?_)) (fun l hl => ?_)
            · rw [List.length_append]
              show r.length + 1 + _ ≤ _
              omega
            · have := Reg.cmp (l := l) (i := (prs t f 4 n (padv (prs t f 4 n s))).2.2.2.length) (r := r) (a := false) (b := false) (H := r.length + hbT 6 n) (by omega) (by rw [hl]; dsimp only; omega)
              have e : (r ++ [false]) ++ [decide (5 ≤ 4)] = r ++ [false, false] := by rw [List.append_assoc]; rfl
              rw [e]
              exact this
          · next z4 => rw [if_neg z4] at hs'; exact absurd hs' (ft_fail (by decide))
    · have hb := dec n hn
      rw [prs_7] at hs' ⊢
      have e1 := ft_prs (by decide) hs'
      have M := pM_le hN (f := f) (sel := 6) (n := n) (s := s) (by decide)
      have q := ih 6 (by decide) n s r hn (by omega) hs e1
      have q2 := ih 5 (by decide) n (prs t f 6 n s) r hn (by omega) e1 hs'
      exact glue (G 5 (by decide) n _) (Reg.wk q (by omega)) (Reg.wk q2 (by omega))
    · have hb := dec n hn
      rw [prs_8] at hs' ⊢
      show Reg _ _ _ (r ++ [true]) (r ++ [true]) _
      split
      · next z =>
        rw [if_pos z] at hs'
        have m := pM_adv hN (s := s) (by omega)
        have e3 := ft_prs (by decide) hs'
        have e2 : (prs t f 7 n (pemit 150 0 (padv s))).2.1 = 0 := e3
        have e1 : (pemit 150 0 (padv s)).2.1 = 0 := by rw [ft_emit]; exact hs
        have eg := emit_gd (k := 150) (v := 0) (s := padv s) hs
        have M := pM_le hN (f := f) (sel := 7) (n := n) (s := pemit 150 0 (padv s)) (by decide)
        rw [pM_emit] at M
        have q := ih 7 (by decide) n (pemit 150 0 (padv s)) r hn (by rw [pM_emit]; omega) e1 e2
        have gg := G 7 (by decide) n (pemit 150 0 (padv s))
        have lg := gg.ln
        have el : (padv s).2.2.2.length = s.2.2.2.length := rfl
        rw [eg.1, el] at q lg
        rw [el] at eg
        have gv := gg.gd (i := s.2.2.2.length) (by rw [eg.1]; omega)
        rw [eg.2] at gv
        have q2 := ih 8 (by decide) n (ppatch s.2.2.2.length (prs t f 7 n (pemit 150 0 (padv s)))) r hn (by rw [pM_patch]; omega) e3 hs'
        have pl : (ppatch s.2.2.2.length (prs t f 7 n (pemit 150 0 (padv s)))).2.2.2.length = (prs t f 7 n (pemit 150 0 (padv s))).2.2.2.length := List.length_set
        have pv : (ppatch s.2.2.2.length (prs t f 7 n (pemit 150 0 (padv s)))).2.2.2.getD s.2.2.2.length (0, 0) = (150, ((prs t f 7 n (pemit 150 0 (padv s))).2.2.2.length : Int)) := by
          show ((prs t f 7 n (pemit 150 0 (padv s))).2.2.2.set s.2.2.2.length (((prs t f 7 n (pemit 150 0 (padv s))).2.2.2.getD s.2.2.2.length (0, 0)).1, _)).getD s.2.2.2.length (0, 0) = _
          rw [gv, List.getD_eq_getElem?_getD, List.getElem?_set_self (by omega)]; rfl
        have q' : Reg (ppatch s.2.2.2.length (prs t f 7 n (pemit 150 0 (padv s)))).2.2.2 (s.2.2.2.length + 1) (prs t f 7 n (pemit 150 0 (padv s))).2.2.2.length r (r ++ [true]) (r.length + hbT 8 n) := by
          refine Reg.wk (Reg.ext q (fun i h1 h2 => ?_)) (by omega)
          show ((prs t f 7 n (pemit 150 0 (padv s))).2.2.2.set s.2.2.2.length _).getD i (0, 0) = _
          rw [List.getD_eq_getElem?_getD, List.getElem?_set_ne (by omega), ← List.getD_eq_getElem?_getD]
        have gt := Reg.gate (by omega) q' (by rw [pv]; simp) (by rw [pv])
        rw [← pl] at gt
        exact glue (G 8 (by decide) n _) gt q2
      · exact Reg.nil (by rw [List.length_append]; show r.length + 1 ≤ _; omega)
    · have hb := dec n hn
      rw [prs_9] at hs' ⊢
      have e1 := ft_prs (by decide) hs'
      have M := pM_le hN (f := f) (sel := 7) (n := n) (s := s) (by decide)
      have q := ih 7 (by decide) n s r hn (by omega) hs e1
      have q2 := ih 8 (by decide) n (prs t f 7 n s) r hn (by omega) e1 hs'
      exact glue (G 8 (by decide) n _) (Reg.wk q (by omega)) (Reg.wk q2 (by omega))
/-- a line that was read -/
def TyP (l : List (Int × Int)) (b : Bool) : Prop := Reg l 0 l.length [] [b] 14
def AWf (al : pA) : Prop := (0 ≤ al.2.1 ∧ al.2.1 ≤ 9) ∧ (0 ≤ al.1 ∧ al.1 ≤ 999) ∧ (al.2.1 = 9 → 1 ≤ al.2.2.1 ∧ al.2.2.1 ≤ 999) ∧ (al.2.1 < 7 → TyP al.2.2.2.1 false) ∧ (al.2.1 = 7 → al.2.2.2.1 = [(154, 0)] ∨ al.2.2.2.1 = [(154, 1)]) ∧ (al.2.1 = 8 → al.2.2.2.1 = [(154, 1)]) ∧ (al.2.2.2.2 = [] ∨ TyP al.2.2.2.2 true)
theorem body_wf {t : pT} {N : Nat} (hN : pN t N) (hV : ∀ i, 0 ≤ t.2.2 i ∧ t.2.2 i ≤ 999999) (hN1 : N ≤ 401) {s : pS} (h0 : s.2.2.2 = []) (h : (pbody t s).2.2.1 = 0) : AWf (pbody t s).1 := by
  have fu : ∀ s : pS, pM N s ≤ 16 * N := fun s => by unfold pM; split <;> omega
  have e5 := ft_take (by decide) h
  have eT : (pre0 (psay t (pnumb t s).2).2.2).2.1 = 0 := by
    have : (ptest t (pre0 (psay t (pnumb t s).2).2.2)).2.1 = 0 := e5
    unfold ptest at this
    split at this
    · have q := ft_prs (sel := 9) (by decide) this; exact q
    · exact this
  have eS : (psay t (pnumb t s).2).2.2.2.1 = 0 := eT
  -- the number
  have hnum : (0 ≤ (pnumb t s).1 ∧ (pnumb t s).1 ≤ 999) ∧ (pnumb t s).2.2.2.2 = [] := by
    unfold pnumb
    split
    · refine ⟨?_, by show (ptake t 58 (pnum t s).2).2.2.2 = []; rw [pr_take, pr_num]; exact h0⟩
      unfold pnum
      split
      · split
        · dsimp only; omega
        · dsimp only; omega
      · dsimp only; omega
    · exact ⟨by dsimp only; omega, h0⟩
  generalize hs1 : (pnumb t s).2 = s1 at eT eS hnum
  have hsay : (0 ≤ (psay t s1).1 ∧ (psay t s1).1 ≤ 9) ∧ ((psay t s1).1 = 9 → 1 ≤ (psay t s1).2.1 ∧ (psay t s1).2.1 ≤ 999) ∧ ((psay t s1).1 < 7 → TyP (psay t s1).2.2.2.2.2 false) ∧ ((psay t s1).1 = 7 → (psay t s1).2.2.2.2.2 = [(154, 0)] ∨ (psay t s1).2.2.2.2.2 = [(154, 1)]) ∧ ((psay t s1).1 = 8 → (psay t s1).2.2.2.2.2 = [(154, 1)]) := by
    have sm : ∀ s2 : pS, s2.2.2.2 = [] → (prs t pF 4 0 s2).2.1 = 0 → TyP (prs t pF 4 0 s2).2.2.2 false := by
      intro s2 p0 e
      have := SW_all hN hV pF 4 (by decide) 0 s2 [] (by omega) (by have := fu s2; show pM N s2 + 4 < 7000; omega) (ft_prs (by decide) e) e
      rw [p0] at this
      exact Reg.wk this (by decide)
    unfold psay at eS ⊢
    split
    · next z =>
      rw [if_pos z] at eS
      split
      · next z2 =>
        rw [if_pos z2] at eS
        refine ⟨by dsimp only; omega, fun _ => ?_, fun y => by dsimp only at y; omega, fun y => by dsimp only at y; omega, fun y => by dsimp only at y; omega⟩
        dsimp only at eS ⊢
        unfold pnum at eS ⊢
        split
        · next y =>
          rw [if_pos y] at eS
          split
          · next y2 => exact y2
          · next y2 => rw [if_neg y2] at eS; exact absurd eS (ft_fail (by decide))
        · next y => rw [if_neg y] at eS; exact absurd eS (ft_fail (by decide))
      · next z2 =>
        rw [if_neg z2] at eS
        split
        · next z3 =>
          rw [if_pos z3] at eS
          dsimp only at eS
          rw [ft_emit] at eS
          refine ⟨by dsimp only; omega, fun y => by dsimp only at y; omega, fun y => by dsimp only at y; omega, fun y => by dsimp only at y; omega, fun _ => ?_⟩
          dsimp only
          rw [(len_emit eS).1, pr_adv, hnum.2]; rfl
        · next z3 =>
          rw [if_neg z3] at eS
          split
          · next z4 =>
            rw [if_pos z4] at eS
            dsimp only at eS
            rw [ft_emit] at eS
            refine ⟨by dsimp only; omega, fun y => by dsimp only at y; omega, fun y => by dsimp only at y; omega, fun _ => ?_, fun y => by dsimp only at y; omega⟩
            dsimp only
            rw [(len_emit eS).1, pr_cho, pr_adv, hnum.2]
            unfold pcho at eS ⊢
            split
            · exact Or.inl rfl
            · next y =>
              rw [if_neg y] at eS
              split
              · exact Or.inr rfl
              · next y2 => rw [if_neg y2] at eS; rw [if_neg y2] at eS; exact absurd eS (ft_fail (by decide))
          · next z4 =>
            rw [if_neg z4] at eS
            split
            · next z5 =>
              rw [if_pos z5] at eS
              have cr := (pG.cho hN (a := 140) (b := 145) (c := 146) (by omega) (by omega) (by omega) (s := padv s1)).2.2
              refine ⟨by dsimp only; omega, fun y => by dsimp only at y; omega, fun _ => sm _ (by rw [pr_cho]; exact hnum.2) eS, fun y => by dsimp only at y; omega, fun y => by dsimp only at y; omega⟩
            · next z5 =>
              rw [if_neg z5] at eS
              have hS : 0 ≤ (if pk t s1 ≤ 131 then pk t s1 - 128 else pk t s1 - 128 + 6 - 3 - 1) ∧ (if pk t s1 ≤ 131 then pk t s1 - 128 else pk t s1 - 128 + 6 - 3 - 1) ≤ 6 := by split <;> omega
              refine ⟨by dsimp only; omega, fun y => by dsimp only at y; omega, fun _ => sm _ hnum.2 eS, fun y => by dsimp only at y; omega, fun y => by dsimp only at y; omega⟩
    · next z => rw [if_neg z] at eS; exact absurd eS (ft_fail (by decide))
  have htest : (ptest t (pre0 (psay t s1).2.2)).2.2.2 = [] ∨ TyP (ptest t (pre0 (psay t s1).2.2)).2.2.2 true := by
    have e5' : (ptest t (pre0 (psay t s1).2.2)).2.1 = 0 := by rw [← hs1]; exact e5
    unfold ptest at e5' ⊢
    split
    · next z =>
      rw [if_pos z] at e5'
      refine Or.inr ?_
      have := SW_all hN hV pF 9 (by decide) 0 (padv (pre0 (psay t s1).2.2)) [] (by omega) (by have := fu (padv (pre0 (psay t s1).2.2)); show pM N _ + 9 < 7000; omega) (ft_prs (by decide) e5') e5'
      exact Reg.wk this (by decide)
    · exact Or.inl rfl
  unfold pbody AWf
  rw [hs1]
  exact ⟨hsay.1, hnum.1, hsay.2.1, hsay.2.2.1, hsay.2.2.2.1, hsay.2.2.2.2, htest⟩
theorem pgo_wf {t : pT} {N : Nat} (hN : pN t N) (hV : ∀ i, 0 ≤ t.2.2 i ∧ t.2.2 i ≤ 999999) (hN1 : N ≤ 401) (f : Nat) : ∀ k s ls, s.2.2.2 = [] → (∀ al ∈ ls, AWf al) → (pgo t f k s ls).1.2.1 = 0 → ∀ al ∈ (pgo t f k s ls).2, AWf al := by
  induction f with
  | zero => intro k s ls _ h _; exact h
  | succ f ih =>
    intro k s ls p0 h
    show (if pk t s = 155 then (s, ls) else if (phead t k s).2.1 = 0 then pgo t f (k + 1) (pre0 (pbody t s).2) (ls ++ [(pbody t s).1]) else (phead t k s, ls)).1.2.1 = 0 → ∀ al ∈ (if pk t s = 155 then (s, ls) else if (phead t k s).2.1 = 0 then pgo t f (k + 1) (pre0 (pbody t s).2) (ls ++ [(pbody t s).1]) else (phead t k s, ls)).2, AWf al
    split
    · intro _; exact h
    · split
      · intro e
        have z := (pgo_Z f _ _ _ e).1
        refine ih _ _ _ rfl (fun al hal => ?_) e
        rcases List.mem_append.mp hal with y | y
        · exact h al y
        · rw [List.mem_singleton.mp y]
          exact body_wf hN hV hN1 p0 z
      · intro _; exact h
