/-! places of steps in the reference's code -/
def szR (e : Int × Int) : Nat := if e.1 = 154 ∨ e.1 = 150 ∨ e.1 = 151 then 2 else 1
def offR : List (Int × Int) → Nat → Nat
  | [], _ => 0
  | _ :: _, 0 => 0
  | e :: r, i + 1 => szR e + offR r i
def lenR (l : List (Int × Int)) : Nat := offR l l.length
theorem szR_1 (e : Int × Int) : 1 ≤ szR e ∧ szR e ≤ 2 := by unfold szR; split <;> omega
theorem offR_0 (l : List (Int × Int)) : offR l 0 = 0 := by cases l <;> rfl
theorem offR_app {l m : List (Int × Int)} : ∀ {i : Nat}, i ≤ l.length → offR (l ++ m) i = offR l i := by
  induction l with
  | nil => intro i h; have : i = 0 := Nat.le_zero.mp h; subst this; show offR m 0 = 0; exact offR_0 m
  | cons e r ih =>
    intro i h
    cases i with
    | zero => rfl
    | succ i => show szR e + offR (r ++ m) i = szR e + offR r i; rw [ih (Nat.le_of_succ_le_succ h)]
theorem lenR_app1 {l : List (Int × Int)} {e : Int × Int} : lenR (l ++ [e]) = lenR l + szR e := by
  induction l with
  | nil => show szR e + 0 = 0 + szR e; omega
  | cons x r ih =>
    have e1 : lenR ((x :: r) ++ [e]) = szR x + lenR (r ++ [e]) := rfl
    have e2 : lenR (x :: r) = szR x + lenR r := rfl
    rw [e1, e2, ih]; omega
theorem offR_step {l : List (Int × Int)} : ∀ {i : Nat}, i < l.length → offR l (i + 1) = offR l i + szR (l.getD i (0, 0)) := by
  induction l with
  | nil => intro i h; exact absurd h (Nat.not_lt_zero _)
  | cons e r ih =>
    intro i h
    cases i with
    | zero => show szR e + offR r 0 = 0 + szR e; rw [offR_0]; omega
    | succ i =>
      show szR e + offR r (i + 1) = szR e + offR r i + szR (r.getD i (0, 0))
      rw [ih (Nat.lt_of_succ_lt_succ h)]; omega
theorem offR_mono {l : List (Int × Int)} : ∀ {i j : Nat}, i ≤ j → j ≤ l.length → offR l i + (j - i) ≤ offR l j := by
  intro i j h
  induction j with
  | zero => intro _; have : i = 0 := by omega
            subst this; omega
  | succ j ih =>
    intro hj
    rcases Nat.lt_or_ge j i with z | z
    · have : i = j + 1 := by omega
      subst this; omega
    · have a := ih z (by omega)
      have b := offR_step (l := l) (i := j) (by omega)
      have c := (szR_1 (l.getD j (0, 0))).1
      omega
theorem offR_set {l : List (Int × Int)} : ∀ {i j : Nat} {v : Int}, offR (l.set i ((l.getD i (0, 0)).1, v)) j = offR l j := by
  induction l with
  | nil => intro i j v; rfl
  | cons e r ih =>
    intro i j v
    cases i with
    | zero =>
      cases j with
      | zero => rfl
      | succ j => rfl
    | succ i =>
      cases j with
      | zero => rfl
      | succ j => show szR e + offR (r.set i ((r.getD i (0, 0)).1, v)) j = szR e + offR r j; rw [ih]
theorem lenR_emit {s : pS} {k v : Int} : lenR (pemit k v s).2.2.2 ≤ lenR s.2.2.2 + szR (k, v) := by
  unfold pemit
  split
  · show lenR (s.2.2.2 ++ [(k, v)]) ≤ _
    rw [lenR_app1]; exact Nat.le_refl _
  · omega
theorem lenR_patch {s : pS} {i : Nat} : lenR (ppatch i s).2.2.2 = lenR s.2.2.2 := by
  show offR (s.2.2.2.set i ((s.2.2.2.getD i (0, 0)).1, _)) (s.2.2.2.set i _).length = _
  rw [List.length_set, offR_set]; rfl
/-- codes against bytes -/
def pPh (plc : Nat → Nat) (k : Nat) (s s' : pS) : Prop := 2 * lenR s'.2.2.2 + 3 * plc s.1 ≤ 2 * lenR s.2.2.2 + 3 * plc s'.1 + k
theorem pPh.tr {plc : Nat → Nat} {k k' : Nat} {s s1 s2 : pS} (h : pPh plc k s s1) (h2 : pPh plc k' s1 s2) : pPh plc (k + k') s s2 := by unfold pPh at *; omega
theorem pPh.fail {plc : Nat → Nat} {t : pT} {w : Int} {s : pS} : pPh plc 0 s (pfail t w s) := by
  unfold pfail pPh
  split <;> exact Nat.le_refl _
def plcH (t : pT) (plc : Nat → Nat) : Prop := ∀ i, ¬ t.1 i = 155 → ¬ t.1 i = 156 → plc i + 1 ≤ plc (i + 1) ∧ (t.1 i = 150 ∨ t.1 i = 151 → plc i + 2 ≤ plc (i + 1))
theorem plc_adv {t : pT} {plc : Nat → Nat} (h : plcH t plc) {s : pS} (hk : ¬ pk t s = 155 ∧ ¬ pk t s = 156) : plc s.1 + 1 ≤ plc (padv s).1 ∧ (pk t s = 150 ∨ pk t s = 151 → plc s.1 + 2 ≤ plc (padv s).1) := by
  have h0 : s.2.1 = 0 := Decidable.byContradiction (fun z => hk.1 (pk_bad z))
  rw [pk_ok h0] at hk ⊢
  exact h s.1 hk.1 hk.2
theorem pPh.take {t : pT} {plc : Nat → Nat} (h : plcH t plc) {s : pS} {k : Int} (hk : ¬ k = 155 ∧ ¬ k = 156) : pPh plc 0 s (ptake t k s) := by
  unfold ptake
  split
  · next z =>
    have := (plc_adv h (s := s) (by rw [z]; exact hk)).1
    unfold pPh
    show 2 * lenR s.2.2.2 + 3 * plc s.1 ≤ 2 * lenR s.2.2.2 + 3 * plc (padv s).1 + 0
    omega
  · exact pPh.fail
theorem prs_Ph {t : pT} {plc : Nat → Nat} (h : plcH t plc) (f : Nat) : ∀ sel, sel ≤ 9 → ∀ n s, pPh plc (if sel = 1 ∨ sel = 3 ∨ sel = 5 ∨ sel = 8 then 0 else 1) s (prs t f sel n s) := by
  induction f with
  | zero => intro sel _ n s; show 2 * lenR s.2.2.2 + 3 * plc s.1 ≤ 2 * lenR s.2.2.2 + 3 * plc s.1 + _; omega
  | succ f ih =>
    have J : ∀ sel, sel ≤ 9 → ∀ n s, pPh plc 1 s (prs t f sel n s) := fun sel hs n s => by
      have := ih sel hs n s
      unfold pPh at *
      split at this <;> omega
    have J1 : ∀ n s, pPh plc 0 s (prs t f 1 n s) := fun n s => ih 1 (by decide) n s
    have J3 : ∀ n s, pPh plc 0 s (prs t f 3 n s) := fun n s => ih 3 (by decide) n s
    have J5 : ∀ n s, pPh plc 0 s (prs t f 5 n s) := fun n s => ih 5 (by decide) n s
    have J8 : ∀ n s, pPh plc 0 s (prs t f 8 n s) := fun n s => ih 8 (by decide) n s
    have rf : ∀ (k : Nat) (s : pS), pPh plc k s s := fun k s => by unfold pPh; omega
    have wk : ∀ {s s' : pS}, pPh plc 0 s s' → pPh plc 1 s s' := fun z => by unfold pPh at *; omega
    have e2 : ∀ k v : Int, szR (k, v) ≤ 2 := fun k v => (szR_1 (k, v)).2
    have eA : ∀ {k : Int} (v : Int), ¬ (k = 154 ∨ k = 150 ∨ k = 151) → szR (k, v) = 1 := fun v z => if_neg z
    refine sel10 ?_ ?_ ?_ ?_ ?_ ?_ ?_ ?_ ?_ ?_ <;> intro n s
    · rw [prs_0]
      show pPh plc 1 s _
      split
      · next z =>
        have a := (plc_adv h (s := s) (by omega)).1
        have b := lenR_emit (s := s) (k := 154) (v := t.2.2 s.1)
        have c := e2 154 (t.2.2 s.1)
        have d := (nx_emit (k := 154) (v := t.2.2 s.1) (s := s)).1
        unfold pPh
        show 2 * lenR (pemit 154 (t.2.2 s.1) s).2.2.2 + 3 * plc s.1 ≤ 2 * lenR s.2.2.2 + 3 * plc ((pemit 154 (t.2.2 s.1) s).1 + 1) + 1
        rw [d]
        have a' : plc s.1 + 1 ≤ plc (s.1 + 1) := a
        omega
      · split
        · next z =>
          have a := (plc_adv h (s := s) (by omega)).1
          have b := lenR_emit (s := s) (k := pk t s) (v := 0)
          have c := e2 (pk t s) 0
          have d := (nx_emit (k := pk t s) (v := 0) (s := s)).1
          unfold pPh
          show 2 * lenR (pemit (pk t s) 0 s).2.2.2 + 3 * plc s.1 ≤ 2 * lenR s.2.2.2 + 3 * plc ((pemit (pk t s) 0 s).1 + 1) + 1
          rw [d]
          have a' : plc s.1 + 1 ≤ plc (s.1 + 1) := a
          omega
        · split
          · next z =>
            split
            · exact wk pPh.fail
            · have a := (plc_adv h (s := s) (by omega)).1
              have b := J 4 (by decide) (n + 1) (padv s)
              have c := pPh.take h (s := prs t f 4 (n + 1) (padv s)) (k := 41) (by decide)
              unfold pPh at *
              have e : (padv s).2.2.2 = s.2.2.2 := rfl
              rw [e] at b
              omega
          · exact wk pPh.fail
    · rw [prs_1]
      show pPh plc 0 s _
      split
      · next z =>
        have a := (plc_adv h (s := s) (by omega)).1
        have b := J 0 (by decide) n (padv s)
        have c := lenR_emit (s := prs t f 0 n (padv s)) (k := pk t s) (v := 0)
        have c1 := eA (k := pk t s) 0 (by omega)
        have d := (nx_emit (k := pk t s) (v := 0) (s := prs t f 0 n (padv s))).1
        have e := J1 n (pemit (pk t s) 0 (prs t f 0 n (padv s)))
        unfold pPh at *
        have e1 : (padv s).2.2.2 = s.2.2.2 := rfl
        rw [e1] at b
        rw [d] at e
        omega
      · exact rf 0 s
    · rw [prs_2]
      show pPh plc 1 s _
      exact (J 0 (by decide) n s).tr (J1 n _)
    · rw [prs_3]
      show pPh plc 0 s _
      split
      · next z =>
        have a := (plc_adv h (s := s) (by omega)).1
        have b := J 2 (by decide) n (padv s)
        have c := lenR_emit (s := prs t f 2 n (padv s)) (k := pk t s) (v := 0)
        have c1 := eA (k := pk t s) 0 (by omega)
        have d := (nx_emit (k := pk t s) (v := 0) (s := prs t f 2 n (padv s))).1
        have e := J3 n (pemit (pk t s) 0 (prs t f 2 n (padv s)))
        unfold pPh at *
        have e1 : (padv s).2.2.2 = s.2.2.2 := rfl
        rw [e1] at b
        rw [d] at e
        omega
      · exact rf 0 s
    · rw [prs_4]
      show pPh plc 1 s _
      exact (J 2 (by decide) n s).tr (J3 n _)
    · rw [prs_5]
      show pPh plc 0 s _
      split
      · next z =>
        have a := (plc_adv h (s := s) (by omega)).2 (by omega)
        have c := lenR_emit (s := padv s) (k := 151) (v := 0)
        have c1 := e2 151 0
        have d := (nx_emit (k := 151) (v := 0) (s := padv s)).1
        have b := J 6 (by decide) n (pemit 151 0 (padv s))
        have p := lenR_patch (s := prs t f 6 n (pemit 151 0 (padv s))) (i := s.2.2.2.length)
        have e := J5 n (ppatch s.2.2.2.length (prs t f 6 n (pemit 151 0 (padv s))))
        unfold pPh at *
        have e1 : (padv s).2.2.2 = s.2.2.2 := rfl
        have e3 : (ppatch s.2.2.2.length (prs t f 6 n (pemit 151 0 (padv s)))).1 = (prs t f 6 n (pemit 151 0 (padv s))).1 := rfl
        rw [e1] at c
        rw [d] at b
        rw [p, e3] at e
        omega
      · exact rf 0 s
    · rw [prs_6]
      show pPh plc 1 s _
      split
      · next z =>
        split
        · exact wk pPh.fail
        · have a := (plc_adv h (s := s) (by omega)).1
          have b := J 6 (by decide) (n + 1) (padv s)
          have c := lenR_emit (s := prs t f 6 (n + 1) (padv s)) (k := 152) (v := 0)
          have c1 : szR ((152 : Int), (0 : Int)) = 1 := by decide
          have d := (nx_emit (k := 152) (v := 0) (s := prs t f 6 (n + 1) (padv s))).1
          unfold pPh at *
          have e1 : (padv s).2.2.2 = s.2.2.2 := rfl
          rw [e1] at b
          rw [d]
          omega
      · split
        · next z =>
          split
          · exact wk pPh.fail
          · have a := (plc_adv h (s := s) (by omega)).1
            have b := J 9 (by decide) (n + 1) (padv s)
            have c := pPh.take h (s := prs t f 9 (n + 1) (padv s)) (k := 93) (by decide)
            unfold pPh at *
            have e : (padv s).2.2.2 = s.2.2.2 := rfl
            rw [e] at b
            omega
        · have b1 := J 4 (by decide) n s
          split
          · next z =>
            have a := (plc_adv h (s := prs t f 4 n s) (by omega)).1
            have b := J 4 (by decide) n (padv (prs t f 4 n s))
            have c := lenR_emit (s := prs t f 4 n (padv (prs t f 4 n s))) (k := pk t (prs t f 4 n s)) (v := 0)
            have c1 := eA (k := pk t (prs t f 4 n s)) 0 (by omega)
            have d := (nx_emit (k := pk t (prs t f 4 n s)) (v := 0) (s := prs t f 4 n (padv (prs t f 4 n s)))).1
            unfold pPh at *
            have e1 : (padv (prs t f 4 n s)).2.2.2 = (prs t f 4 n s).2.2.2 := rfl
            rw [e1] at b
            rw [d]
            omega
          · exact b1.tr pPh.fail
    · rw [prs_7]
      show pPh plc 1 s _
      exact (J 6 (by decide) n s).tr (J5 n _)
    · rw [prs_8]
      show pPh plc 0 s _
      split
      · next z =>
        have a := (plc_adv h (s := s) (by omega)).2 (by omega)
        have c := lenR_emit (s := padv s) (k := 150) (v := 0)
        have c1 := e2 150 0
        have d := (nx_emit (k := 150) (v := 0) (s := padv s)).1
        have b := J 7 (by decide) n (pemit 150 0 (padv s))
        have p := lenR_patch (s := prs t f 7 n (pemit 150 0 (padv s))) (i := s.2.2.2.length)
        have e := J8 n (ppatch s.2.2.2.length (prs t f 7 n (pemit 150 0 (padv s))))
        unfold pPh at *
        have e1 : (padv s).2.2.2 = s.2.2.2 := rfl
        have e3 : (ppatch s.2.2.2.length (prs t f 7 n (pemit 150 0 (padv s)))).1 = (prs t f 7 n (pemit 150 0 (padv s))).1 := rfl
        rw [e1] at c
        rw [d] at b
        rw [p, e3] at e
        omega
      · exact rf 0 s
    · rw [prs_9]
      show pPh plc 1 s _
      exact (J 7 (by decide) n s).tr (J8 n _)
