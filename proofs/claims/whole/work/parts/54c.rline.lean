/-! a line, as the reference reads it -/
def sumR (al : pA) : List (Int × Int) := if al.2.1 < 7 then al.2.2.2.1 else []
def LnR (g : mz_S) (tt l : Nat) (al : pA) (a : Nat) : Prop := g 127 l = (a : Int) ∧ g 128 l = ((a + lenR (sumR al) : Nat) : Int) ∧ g 129 l = ((a + lenR (sumR al) + lenR al.2.2.2.2 : Nat) : Int) ∧ g 125 l = al.1 ∧ g 124 l = al.2.1 ∧ (al.2.1 = 9 → g 126 l = al.2.2.1) ∧ (al.2.1 = 7 → al.2.2.2.1 = [(154, g 126 l)]) ∧ CodR g (700 * tt) a (sumR al) ∧ CodR g (700 * tt) (a + lenR (sumR al)) al.2.2.2.2
def LineR (G G' : mz_S) (l m : Nat) : Prop := Ch [123, 124, 125, 126, 127, 128, 129] [28, 29, 30, 31, 32, 33, 37, 38] G G' ∧ (∀ q ∈ [124, 125, 126, 127, 128, 129], ∀ i, i ≠ l → G' q i = G q i) ∧ ∀ i, i < m → G' 123 i = G 123 i
theorem LineR.rf (G : mz_S) (l m : Nat) : LineR G G l m := ⟨Ch.rf G, fun _ _ _ _ => rfl, fun _ _ => rfl⟩
theorem LineR.tr {G G1 G2 : mz_S} {l m m2 : Nat} (h : LineR G G1 l m) (h2 : LineR G1 G2 l m2) (hm : m ≤ m2) : LineR G G2 l m := ⟨h.1.tr h2.1, fun q hq i hi => (h2.2.1 q hq i hi).trans (h.2.1 q hq i hi), fun i hi => (h2.2.2 i (by omega)).trans (h.2.2 i hi)⟩
theorem LineR.up {G G' : mz_S} {l m : Nat} (h : LineR G G' l m) {q : Nat} (hq : q ∈ [124, 125, 126, 127, 128, 129]) (v : Int) : LineR G (mx_up G' q l v) l m := by
  have h9 : q ≠ 99 ∧ q ≠ 123 := by simp at hq; omega
  refine ⟨h.1.up (by simp at hq ⊢; omega) h9.1, fun p hp i hi => ?_, fun i hi => ?_⟩
  · rw [up_i hi]; exact h.2.1 p hp i hi
  · rw [up_q (fun z => h9.2 z.symm)]; exact h.2.2 i hi
theorem SayR.line {G G' : mz_S} {l m : Nat} (h : SayR G G' l m) : LineR G G' l m := by
  refine ⟨h.1.sub (by decide) (by decide), fun q hq i hi => ?_, h.2.2⟩
  by_cases z : q = 124
  · subst z; exact (h.2.1 i hi).1
  · by_cases z2 : q = 126
    · subst z2; exact (h.2.1 i hi).2
    · rw [h.1.1 q (by simp at hq ⊢; omega) (by simp at hq; omega)]
theorem RdR.line {c : mz_S} {n N tt B op l : Nat} {s : pS} {g : mz_S} (h : RdR c n N tt B op s g) : LineR c g l (700 * tt + B) := ⟨h.1.sub (by decide) (by decide), fun q hq i _ => by rw [h.1.1 q (by simp at hq ⊢; omega) (by simp at hq; omega)], h.2.1⟩
theorem LineR.w {G G' : mz_S} {n N tt l m : Nat} (h : LineR G G' l m) (hW : RdW G n N tt) : RdW G' n N tt ∧ G' 119 = G 119 :=
  ⟨hW.same (h.1.1 119 (by decide) (by decide)) (h.1.2 27 (by decide)) (h.1.2 36 (by decide)), h.1.1 119 (by decide) (by decide)⟩
theorem lenR_nil : lenR [] = 0 := rfl
theorem say_Ph {t : pT} {plc : Nat → Nat} (h : plcH t plc) {s : pS} (h0 : s.2.2.2 = []) : 2 * lenR (psayR t s).2.2.2 + 3 * plc s.1 ≤ 3 * plc (psayR t s).1 := by
  have fl : ∀ s : pS, ∀ w, (pfail t w s).1 = s.1 := by intro s w; unfold pfail; split <;> rfl
  have nm : ∀ s : pS, plc s.1 ≤ plc (pnum t s).2.1 ∧ (pnum t s).2.2.2.2 = s.2.2.2 := by
    intro s
    refine ⟨?_, pr_num⟩
    unfold pnum
    split
    · next z =>
      split
      · have := (plc_adv h (s := s) (by omega)).1; show plc s.1 ≤ plc (padv s).1; omega
      · show plc s.1 ≤ plc (pfail t 4 s).1; rw [fl]; exact Nat.le_refl _
    · show plc s.1 ≤ plc (pfail t 2 s).1; rw [fl]; exact Nat.le_refl _
  have ch : ∀ (a b c : Int), a ≤ 154 → b ≤ 154 → c ≤ 154 → ∀ s : pS, plc s.1 ≤ plc (pcho t a b c s).2.1 ∧ (pcho t a b c s).2.2.2.2 = s.2.2.2 := by
    intro a b c ha hb hc s
    refine ⟨?_, pr_cho⟩
    unfold pcho
    split
    · have := (plc_adv h (s := s) (by omega)).1; show plc s.1 ≤ plc (padv s).1; omega
    · split
      · have := (plc_adv h (s := s) (by omega)).1; show plc s.1 ≤ plc (padv s).1; omega
      · split
        · have := (plc_adv h (s := s) (by omega)).1; show plc s.1 ≤ plc (padv s).1; omega
        · show plc s.1 ≤ plc (pfail t 2 s).1; rw [fl]; exact Nat.le_refl _
  have sm : ∀ s : pS, s.2.2.2 = [] → 2 * lenR (prs t pF 4 0 s).2.2.2 + 3 * plc s.1 ≤ 3 * plc (prs t pF 4 0 s).1 + 1 := by
    intro s h0
    have P : pPh plc 1 s (prs t pF 4 0 s) := prs_Ph h pF 4 (by decide) 0 s
    unfold pPh at P
    rw [h0, lenR_nil] at P
    omega
  have mono : plc s.1 ≤ plc (psay t s).2.2.1 := by
    unfold psay
    split
    · next z =>
      have A := (plc_adv h (s := s) (by omega)).1
      split
      · have := (nm (padv s)).1; show plc s.1 ≤ plc (pnum t (padv s)).2.1; omega
      · split
        · show plc s.1 ≤ plc (pemit 154 1 (padv s)).1; rw [nx_emit.1]; omega
        · split
          · have C := ch 148 147 147 (by omega) (by omega) (by omega) (padv s)
            show plc s.1 ≤ plc (pemit 154 _ (pcho t 148 147 147 (padv s)).2).1
            rw [nx_emit.1]; omega
          · split
            · have C := ch 140 145 146 (by omega) (by omega) (by omega) (padv s)
              have S := sm _ (by rw [C.2]; exact h0)
              show plc s.1 ≤ plc (prs t pF 4 0 (pcho t 140 145 146 (padv s)).2).1
              omega
            · have S := sm (padv s) h0
              show plc s.1 ≤ plc (prs t pF 4 0 (padv s)).1
              omega
    · show plc s.1 ≤ plc (pfail t 2 s).1; rw [fl]; exact Nat.le_refl _
  have big : (psay t s).1 < 7 → 2 * lenR (psay t s).2.2.2.2.2 + 3 * plc s.1 ≤ 3 * plc (psay t s).2.2.1 := by
    unfold psay
    split
    · next z =>
      have A := (plc_adv h (s := s) (by omega)).1
      split
      · intro y; dsimp only at y; omega
      · split
        · intro y; dsimp only at y; omega
        · split
          · intro y; dsimp only at y; omega
          · split
            · intro _
              have C := ch 140 145 146 (by omega) (by omega) (by omega) (padv s)
              have S := sm _ (by rw [C.2]; exact h0)
              dsimp only
              omega
            · intro _
              have S := sm (padv s) h0
              dsimp only
              omega
    · intro _
      show 2 * lenR (pfail t 2 s).2.2.2 + 3 * plc s.1 ≤ 3 * plc (pfail t 2 s).1
      rw [pr_fail, h0, lenR_nil, fl]; omega
  unfold psayR
  by_cases y : (psay t s).1 < 7
  · rw [if_pos y]; exact big y
  · rw [if_neg y]
    show 2 * lenR [] + 3 * plc s.1 ≤ 3 * plc (psay t s).2.2.1
    rw [lenR_nil]; omega
