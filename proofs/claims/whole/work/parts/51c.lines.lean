/-! a line, as the class reads it -/
def LineF (G G' : mz_S) (l b : Nat) : Prop := Ch [31, 32, 33, 34, 35, 36, 37, 38] [] G G' ∧ (∀ q ∈ [32, 33, 34, 35, 36, 37], ∀ i, i ≠ l → G' q i = G q i) ∧ ∀ i, i < b → G' 38 i = G 38 i
theorem LineF.rf (G : mz_S) (l b : Nat) : LineF G G l b := ⟨Ch.rf G, fun _ _ _ _ => rfl, fun _ _ => rfl⟩
theorem LineF.tr {G G1 G2 : mz_S} {l b b2 : Nat} (h : LineF G G1 l b) (h2 : LineF G1 G2 l b2) (hb : b ≤ b2) : LineF G G2 l b := ⟨h.1.tr h2.1, fun q hq i hi => (h2.2.1 q hq i hi).trans (h.2.1 q hq i hi), fun i hi => (h2.2.2 i (by omega)).trans (h.2.2 i hi)⟩
theorem LineF.up {G G' : mz_S} {l b : Nat} (h : LineF G G' l b) {q : Nat} (hq : q ∈ [32, 33, 34, 35, 36, 37]) (v : Int) : LineF G (mx_up G' q l v) l b := by
  have h9 : q ≠ 99 ∧ q ≠ 38 := by revert hq; revert q; decide
  refine ⟨h.1.up (by simp at hq ⊢; omega) h9.1, fun p hp i hi => ?_, fun i hi => ?_⟩
  · rw [up_i hi]; exact h.2.1 p hp i hi
  · rw [up_q (fun z => h9.2 z.symm)]; exact h.2.2 i hi
theorem SayF.line {G G' : mz_S} {l b : Nat} (h : SayF G G' l b) : LineF G G' l b := by
  refine ⟨h.1.sub (by decide) (by decide), fun q hq i hi => ?_, h.2.2.2⟩
  by_cases z : q = 32
  · subst z; exact (h.2.1 i hi).1
  · by_cases z2 : q = 34
    · subst z2; exact (h.2.1 i hi).2
    · rw [h.1.1 q (by simp at hq ⊢; omega) (by simp at hq; omega)]
theorem RdC.line {c : mz_S} {N b l : Nat} {s : pS} {g : mz_S} (h : RdC c N b s g) : LineF c g l b := ⟨h.1.sub (by decide) (by decide), fun q hq i _ => by rw [h.1.1 q (by revert hq; revert q; decide) (by revert hq; revert q; decide)], h.2.2.2.2.2.2.1⟩
theorem LineF.tk {G G' : mz_S} {N b l : Nat} (h : LineF G G' l b) (hW : TkW G N) : TkW G' N ∧ tokC G' N = tokC G N :=
  ⟨hW.same (fun q hq => h.1.1 q (by revert hq; revert q; decide) (by intro z; subst z; revert hq; decide)), tokC_same (fun q hq => h.1.1 q (by revert hq; revert q; decide) (by intro z; subst z; revert hq; decide))⟩
def LnC (g : mz_S) (l : Nat) (al : pA) (a : Nat) : Prop := g 35 l = a ∧ g 36 l = a + al.2.2.2.1.length ∧ g 37 l = a + al.2.2.2.1.length + al.2.2.2.2.length ∧ g 33 l = al.1 ∧ g 32 l = al.2.1 ∧ g 34 l = al.2.2.1 ∧ (∀ i, i < al.2.2.2.1.length → g 38 (a + i) = encG a (al.2.2.2.1.getD i (0, 0))) ∧ ∀ i, i < al.2.2.2.2.length → g 38 (a + al.2.2.2.1.length + i) = encG (a + al.2.2.2.1.length) (al.2.2.2.2.getD i (0, 0))
def RdP (N : Nat) (s : pS) (g : mz_S) : Prop := g 31 1 = s.1 ∧ g 31 2 = s.2.1 ∧ g 31 3 = s.2.2.1 ∧ s.1 < N ∧ (0 ≤ s.2.1 ∧ s.2.1 ≤ 5)
theorem pr_take {t : pT} {k : Int} {s : pS} : (ptake t k s).2.2.2 = s.2.2.2 := by
  unfold ptake
  split
  · rfl
  · exact pr_fail
theorem pre0_take {t : pT} {k : Int} {s : pS} : ptake t k (pre0 s) = pre0 (ptake t k s) := by
  unfold ptake
  show (if pk t s = k then padv (pre0 s) else pfail t 2 (pre0 s)) = _
  split
  · rfl
  · unfold pfail
    show (if s.2.1 = 0 then _ else pre0 s) = _
    split <;> rfl
/-- the part behind a line's number -/
theorem rl_94 {T : Nat × (Nat → Int32)} {d : Nat} {Q : mz_K} {X : mz_X} {g : mz_S} {u : Nat × Nat} {N b b0 l : Nat} {s : pS} {x : Int} (hW : TkW g N) (h : RdC g N b s g) (h0 : s.2.2.2 = []) (el : g 31 4 = l) (hl : l < 144) (hb0 : b0 ≤ 2000) (hb : b ≤ b0 + s.1) (hd : 160 ≤ d)
    (k : ∀ g', LineF g g' l b → g' 31 4 = l + 1 → RdP N (ptake (tokC g N) 59 (ptest (tokC g N) (pre0 (psay (tokC g N) s).2.2))) g' → g' 33 l = g 33 l → ((ptake (tokC g N) 59 (ptest (tokC g N) (pre0 (psay (tokC g N) s).2.2))).2.1 = 0 → LnC g' l (g 33 l, (psay (tokC g N) s).1, (psay (tokC g N) s).2.1, (psay (tokC g N) s).2.2.2.2.2, (ptest (tokC g N) (pre0 (psay (tokC g N) s).2.2)).2.2.2) b ∧ g' 31 11 = ((b + (psay (tokC g N) s).2.2.2.2.2.length + (ptest (tokC g N) (pre0 (psay (tokC g N) s).2.2)).2.2.2.length : Nat) : Int)) → Q 0 g') :
    aX7_readLine T d Q X 94 [some (mx_R 31), some (mx_I x), some (mx_I (l : Int))] [] g u := by
  have hn1 := hW.1
  have hN := hW.pN
  obtain ⟨d, rfl⟩ : ∃ d', d = d' + 5 := ⟨d - 5, by omega⟩
  have e11 : g 31 11 = b := by rw [h.2.2.2.2.2.1, h0]; simp
  generalize htk : tokC g N = t at k
  refine zX7_readLine_94 ?_
  refine s_inN ?_ (fun ea => ?_)
  · omega
  try simp only [ea]
  clear ea
  intro gB eB
  have fB : LineF g gB l b := by rw [eB]; exact (LineF.rf g l b).up (by decide) _
  have qB : ∀ q, q ≠ 35 → gB q = g q := fun q hq => by rw [eB, up_at, if_neg hq]
  have rB : RdC gB N b s gB := h.re h0 (qB 31 (by decide))
  obtain ⟨hWB, tB⟩ := fB.tk hW
  rw [htk] at tB
  have v35 : gB 35 l = b := by rw [eB, up_s, e11]
  refine sX7_readSaying hWB rB h0 hl hb0 hb (by omega) (fun G' gC fG vG rC => ?_)
  rw [tB] at vG rC
  generalize hps : psay t s = ps at k vG rC
  obtain ⟨so, vo, sC⟩ := ps
  simp only at k vG rC
  have fC : LineF g gC l b := (fB.tr fG.line (Nat.le_refl _)).tr rC.line (Nat.le_refl _)
  have hC11 : gC 31 11 = ((b + sC.2.2.2.length : Nat) : Int) := by rw [rC.2.2.2.2.2.1]; omega
  rw [hC11]
  refine s_inN ?_ (fun ea => ?_)
  · omega
  try simp only [ea]
  clear ea
  intro gD eD
  have fD : LineF g gD l b := by rw [eD]; exact fC.up (by decide) _
  have qD : ∀ q, q ≠ 36 → gD q = gC q := fun q hq => by rw [eD, up_at, if_neg hq]
  obtain ⟨hWD, tD⟩ := fD.tk hW
  rw [htk] at tD
  have rD : RdC gD N (b + sC.2.2.2.length) (pre0 sC) gD := rC.here (qD 31 (by decide))
  have hr := pk_rng hWD (s := pre0 sC) rD.2.2.2.2.2.2.2.2.2
  rw [tD] at hr
  have cq : ∀ q, q ≠ 31 → q ≠ 38 → gC q = G' q := fun q h1 h2 => by
    by_cases z : q = 99
    · subst z; funext f; exact rC.1.2 f (by simp)
    · exact rC.1.1 q (by intro z2; rcases List.mem_cons.mp z2 with z3 | z3; exact h1 z3; rcases List.mem_cons.mp z3 with z4 | z4; exact h2 z4; exact absurd z4 (by simp)) z
  -- how many steps there are
  have lens : b + sC.2.2.2.length ≤ b0 + sC.1 := by
    have P : pL 0 s sC ∧ pG N s sC := by
      have e : sC = (psay t s).2.2 := by rw [hps]
      rw [e]
      unfold psay
      have hNt : pN t N := by rw [← htk]; exact hN
      split
      · next z =>
        have A := pL.adv (s := s)
        have GA := pG.adv hNt (s := s) (by omega)
        split
        · have B := pG.num hNt (s := padv s)
          exact ⟨(A.tr B.2).weak, GA.tr B.1⟩
        · split
          · exact ⟨A.emit, GA.tr pG.emit⟩
          · split
            · have B := pG.cho hNt (a := 148) (b := 147) (c := 147) (by omega) (by omega) (by omega) (s := padv s)
              exact ⟨(A.tr B.2.1).emit, (GA.tr B.1).tr pG.emit⟩
            · split
              · have B := pG.cho hNt (a := 140) (b := 145) (c := 146) (by omega) (by omega) (by omega) (s := padv s)
                exact ⟨((A.tr B.2.1).tr (prs_L t pF 4 (by decide) 0 _)).weak, (GA.tr B.1).tr (prs_G hNt pF 4 (by decide) 0 _)⟩
              · exact ⟨(A.tr (prs_L t pF 4 (by decide) 0 _)).weak, GA.tr (prs_G hNt pF 4 (by decide) 0 _)⟩
      · exact ⟨pL.fail, pG.fail⟩
    have P1 := P.1
    unfold pL at P1
    rw [h0] at P1
    have : ([] : List (Int × Int)).length = 0 := rfl
    omega
  have fin : ∀ (gE : mz_S) (sE : pS), sE = ptest t (pre0 sC) → RdC gD N (b + sC.2.2.2.length) sE gE → b + sC.2.2.2.length + sE.2.2.2.length ≤ 2400 → aX7_readLine T (d + 5) Q X 144 [some (mx_R 31), some (mx_I x), some (mx_I (l : Int))] [] gE u := by
    intro gE sE hsE rE hlen
    rw [← hsE] at k
    refine zX7_readLine_144 ?_
    refine s_inN ?_ (fun ea => ?_)
    · omega
    try simp only [ea]
    clear ea
    intro gF eF
    have fE : LineF gD gE l (b + sC.2.2.2.length) := rE.line
    have hE11 : gE 31 11 = ((b + sC.2.2.2.length + sE.2.2.2.length : Nat) : Int) := by rw [rE.2.2.2.2.2.1]; omega
    have qF : ∀ q, q ≠ 37 → gF q = gE q := fun q hq => by rw [eF, up_at, if_neg hq]
    have fF : LineF gD gF l (b + sC.2.2.2.length) := by rw [eF]; exact fE.up (by decide) _
    have rF : RdC gF N (b + sC.2.2.2.length + sE.2.2.2.length) (pre0 sE) gF := rE.here (qF 31 (by decide))
    obtain ⟨hWF, tF⟩ := fF.tk hWD
    rw [tD] at tF
    refine sX7_take hWF rF (by omega) (fun gG rG => ?_)
    rw [tF, pre0_take] at rG
    have h4 : gG 31 4 = l := by
      rw [rG.2.1 4 (by decide) (by decide) (by decide) (by decide), qF 31 (by decide), rE.2.1 4 (by decide) (by decide) (by decide) (by decide), qD 31 (by decide), rC.2.1 4 (by decide) (by decide) (by decide) (by decide), fG.2.2.1 4 (by decide) (by decide) (by decide), qB 31 (by decide)]
      exact el
    intro gH eH
    have fG2 : LineF gF gG l (b + sC.2.2.2.length + sE.2.2.2.length) := rG.line
    have qH : ∀ q, q ≠ 31 → gH q = gG q := fun q hq => by rw [eH, up_at, if_neg hq]
    have qH31 : ∀ p, p ≠ 4 → gH 31 p = gG 31 p := fun p hp => by rw [eH, up_i hp]
    have fH : LineF g gH l b := by
      have f1 : LineF g gG l b := (fD.tr fF (by omega)).tr fG2 (by omega)
      refine ⟨?_, fun q hq i hi => ?_, fun i hi => ?_⟩
      · rw [eH]; exact f1.1.up (by decide) (by decide)
      · rw [qH q (by revert hq; revert q; decide)]; exact f1.2.1 q hq i hi
      · rw [qH 38 (by decide)]; exact f1.2.2 i hi
    have q6 : ∀ q, q ≠ 31 → q ≠ 38 → q ≠ 37 → q ≠ 36 → gH q = G' q := by
      intro q a1 a2 a3 a4
      have d1 : gG q = gF q := by
        by_cases z : q = 99
        · subst z; funext f; exact rG.1.2 f (by simp)
        · exact rG.1.1 q (by intro z2; rcases List.mem_cons.mp z2 with z3 | z3; exact a1 z3; rcases List.mem_cons.mp z3 with z4 | z4; exact a2 z4; exact absurd z4 (by simp)) z
      have d2 : gE q = gD q := by
        by_cases z : q = 99
        · subst z; funext f; exact rE.1.2 f (by simp)
        · exact rE.1.1 q (by intro z2; rcases List.mem_cons.mp z2 with z3 | z3; exact a1 z3; rcases List.mem_cons.mp z3 with z4 | z4; exact a2 z4; exact absurd z4 (by simp)) z
      rw [qH q a1, d1, qF q a3, d2, qD q a4, cq q a1 a2]
    have v33 : gH 33 l = g 33 l := by
      rw [q6 33 (by decide) (by decide) (by decide) (by decide), fG.1.1 33 (by decide) (by decide), qB 33 (by decide)]
    refine k gH fH (by rw [eH, up_s, h4]) ?_ v33 (fun hft => ?_)
    · obtain ⟨-, -, b3, b4, b5, -, -, -, b9, b10⟩ := rG
      exact ⟨by rw [qH31 1 (by decide)]; exact b3, by rw [qH31 2 (by decide)]; exact b4, by rw [qH31 3 (by decide)]; exact b5, b10, b9⟩
    · have hE0 : sE.2.1 = 0 := by
        refine Decidable.byContradiction (fun z => ?_)
        rw [ptake_bad (by decide) z] at hft
        exact z hft
      have hC0 : sC.2.1 = 0 := by
        rw [hsE] at hE0
        unfold ptest at hE0
        split at hE0
        · next z => exact (pk_n (t := t) (N := N) (by rw [← htk]; exact hN) (s := pre0 sC) (by omega)).1
        · exact hE0
      have vv := vG hC0
      have g36 : gH 36 l = ((b + sC.2.2.2.length : Nat) : Int) := by
        have d1 : gG 36 = gF 36 := rG.1.1 36 (by decide) (by decide)
        have d2 : gE 36 = gD 36 := rE.1.1 36 (by decide) (by decide)
        rw [qH 36 (by decide), d1, qF 36 (by decide), d2, eD, up_s]
      have g37 : gH 37 l = ((b + sC.2.2.2.length + sE.2.2.2.length : Nat) : Int) := by
        have d1 : gG 37 = gF 37 := rG.1.1 37 (by decide) (by decide)
        rw [qH 37 (by decide), d1, eF, up_s, hE11]
      refine ⟨⟨?_, ?_, ?_, v33, ?_, ?_, fun i hi => ?_, fun i hi => ?_⟩, ?_⟩
      · rw [q6 35 (by decide) (by decide) (by decide) (by decide), fG.1.1 35 (by decide) (by decide), v35]
      · show gH 36 l = (b : Int) + (sC.2.2.2.length : Int); rw [g36]; omega
      · show gH 37 l = (b : Int) + (sC.2.2.2.length : Int) + (sE.2.2.2.length : Int); rw [g37]; omega
      · rw [q6 32 (by decide) (by decide) (by decide) (by decide)]; exact vv.1
      · rw [q6 34 (by decide) (by decide) (by decide) (by decide)]; exact vv.2
      · have hi' : i < sC.2.2.2.length := hi
        rw [qH 38 (by decide), fG2.2.2 (b + i) (by omega), qF 38 (by decide), fE.2.2 (b + i) (by omega), qD 38 (by decide)]
        exact rC.2.2.2.2.2.2.2.1 i hi'
      · have hi' : i < sE.2.2.2.length := hi
        show gH 38 (b + sC.2.2.2.length + i) = _
        rw [qH 38 (by decide), fG2.2.2 (b + sC.2.2.2.length + i) (by omega), qF 38 (by decide)]
        exact rE.2.2.2.2.2.2.2.1 i hi'
      · rw [qH31 11 (by decide), rG.2.2.2.2.2.1]
        show ((b + sC.2.2.2.length + sE.2.2.2.length : Nat) : Int) + (([] : List (Int × Int)).length : Nat) = _
        simp
  refine sX7_kind hWD rD ?_
  rw [tD]
  first | with_reducible refine c_lt ?_ ?_ (fun z1 => ?_) (fun z1 => ?_) | with_reducible refine c_le ?_ ?_ (fun z1 => ?_) (fun z1 => ?_) | with_reducible refine c_eq ?_ ?_ (fun z1 => ?_) (fun z1 => ?_) | with_reducible refine c_ne ?_ ?_ (fun z1 => ?_) (fun z1 => ?_)
  · omega
  · omega
  · refine fin gD (pre0 sC) ?_ rD ?_
    · unfold ptest; rw [if_neg z1]
    · show b + sC.2.2.2.length + 0 ≤ 2400
      have := rC.2.2.2.2.2.2.2.2.2
      omega
  · rintro _ rfl
    have hNt : pN t N := by rw [← htk]; exact hN
    have hs := pM_adv hNt (s := pre0 sC) (by omega)
    have L := prs_L t pF 9 (by decide) 0 (padv (pre0 sC))
    have GG := (prs_G hNt pF 9 (by decide) 0 (padv (pre0 sC))).2.1
    unfold pL at L
    have e1 : (padv (pre0 sC)).1 = sC.1 + 1 := rfl
    have e2 : (padv (pre0 sC)).2.2.2 = [] := rfl
    have e3 : (pre0 sC).1 = sC.1 := rfl
    have e4 : ([] : List (Int × Int)).length = 0 := rfl
    rw [e1, e2] at L
    rw [e1] at GG
    have := (SC_all (T := T) (b := b + sC.2.2.2.length) hWD hb0 pF).1.2.2.2.2.2 0 (padv (pre0 sC)) (d + 5) (fun _ g6 => aX7_readLine T (d + 5) Q X 144 [some (mx_R 31), some (mx_I x), some (mx_I (l : Int))] [] g6 u) X _ ⟨by omega, by
        have : pM N (padv (pre0 sC)) ≤ 16 * N := by unfold pM; split <;> omega
        show pM N (padv (pre0 sC)) + 9 < 7000
        omega, rD.adv hs.2.2, by rw [e1, e2]; show b + sC.2.2.2.length + 0 ≤ _; omega⟩ (by unfold dep; omega) (fun g6 hg6 => by
          rw [tD] at hg6
          refine fin g6 _ ?_ hg6 (by omega)
          unfold ptest
          rw [if_pos z1])
    exact this
