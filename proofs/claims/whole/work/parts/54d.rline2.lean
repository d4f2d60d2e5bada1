/-! readLine of the reference -/
theorem sayR_ft {t : pT} {s : pS} : (psayR t s).2.1 = (psay t s).2.2.2.1 ∧ (psayR t s).1 = (psay t s).2.2.1 ∧ pre0 (psayR t s) = pre0 (psay t s).2.2 := by
  unfold psayR
  split
  · exact ⟨rfl, rfl, rfl⟩
  · exact ⟨rfl, rfl, rfl⟩
theorem rr_97 {T : Nat × (Nat → Int32)} {d : Nat} {Q : mz_K} {X : mz_X} {g : mz_S} {u : Nat × Nat} {n N tt B l : Nat} {s : pS} {x x2 : Int} (hW : RdW g n N tt) (h : RdR g n N tt B 0 s g) (h0 : s.2.2.2 = []) (hl : l < 144) (hB : 2 * B ≤ 3 * plcT g n s.1 + 6) (hd : 180 ≤ d)
    (k : ∀ g', LineR g g' l (700 * tt + B) → g' 125 l = g 125 l → (∃ B', RdR g' n N tt B' 0 (pre0 (ptake (tokR (g 119) n N) 59 (ptest (tokR (g 119) n N) (pre0 (psay (tokR (g 119) n N) s).2.2)))) g' ∧ ((ptake (tokR (g 119) n N) 59 (ptest (tokR (g 119) n N) (pre0 (psay (tokR (g 119) n N) s).2.2))).2.1 = 0 → LnR g' tt l (g 125 l, (psay (tokR (g 119) n N) s).1, (psay (tokR (g 119) n N) s).2.1, (psay (tokR (g 119) n N) s).2.2.2.2.2, (ptest (tokR (g 119) n N) (pre0 (psay (tokR (g 119) n N) s).2.2)).2.2.2) B ∧ B ≤ B' ∧ 2 * B' ≤ 3 * plcT g n (ptake (tokR (g 119) n N) 59 (ptest (tokR (g 119) n N) (pre0 (psay (tokR (g 119) n N) s).2.2))).1 + 6 ∧ B' = B + lenR (psayR (tokR (g 119) n N) s).2.2.2 + lenR (ptest (tokR (g 119) n N) (pre0 (psay (tokR (g 119) n N) s).2.2)).2.2.2)) → Q 0 g') :
    aX12_readLine T d Q X 97 [some (mx_R 99), some (mx_I x), some (mx_I x2), some (mx_I (l : Int))] [] g u := by
  have hn1 := hW.2.1
  have hN := hW.pN
  have hn4 := hW.1
  obtain ⟨d, rfl⟩ : ∃ d', d = d' + 8 := ⟨d - 8, by omega⟩
  generalize htk : tokR (g 119) n N = t at k
  have PH0 := plcH_R hW
  rw [htk] at PH0
  have hNt : pN t N := by rw [← htk]; exact hN
  refine zX12_readLine_97 ?_
  refine s_inN ?_ (fun ea => ?_)
  · omega
  try simp only [ea]
  clear ea
  intro gB eB
  have fB : LineR g gB l (700 * tt + B) := by rw [eB]; exact (LineR.rf g l _).up (by decide) _
  obtain ⟨hWB, tB⟩ := fB.w hW
  have rB : RdR gB n N tt B 0 s gB := h.re h0 (by rw [eB]; exact up_ch (by decide))
  have qB : ∀ q, q ≠ 127 → gB q = g q := fun q hq => by rw [eB, up_at, if_neg hq]
  have plB : ∀ i, plcT gB n i = plcT g n i := fun i => by unfold plcT; rw [tB]
  refine sX12_readSays hWB rB h0 hl (by rw [plB]; exact hB) (by omega) (fun G' gC fG vG rC => ?_)
  rw [tB, htk] at vG rC
  have sf := sayR_ft (t := t) (s := s)
  have sp := say_Ph PH0 h0
  have sumeq : (psayR t s).2.2.2 = sumR (g 125 l, (psay t s).1, (psay t s).2.1, (psay t s).2.2.2.2.2, (ptest t (pre0 (psay t s).2.2)).2.2.2) := by
    unfold psayR sumR
    split
    · rfl
    · rfl
  rw [← sf.2.2] at k sumeq
  generalize hsC : psayR t s = sC at sf sp rC sumeq k
  have fC : LineR g gC l (700 * tt + B) := (fB.tr fG.line (Nat.le_refl _)).tr rC.line (Nat.le_refl _)
  refine s_inN ?_ (fun ea => ?_)
  · omega
  try simp only [ea]
  clear ea
  intro gD eD
  have fD : LineR g gD l (700 * tt + B) := by rw [eD]; exact fC.up (by decide) _
  have qD : ∀ q, q ≠ 128 → gD q = gC q := fun q hq => by rw [eD, up_at, if_neg hq]
  obtain ⟨hWD, tD⟩ := fD.w hW
  have rD : RdR gD n N tt (B + lenR sC.2.2.2) 0 (pre0 sC) gD := rC.here (by rw [eD]; exact up_ch (by decide))
  have hr := pkR_rng (c := gD) (n := n) (s := pre0 sC) rD.2.2.2.2.2.1
  rw [tD, htk] at hr
  have qC : ∀ q, q ∈ [124, 125, 126, 127, 128, 129] → gC q = G' q := fun q hq => rC.1.1 q (by simp at hq ⊢; omega) (by simp at hq; omega)
  have fin : ∀ (gE : mz_S) (sE : pS), sE = ptest t (pre0 sC) → RdR gD n N tt (B + lenR sC.2.2.2) 0 sE gE → 2 * (lenR sE.2.2.2) + 3 * plcT g n sC.1 ≤ 3 * plcT g n sE.1 → aX12_readLine T (d + 8) Q X 140 [some (mx_R 99), some (mx_I x), some (mx_I x2), some (mx_I (l : Int))] [] gE u := by
    intro gE sE hsE rE hlen
    rw [← hsE] at k sumeq
    refine zX12_readLine_140 ?_
    refine s_inN ?_ (fun ea => ?_)
    · omega
    try simp only [ea]
    clear ea
    intro gF eF
    have fE : LineR gD gE l (700 * tt + (B + lenR sC.2.2.2)) := rE.line
    have qF : ∀ q, q ≠ 129 → gF q = gE q := fun q hq => by rw [eF, up_at, if_neg hq]
    have fF : LineR gD gF l (700 * tt + (B + lenR sC.2.2.2)) := by rw [eF]; exact fE.up (by decide) _
    obtain ⟨hWF, tF⟩ := fF.w hWD
    have rF : RdR gF n N tt (B + lenR sC.2.2.2 + lenR sE.2.2.2) 0 (pre0 sE) gF := rE.here (by rw [eF]; exact up_ch (by decide))
    refine sX12_need hWF rF (by omega) (fun gG rG => ?_)
    rw [tF, tD, htk, pre0_take] at rG
    have fGG : LineR gF gG l (700 * tt + (B + lenR sC.2.2.2 + lenR sE.2.2.2)) := rG.line
    have fA : LineR g gG l (700 * tt + B) := (fD.tr fF (by omega)).tr fGG (by omega)
    have qG : ∀ q, q ∈ [124, 125, 126, 127, 128, 129] → gG q = gF q := fun q hq => rG.1.1 q (by simp at hq ⊢; omega) (by simp at hq; omega)
    have qE : ∀ q, q ∈ [124, 125, 126, 127, 128, 129] → gE q = gD q := fun q hq => rE.1.1 q (by simp at hq ⊢; omega) (by simp at hq; omega)
    have q4 : ∀ q, q ∈ [124, 125, 126, 127] → gG q = G' q := by
      intro q hq
      have h1 : q ∈ [124, 125, 126, 127, 128, 129] := by simp at hq ⊢; omega
      have h2 : q ≠ 129 ∧ q ≠ 128 := by simp at hq; omega
      rw [qG q h1, qF q h2.1, qE q h1, qD q h2.2, qC q h1]
    have v125 : gG 125 l = g 125 l := by
      rw [q4 125 (by decide), fG.1.1 125 (by decide) (by decide), qB 125 (by decide)]
    refine k gG fA v125 ⟨B + lenR sC.2.2.2 + lenR sE.2.2.2, ?_, fun hft => ?_⟩
    · have := rG.here (c' := gG) (Ch.rf gG)
      have e0 : lenR (pre0 (ptake t 59 sE)).2.2.2 = 0 := rfl
      rw [e0, Nat.add_zero] at this
      exact this
    · have hE0 : sE.2.1 = 0 := by
        refine Decidable.byContradiction (fun z => ?_)
        rw [ptake_bad (by decide) z] at hft
        exact z hft
      have hC0 : sC.2.1 = 0 := by
        rw [hsE] at hE0
        unfold ptest at hE0
        split at hE0
        · next z => exact (pk_n (t := t) (N := N) hNt (s := pre0 sC) (by omega)).1
        · exact hE0
      have hs0 : s.2.1 = 0 := by
        refine Decidable.byContradiction (fun z => ?_)
        have : (psay t s).2.2.2.1 = s.2.1 := by unfold psay; rw [pk_bad z, if_neg (by decide)]; show (pfail t 2 s).2.1 = s.2.1; rw [pfail_bad z]
        rw [← sf.1] at this
        exact z (by rw [← this]; exact hC0)
      have vv := vG (by rw [← sf.1]; exact hC0)
      have cC := (rC.2.2.2.2.2.2 hC0)
      have cE := (rE.2.2.2.2.2.2 hE0)
      have g37 : g 99 37 = ((B : Nat) : Int) := by have := (h.2.2.2.2.2.2 hs0).2.2.1; rw [h0, lenR_nil, Nat.add_zero] at this; exact this
      have pt : plcT g n sE.1 ≤ plcT g n (ptake t 59 sE).1 := by
        unfold ptake
        split
        · next z => have := (plc_adv PH0 (s := sE) (by omega)).1; omega
        · unfold pfail; split <;> exact Nat.le_refl _
      refine ⟨⟨?_, ?_, ?_, v125, ?_, ?_, ?_, ?_, ?_⟩, by omega, ?_, rfl⟩
      · rw [q4 127 (by decide), fG.1.1 127 (by decide) (by decide), eB, up_s, g37]
      · rw [← sumeq, qG 128 (by decide), qF 128 (by decide), qE 128 (by decide), eD, up_s, cC.2.2.1]
      · rw [← sumeq, qG 129 (by decide), eF, up_s, cE.2.2.1]
      · rw [q4 124 (by decide)]; exact vv.1
      · intro z; rw [q4 126 (by decide)]; exact vv.2.1 z
      · intro z; rw [q4 126 (by decide)]; exact vv.2.2 z
      · rw [← sumeq]
        refine cC.2.2.2.fr (fun i hi => ?_)
        rw [fGG.2.2 i (by omega), qF 123 (by decide), fE.2.2 i (by omega), qD 123 (by decide)]
      · rw [← sumeq]
        refine cE.2.2.2.fr (fun i hi => ?_)
        rw [fGG.2.2 i (by omega), qF 123 (by decide)]
      · omega
  refine sW_unless rD ?_
  rw [tD, htk]
  first | with_reducible refine b_eq (fun z1 => ?_) (fun z1 => ?_) | with_reducible refine b_ne (fun z1 => ?_) (fun z1 => ?_)
  · refine fin gD (pre0 sC) ?_ rD ?_
    · unfold ptest; rw [if_neg z1]
    · show 2 * 0 + 3 * plcT g n sC.1 ≤ 3 * plcT g n sC.1; omega
  · have hs := pM_adv hNt (s := pre0 sC) (by omega)
    have pa := (plc_adv PH0 (s := pre0 sC) (by omega)).1
    have e3 : (pre0 sC).1 = sC.1 := rfl
    rw [e3] at pa
    refine sX12_next hWD rD (by rw [tD, htk]; omega) (fun g5 r5 => ?_)
    have P : pPh (plcT g n) 1 (padv (pre0 sC)) (prs t pF 9 0 (padv (pre0 sC))) := prs_Ph PH0 pF 9 (by decide) 0 (padv (pre0 sC))
    unfold pPh at P
    have e2 : (padv (pre0 sC)).2.2.2 = [] := rfl
    rw [e2, lenR_nil] at P
    have plD : ∀ i, plcT gD n i = plcT g n i := fun i => by unfold plcT; rw [tD]
    have := (SR_all (T := T) (B := B + lenR sC.2.2.2) hWD pF).1.2.2.2.2.2 0 (padv (pre0 sC)) (d + 8) (fun _ g6 => aX12_readLine T (d + 8) Q X 140 [some (mx_R 99), some (mx_I x), some (mx_I x2), some (mx_I (l : Int))] [] g6 u) X g5 ⟨by omega, by
        have : pM N (padv (pre0 sC)) ≤ 16 * N := by unfold pM; split <;> omega
        show pM N (padv (pre0 sC)) + 9 < 7000
        omega, r5, by rw [e2, lenR_nil, plD]; omega⟩ (by unfold depR; omega) (fun g6 hg6 => by
          rw [tD, htk] at hg6
          refine fin g6 _ ?_ hg6 (by omega)
          unfold ptest
          rw [if_pos z1])
    exact this
