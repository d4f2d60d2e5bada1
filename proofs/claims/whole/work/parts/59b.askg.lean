/-! asking, from a state that went before -/
def akF (g : mz_S) (nt : Nat) (al : Nat → List pA) (a b : Nat) (n coin : Int) (s : Nat) : Int := askP (nmF g a b n coin) (cnF al (fC g al nt (g 10 a).toNat (g 1 0))) (fC g al nt (g 10 a).toNat (g 1 0)).length s (fC g al nt (g 10 a).toNat (g 1 0)).length
theorem akF_rng {g : mz_S} {nt a b s : Nat} {al : Nat → List pA} {n coin : Int} (hs : s < 9) : mx_lea.getD s 0 ≤ w64 (akF g nt al a b n coin s) ∧ w64 (akF g nt al a b n coin s) ≤ mx_mos.getD s 0 := askP_rng hs _
theorem w32_akF {g : mz_S} {nt a b s : Nat} {al : Nat → List pA} {n coin : Int} (hs : s < 9) : w32 (akF g nt al a b n coin s) = w64 (akF g nt al a b n coin s) := by
  have h := akF_rng (g := g) (nt := nt) (al := al) (a := a) (b := b) (n := n) (coin := coin) hs
  have h2 := lea_mos s hs
  rw [← w32_w64]
  exact w32_of (by omega) (by omega)
def AsS (c g : mz_S) : Prop := (∀ q ∈ [1, 3, 10, 11, 12, 32, 33, 34, 35, 36, 37, 38, 40, 41, 42, 43, 44, 120, 121, 122, 123, 124, 125, 126, 127, 128, 129], g q = c q) ∧ g 39 3 = c 39 3
theorem AsS.rf (g : mz_S) : AsS g g := ⟨fun _ _ => rfl, rfl⟩
theorem AsS.tr {c g g' : mz_S} {S F : List Nat} (h : AsS c g) (h2 : Ch S F g g') (hS : ∀ q ∈ [1, 3, 10, 11, 12, 32, 33, 34, 35, 36, 37, 38, 40, 41, 42, 43, 44, 120, 121, 122, 123, 124, 125, 126, 127, 128, 129], q ∉ S) (h3 : g' 39 3 = g 39 3) : AsS c g' := ⟨fun q hq => (h2.1 q (hS q hq) (by intro z; subst z; revert hq; decide)).trans (h.1 q hq), h3.trans h.2⟩
theorem AsS.txw {c g : mz_S} {nt : Nat} {al : Nat → List pA} (h : TxW c nt al) (e : AsS c g) : TxW g nt al := by
  obtain ⟨h1, h2, h3, L, b, h4, h5, h6⟩ := h
  refine ⟨h1, by rw [e.2]; exact h2, by rw [e.1 40 (by decide), e.1 42 (by decide)]; exact h3, L, b, h4, h5, fun t ht => (h6 t ht).same (fun q hq => e.1 q (by simp at hq ⊢; omega))⟩
theorem AsS.ak {c g : mz_S} {nt a b s : Nat} {al : Nat → List pA} {n coin : Int} (e : AsS c g) : akF g nt al a b n coin s = akF c nt al a b n coin s := by
  have fe : ∀ t dy, fC g al nt t dy = fC c al nt t dy := fun t dy => fC_cg (e.1 40 (by decide)) (e.1 41 (by decide)) (e.1 42 (by decide))
  unfold akF
  rw [fe, e.1 10 (by decide), e.1 1 (by decide)]
  refine askP_cg (fun i hi => ?_) _
  unfold nmF
  rw [e.1 1 (by decide), e.1 3 (by decide), e.1 10 (by decide), e.1 11 (by decide), e.1 12 (by decide)]
def WkS (W : Int) (g : mz_S) : Prop := (0 ≤ g 39 11 ∧ g 39 11 ≤ W) ∧ ∀ i, i < 1000 → 0 ≤ g 46 i ∧ g 46 i ≤ g 39 11
theorem WkS.wk {W W' : Int} {g : mz_S} (w : WkS W g) (h : W ≤ W') : WkS W' g := ⟨⟨w.1.1, by have := w.1.2; omega⟩, w.2⟩
theorem WkS.fr {W : Int} {S F : List Nat} {g g' : mz_S} (w : WkS W g) (h : Ch S F g g') (hS : ∀ q ∈ [39, 46], q ∉ S) : WkS W g' := by
  have e : ∀ q ∈ [39, 46], g' q = g q := fun q hq => h.1 q (hS q hq) (by intro z; subst z; revert hq; decide)
  unfold WkS at w ⊢
  rw [e 39 (by decide), e 46 (by decide)]
  exact w
theorem sX3_askG {T : Nat × (Nat → Int32)} {d : Nat} {Q : mz_K} {X : mz_X} {g : mz_S} {c : mz_S} {nt a b s : Nat} {W : Int} {al : Nat → List pA} {n coin : Int} (wl : WfL0 g) (wb : WfB g) (tw : TxW c nt al) (e : AsS c g) (wk : WkS W g) (hW : W < 2147483647) (ha : a < 12) (hb : b < 12) (hs : s < 9) (k : ∀ g', Ch [39, 45, 46, 47] [] g g' → AsS c g' → WkS (W + 1) g' → Q (akF c nt al a b n coin s) g') : zC T (d + 6) 43 [mx_R 39, mx_I (a : Int), mx_I (b : Int), mx_J n, mx_I coin, mx_I (s : Int)] g Q X := by
  have ra := wb.2.1 a ha
  have w0 := wl.1
  obtain ⟨town, et⟩ := Int.eq_ofNat_of_zero_le ra.1.1
  obtain ⟨dy, ed⟩ := Int.eq_ofNat_of_zero_le w0.1
  have w1 := wk.1
  refine sX3_ask (d := d) wl wb (e.txw tw) ha hb et ed hs (by omega) wk.2 (fun g' c' h3 h11 h46 => ?_)
  have k := k g' c' (e.tr c' (by decide) h3) ⟨by omega, h46⟩
  rw [← e.ak] at k
  unfold akF at k
  rw [et, ed] at k
  exact k
theorem sX12_asksG {T : Nat × (Nat → Int32)} {d : Nat} {Q : mz_K} {X : mz_X} {g : mz_S} {c : mz_S} {nt a b : Nat} {al : Nat → List pA} {n coin : Int} (wl : WfL0 c) (rl : ReL c g) (wb : WfB c) (rb : ReB c g) (tw : TxW c nt al) (h36 : g 99 36 = (nt : Int)) (e : ∀ q ∈ [120, 121, 122, 123, 124, 125, 126, 127, 128, 129], g q = c q) (ha : a < 12) (hb : b < 12) (k : ∀ g', Ch [130, 131, 132, 133] [50, 54] g g' → (∀ s, s < 9 → g' 133 s = akF c nt al a b n coin s) → Q 0 g') : zC T (d + 5) 272 [mx_R 99, mx_I (a : Int), mx_I (b : Int), mx_J n, mx_I coin] g Q X := by
  have ra := wb.2.1 a ha
  have w0 := wl.1
  obtain ⟨town, et⟩ := Int.eq_ofNat_of_zero_le ra.1.1
  obtain ⟨dy, ed⟩ := Int.eq_ofNat_of_zero_le w0.1
  refine sX12_asks (d := d) wl rl wb rb tw h36 e ha hb et ed (fun g' c' v => k g' c' (fun s hs => ?_))
  rw [v s hs]
  unfold akF
  rw [et, ed]
  rfl
theorem w32_add {a b : Int} (h1 : -2147483648 ≤ a + w32 b) (h2 : a + w32 b ≤ 2147483647) : w32 (a + b) = a + w32 b := by
  have e : w32 (a + w32 b) = w32 (a + b) := by rw [w32_bm, w32_bm, w32_bm, Int.add_bmod_bmod]
  rw [← e, w32_of h1 h2]
