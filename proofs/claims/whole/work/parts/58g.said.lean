/-! said on both sides -/
theorem fC_cg {g g' : mz_S} {al : Nat → List pA} {nt town : Nat} {day : Int} (h0 : g' 40 = g 40) (h1 : g' 41 = g 41) (h2 : g' 42 = g 42) : fC g' al nt town day = fC g al nt town day := by
  have : stP g' town day = stP g town day := by funext t; unfold stP; rw [h1, h2]
  unfold fC
  rw [h0, this]
theorem TxW.fr {g g' : mz_S} {nt : Nat} {al : Nat → List pA} {S F : List Nat} (h : TxW g nt al) (c : Ch S F g g') (hS : ∀ q ∈ [32, 33, 34, 35, 36, 37, 38, 39, 40, 41, 42, 43, 44, 120, 121, 122, 123, 124, 125, 126, 127, 128, 129], q ∉ S) : TxW g' nt al := by
  have e : ∀ q ∈ [32, 33, 34, 35, 36, 37, 38, 39, 40, 41, 42, 43, 44, 120, 121, 122, 123, 124, 125, 126, 127, 128, 129], g' q = g q := fun q hq => c.1 q (hS q hq) (by intro z; subst z; revert hq; decide)
  obtain ⟨h1, h2, h3, L, b, h4, h5, h6⟩ := h
  exact ⟨h1, by rw [e 39 (by decide)]; exact h2, by rw [e 40 (by decide), e 42 (by decide)]; exact h3, L, b, h4, h5, fun t ht => (h6 t ht).same (fun q hq => e q (by simp at hq ⊢; omega))⟩
/-- the class asks, whole -/
theorem sX3_ask {T : Nat × (Nat → Int32)} {d : Nat} {Q : mz_K} {X : mz_X} {g : mz_S} {nt a b town dy s : Nat} {al : Nat → List pA} {n coin : Int} (wl : WfL0 g) (wb : WfB g) (tw : TxW g nt al) (ha : a < 12) (hb : b < 12) (h10 : g 10 a = (town : Int)) (hd0 : g 1 0 = (dy : Int)) (hs : s < 9) (hk1 : 0 ≤ g 39 11 ∧ g 39 11 < 2147483647) (hk2 : ∀ i, i < 1000 → 0 ≤ g 46 i ∧ g 46 i ≤ g 39 11) (k : ∀ g', Ch [39, 45, 46, 47] [] g g' → g' 39 3 = g 39 3 → g' 39 11 = g 39 11 + 1 → (∀ i, i < 1000 → 0 ≤ g' 46 i ∧ g' 46 i ≤ g' 39 11) → Q (askP (nmF g a b n coin) (cnF al (fC g al nt town dy)) (fC g al nt town dy).length s (fC g al nt town dy).length) g') : zC T (d + 6) 43 [mx_R 39, mx_I (a : Int), mx_I (b : Int), mx_J n, mx_I coin, mx_I (s : Int)] g Q X := by
  have ra := wb.2.1 a ha
  have w0 := wl.1
  refine zX3_ask (sX3_setNames (d := d + 1) wl wb ha hb (fun g1 c1 nm => ?_))
  have q39 : g1 39 = g 39 := c1.1 39 (by decide) (by decide)
  have fe : fC g1 al nt town (dy : Int) = fC g al nt town (dy : Int) := fC_cg (c1.1 40 (by decide) (by decide)) (c1.1 41 (by decide) (by decide)) (c1.1 42 (by decide) (by decide))
  refine ask_C (d := d) (town := town) (dy := dy) (tw.fr c1 (by decide)) ha (by rw [c1.1 10 (by decide) (by decide)]; exact h10) (by omega) (by rw [c1.1 1 (by decide) (by decide)]; exact hd0) (by omega) hs (by rw [q39]; exact hk1) (by rw [q39, c1.1 46 (by decide) (by decide)]; exact hk2) (fun g' c' h3 h11 h46 => ?_)
  rw [fe, askP_cg nm]
  rw [q39] at h3 h11
  exact k g' ((c1.sub (by decide) (by decide)).tr (c'.sub (by decide) (by decide))) h3 h11 h46
