/-! a fall: what holds afterwards -/
abbrev fzS : List Nat := [8, 39, 45, 46, 47, 86, 87, 88, 89, 90, 91, 92, 93, 94, 13, 14, 15, 16, 17, 18, 19, 20, 21, 22, 23, 55, 109, 110, 111, 112, 113, 114, 115, 116, 117, 118, 140, 130, 131, 132, 133, 168, 169, 170, 171, 172, 173, 174, 179]
theorem fall_IB {c G : mz_S} {nt m y : Nat} {al : Nat → List pA} (il : IL c) (ib : IB c) (ie : IE c) (em : c 9 1 = (m : Int)) (hy : y < m) (h : Ch fzS [0, 16, 50, 54] c G) (h13 : ∀ x, G 13 x = if x = y then c 1 0 else c 13 x) (h109 : ∀ x, G 109 x = if x = y then c 1 0 else c 109 x) (h14 : ∀ x, x < m → G 14 (x * 4) = fd3 c nt al m y x) (h14' : ∀ i, ¬ (i % 4 = 0 ∧ i / 4 < m) → G 14 i = if y * 4 ≤ i ∧ i < y * 4 + 4 then 0 else c 14 i) (h110 : ∀ x, x < m → w32 (G 110 (x * 4)) = fd3 c nt al m y x) (h110' : ∀ i, ¬ (i % 4 = 0 ∧ i / 4 < m) → G 110 i = if y * 4 ≤ i ∧ i < y * 4 + 4 then 0 else c 110 i) : IB G := by
  obtain ⟨wb, rb, ib3⟩ := ib
  have hw := wb.1
  have d0 := il.1.1
  have bF := fd_bnd (nt := nt) (al := al) il.1 wb ie em hy
  have e : ∀ q ∈ [1, 9, 10, 11, 12, 106, 107, 108], G q = c q := fun q hq => h.1 q (by simp at hq ⊢; omega) (by simp at hq; omega)
  refine ⟨?_, ?_, fun i hi hi2 => ?_⟩
  · unfold WfB at wb ⊢
    rw [e 1 (by decide), e 9 (by decide), e 10 (by decide), e 11 (by decide), e 12 (by decide)]
    refine ⟨wb.1, fun i hi => ?_, fun i hi => ?_⟩
    · have := wb.2.1 i hi
      refine ⟨this.1, this.2.1, this.2.2.1, ?_⟩
      rw [h13]
      split
      · omega
      · exact this.2.2.2
    · by_cases z : i % 4 = 0 ∧ i / 4 < m
      · have := h14 (i / 4) z.2
        rw [show i / 4 * 4 = i by omega] at this
        rw [this]
        exact (bF _ z.2).2.2.2.2
      · rw [h14' i z]
        split
        · omega
        · exact wb.2.2 i hi
  · unfold ReB at rb ⊢
    rw [e 9 (by decide), e 10 (by decide), e 11 (by decide), e 12 (by decide), e 106 (by decide), e 107 (by decide), e 108 (by decide), h.2 10 (by decide)]
    refine ⟨rb.1, fun i hi => ?_, fun i hi => ?_⟩
    · have := rb.2.1 i hi
      refine ⟨this.1, this.2.1, this.2.2.1, fun hlt => ?_⟩
      rw [h109, h13]
      by_cases z : i = y
      · rw [if_pos z, if_pos z]
      · rw [if_neg z, if_neg z]; exact this.2.2.2 hlt
    · by_cases z : i % 4 = 0 ∧ i / 4 < m
      · have a := h14 (i / 4) z.2
        have b := h110 (i / 4) z.2
        rw [show i / 4 * 4 = i by omega] at a b
        have f := (bF _ z.2).2.2.2.2
        rw [b, a, w32_of (by omega) (by omega)]
      · rw [h14' i z, h110' i z]
        by_cases q : y * 4 ≤ i ∧ i < y * 4 + 4
        · rw [if_pos q, if_pos q]
        · rw [if_neg q, if_neg q]; exact rb.2.2 i hi
  · rw [e 9 (by decide)] at hi2
    rw [h13, if_neg (by omega)]
    exact ib3 i hi hi2
theorem fall_IW {c G : mz_S} {y : Nat} (il : IL c) (wb : WfB c) (iw : IW c) (hy : y < 12) (h : Ch fzS [0, 16, 50, 54] c G) (h55 : ∀ i : Nat, (i : Int) < c 48 4 → G 55 i = if c 49 i = (y : Int) then stV c i y (c 1 0) else c 55 i) (h140 : ∀ i : Nat, (i : Int) < c 48 4 → G 140 i = if c 49 i = (y : Int) then stV c i y (c 1 0) else c 55 i) : IW G := by
  have d0 := il.1.1
  have e : ∀ q ∈ [9, 48, 49, 50, 51, 52, 53, 54, 56, 57, 58, 59, 60, 61, 134, 135, 136, 137, 138, 139, 141, 142, 143, 144, 145, 146], G q = c q := fun q hq => h.1 q (by simp at hq ⊢; omega) (by simp at hq; omega)
  refine iw.upd (fun q hq => e q (by simp at hq ⊢; omega)) (h.2 55 (by decide)) (fun j hj => ?_) (fun j hj => ?_) (fun j hj => ?_) (fun j hj hj2 => ?_) (fun j hj => ?_) (fun j hj hj2 => ?_)
  · rw [h55 j hj, h140 j hj]
    refine ⟨rfl, ?_⟩
    split
    · exact stV_rng il.1 wb iw.1 hj hy (by omega)
    · exact (iw.1.2.1 j hj).2.2.2.2.2.2.1
  · rw [e 141 (by decide), e 56 (by decide)]
    exact ⟨(iw.2.2 j hj).2.2.2.2.2.2.2.1, (iw.1.2.1 j hj).2.2.2.2.2.2.2.1⟩
  · rw [e 142 (by decide), e 57 (by decide)]
    exact (iw.2.2 j hj).2.2.2.2.2.2.2.2.1
  · rw [e 57 (by decide)]; exact (iw.1.2.2 j hj hj2).1
  · rw [e 146 (by decide), e 61 (by decide)]
    exact ⟨(iw.2.2 j hj).2.2.2.2.2.2.2.2.2.2.2.2, (iw.1.2.1 j hj).2.2.2.2.2.2.2.2.2.2.2.1⟩
  · rw [e 61 (by decide)]; exact (iw.1.2.2 j hj hj2).2.2.2
