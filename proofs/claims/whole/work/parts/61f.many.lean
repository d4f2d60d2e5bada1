/-! many entries on both sides -/
theorem IE.cg {g g' : mz_S} (w : IE g) (e : ∀ q ∈ [13, 15, 16, 17, 18, 19, 20, 21, 22, 23, 24, 25, 111, 112, 113, 114, 115, 116, 117, 118, 147], g' q = g q) (e9 : g' 99 16 = g 99 16) : IE g' := by
  unfold IE WfG WfN ReE WfNb ReM ReH nbB netC partC hidR at w ⊢
  rw [e 13 (by decide), e 15 (by decide), e 16 (by decide), e 17 (by decide), e 18 (by decide), e 19 (by decide), e 20 (by decide), e 21 (by decide), e 22 (by decide), e 23 (by decide), e 24 (by decide), e 25 (by decide), e 111 (by decide), e 112 (by decide), e 113 (by decide), e 114 (by decide), e 115 (by decide), e 116 (by decide), e 117 (by decide), e 118 (by decide), e 147 (by decide), e9]
  exact w
abbrev mvE : Type := Nat × Nat × Int × Int × Int
def recE (g : mz_S) (co : Nat) (e : mvE) : mz_S := recS g e.2.2.2.2 e.1 e.2.1 co e.2.2.1 e.2.2.2.1
def entE (g : mz_S) (co : Nat) (e : mvE) : mz_S := entS g e.2.2.2.2 e.1 e.2.1 co e.2.2.1 e.2.2.2.1
def mvV (g : mz_S) (co : Nat) (E : Nat → mvE) : Nat → mz_S
  | 0 => g
  | k + 1 => entE (recE (mvV g co E k) co (E k)) co (E k)
def mvP (g : mz_S) (co : Nat) (E : Nat → mvE) (k : Nat) (G : mz_S) : Prop := (∀ q ∈ [15, 16, 17, 18, 19, 20, 21, 22, 23, 24, 25], G q = mvV g co E k q) ∧ G 1 0 = g 1 0
def mvQ (g : mz_S) (co : Nat) (E : Nat → mvE) (k : Nat) (G : mz_S) : Prop := (∀ q ∈ [111, 112, 113, 114, 115, 116, 117, 118, 147], G q = mvV g co E k q) ∧ G 99 16 = mvV g co E k 99 16 ∧ G 99 1 = g 99 1
theorem recE_ch (g : mz_S) (co : Nat) (e : mvE) : Ch [15, 16, 17, 18, 19, 20, 21, 22, 23] [] g (recE g co e) := by
  unfold recE recS
  repeat' first | exact Ch.rf g | refine Ch.up ?_ (by decide) (by decide)
theorem entE_ch (g : mz_S) (co : Nat) (e : mvE) : Ch [111, 112, 113, 114, 115, 116, 117, 118] [16] g (entE g co e) := by
  unfold entE entS
  repeat' first | exact Ch.rf g | refine Ch.up9 ?_ (by decide) | refine Ch.up ?_ (by decide) (by decide)
theorem mvV_ch (g : mz_S) (co : Nat) (E : Nat → mvE) : ∀ k, Ch [15, 16, 17, 18, 19, 20, 21, 22, 23, 111, 112, 113, 114, 115, 116, 117, 118] [16] g (mvV g co E k) := by
  intro k
  induction k with
  | zero => exact Ch.rf g
  | succ k ih => exact (ih.tr ((recE_ch _ co (E k)).sub (by decide) (by decide))).tr ((entE_ch _ co (E k)).sub (by decide) (by decide))
theorem recE_cg {P P' : mz_S} {co : Nat} {e : mvE} (h : ∀ q ∈ [15, 16, 17, 18, 19, 20, 21, 22, 23, 24, 25], P q = P' q) (h1 : P 1 0 = P' 1 0) : ∀ q ∈ [15, 16, 17, 18, 19, 20, 21, 22, 23, 24, 25], recE P co e q = recE P' co e q := by
  intro q hq
  simp only [List.mem_cons, List.not_mem_nil, or_false] at hq
  rcases hq with z | z | z | z | z | z | z | z | z | z | z <;> subst z <;> simp [recE, recS, up_at, h 15 (by decide), h 16 (by decide), h 17 (by decide), h 18 (by decide), h 19 (by decide), h 20 (by decide), h 21 (by decide), h 22 (by decide), h 23 (by decide), h 24 (by decide), h 25 (by decide), h1]
theorem entE_cg {P P' : mz_S} {co : Nat} {e : mvE} (h : ∀ q ∈ [111, 112, 113, 114, 115, 116, 117, 118, 147], P q = P' q) (h16 : P 99 16 = P' 99 16) (h1 : P 99 1 = P' 99 1) : (∀ q ∈ [111, 112, 113, 114, 115, 116, 117, 118, 147], entE P co e q = entE P' co e q) ∧ entE P co e 99 16 = entE P' co e 99 16 := by
  refine ⟨fun q hq => ?_, ?_⟩
  · simp only [List.mem_cons, List.not_mem_nil, or_false] at hq
    rcases hq with z | z | z | z | z | z | z | z | z <;> subst z <;> simp [entE, entS, up_at, h 111 (by decide), h 112 (by decide), h 113 (by decide), h 114 (by decide), h 115 (by decide), h 116 (by decide), h 117 (by decide), h 118 (by decide), h 147 (by decide), h1, h16]
  · simp [entE, entS, up_at, lset, h16]
theorem mvP.step {g G : mz_S} {co k : Nat} {E : Nat → mvE} (h : mvP g co E k G) : mvP g co E (k + 1) (recE G co (E k)) := by
  have c1 := recE_ch G co (E k)
  have c2 := entE_ch (recE (mvV g co E k) co (E k)) co (E k)
  have c3 := mvV_ch g co E k
  refine ⟨fun q hq => ?_, ?_⟩
  · rw [recE_cg (P' := mvV g co E k) h.1 (by rw [h.2, c3.1 1 (by decide) (by decide)]) q hq]
    exact (c2.1 q (by simp at hq ⊢; omega) (by intro z; subst z; revert hq; decide)).symm
  · rw [c1.1 1 (by decide) (by decide)]; exact h.2
theorem mvQ.step {g G : mz_S} {co k : Nat} {E : Nat → mvE} (h : mvQ g co E k G) : mvQ g co E (k + 1) (entE G co (E k)) := by
  have c1 := recE_ch (mvV g co E k) co (E k)
  have c2 := entE_ch G co (E k)
  have c3 := mvV_ch g co E k
  have s := entE_cg (P := G) (P' := recE (mvV g co E k) co (E k)) (co := co) (e := E k) (fun q hq => by rw [h.1 q hq, c1.1 q (by simp at hq ⊢; omega) (by intro z; subst z; revert hq; decide)]) (by rw [h.2.1, c1.2 16 (by decide)]) (by rw [h.2.2, c1.2 1 (by decide), c3.2 1 (by decide)])
  exact ⟨s.1, s.2, by rw [c2.2 1 (by decide)]; exact h.2.2⟩
theorem mvP.fr {g G G' : mz_S} {co k : Nat} {E : Nat → mvE} {S F : List Nat} (h : mvP g co E k G) (c : Ch S F G G') (hS : ∀ q ∈ [1, 15, 16, 17, 18, 19, 20, 21, 22, 23, 24, 25], q ∉ S) : mvP g co E k G' :=
  ⟨fun q hq => (c.1 q (hS q (by simp at hq ⊢; omega)) (by intro z; subst z; revert hq; decide)).trans (h.1 q hq), by rw [c.1 1 (hS 1 (by decide)) (by decide)]; exact h.2⟩
theorem mvQ.fr {g G G' : mz_S} {co k : Nat} {E : Nat → mvE} {S F : List Nat} (h : mvQ g co E k G) (c : Ch S F G G') (hS : ∀ q ∈ [111, 112, 113, 114, 115, 116, 117, 118, 147], q ∉ S) (hF : ∀ f ∈ [1, 16], f ∉ F) : mvQ g co E k G' :=
  ⟨fun q hq => (c.1 q (hS q hq) (by intro z; subst z; revert hq; decide)).trans (h.1 q hq), by rw [c.2 16 (hF 16 (by decide))]; exact h.2.1, by rw [c.2 1 (hF 1 (by decide))]; exact h.2.2⟩
theorem mvV_15 (g : mz_S) (co : Nat) (E : Nat → mvE) : ∀ k : Nat, mvV g co E k 15 2 = g 15 2 + k := by
  intro k
  induction k with
  | zero => show g 15 2 = _; omega
  | succ k ih =>
    have c2 := entE_ch (recE (mvV g co E k) co (E k)) co (E k)
    show entE (recE (mvV g co E k) co (E k)) co (E k) 15 2 = _
    rw [c2.1 15 (by decide) (by decide)]
    simp [recE, recS, up_at, lset, ih]
    omega
theorem mvV_16 (g : mz_S) (co : Nat) (E : Nat → mvE) : ∀ k : Nat, mvV g co E k 99 16 = g 99 16 + k := by
  intro k
  induction k with
  | zero => show g 99 16 = _; omega
  | succ k ih =>
    have c1 := recE_ch (mvV g co E k) co (E k)
    show entE (recE (mvV g co E k) co (E k)) co (E k) 99 16 = _
    simp [entE, entS, up_at, lset, c1.2 16 (by decide), ih]
    omega
theorem mvV_net {g : mz_S} {co : Nat} {E : Nat → mvE} {k x y : Nat} (hx : x < 12) (hy : y < 12) (ha : (E k).1 < 12) (hb : (E k).2.1 < 12) (hc : co < 4) (hab : (E k).1 ≠ (E k).2.1) : netC (mvV g co E (k + 1)) x y co = netC (mvV g co E k) x y co + (if x = (E k).1 ∧ y = (E k).2.1 then (E k).2.2.1 else if x = (E k).2.1 ∧ y = (E k).1 then - (E k).2.2.1 else 0) := by
  have c2 := entE_ch (recE (mvV g co E k) co (E k)) co (E k)
  show netC (entE (recE (mvV g co E k) co (E k)) co (E k)) x y co = _
  unfold netC
  rw [c2.1 23 (by decide) (by decide)]
  generalize E k = e at *
  generalize mvV g co E k = v
  obtain ⟨a, b, n, s, t⟩ := e
  simp only at ha hb hab ⊢
  have x3 : (((a : Int) * 12 + b) * 4 + co).toNat = (a * 12 + b) * 4 + co := by omega
  have x4 : (((b : Int) * 12 + a) * 4 + co).toNat = (b * 12 + a) * 4 + co := by omega
  have hab' : ¬ (a : Int) = b := by omega
  unfold recE recS
  simp only [up_at, x3, x4, if_neg hab', show ∀ q : Nat, (23 = q) = (q = 23) from fun q => propext ⟨Eq.symm, Eq.symm⟩, Nat.reduceEqDiff, if_true, if_false]
  by_cases h1 : x = a ∧ y = b
  · obtain ⟨rfl, rfl⟩ := h1
    rw [if_pos ⟨rfl, rfl⟩, lset_n (by omega), lset_s]
  · rw [if_neg h1]
    by_cases h2 : x = b ∧ y = a
    · obtain ⟨rfl, rfl⟩ := h2
      rw [if_pos ⟨rfl, rfl⟩, lset_s]
      omega
    · rw [if_neg h2, lset_n (by omega), lset_n (by omega), Int.add_zero]
theorem IE.mv {g : mz_S} {co n : Nat} {E : Nat → mvE} (wl : IL g) (w : IE g) (hc : co < 4) (hm : g 15 2 + n ≤ 400) (hE : ∀ k, k < n → (E k).1 < 12 ∧ (E k).2.1 < 12 ∧ (E k).1 ≠ (E k).2.1 ∧ (-2000000000 ≤ (E k).2.2.1 ∧ (E k).2.2.1 ≤ 2000000000) ∧ (0 ≤ (E k).2.2.2.1 ∧ (E k).2.2.2.1 ≤ 5 ∧ ¬ (E k).2.2.2.1 = 2) ∧ (0 ≤ (E k).2.2.2.2 ∧ (E k).2.2.2.2 < 8)) (hb : ∀ k, k < n → IE (mvV g co E k) → -(nbB (mvV g co E k) (E k).1 (E k).2.1 co + 100000) ≤ netC (mvV g co E k) (E k).1 (E k).2.1 co + (E k).2.2.1 ∧ netC (mvV g co E k) (E k).1 (E k).2.1 co + (E k).2.2.1 ≤ nbB (mvV g co E k) (E k).1 (E k).2.1 co + 100000) : ∀ k, k ≤ n → IE (mvV g co E k) := by
  intro k
  induction k with
  | zero => intro _; exact w
  | succ k ih =>
    intro hk
    have wk := ih (by omega)
    obtain ⟨h1, h2, h3, h4, h5, h6⟩ := hE k (by omega)
    have c3 := mvV_ch g co E k
    have c1 := recE_ch (mvV g co E k) co (E k)
    have e15 := mvV_15 g co E k
    refine IE.both (g := mvV g co E k) (P := mvV g co E k) (H := recE (mvV g co E k) co (E k)) (a := (E k).1) (b := (E k).2.1) (co := co) (t := (E k).2.2.2.2) (n := (E k).2.2.1) (s := (E k).2.2.2.1) (wl.fr c3 (by decide) (by decide)) wk (by omega) h6 h1 h2 h3 hc h4 (hb k (by omega) wk) h5 (fun i _ z => ?_) (fun q _ => rfl) rfl (fun q _ => rfl) (fun q hq => c1.1 q (by simp at hq ⊢; omega) (by intro z; subst z; revert hq; decide)) (c1.2 16 (by decide)) (c1.2 1 (by decide)) (fun q _ => rfl) ?_
    · have c4 := mvV_ch g co E (k + 1)
      rw [c4.1 13 (by decide) (by decide)]
      rw [c3.1 13 (by decide) (by decide)] at z
      exact z
    · show entE _ co (E k) 99 16 = _
      simp [entE, entS, up_at, lset]
