/-! a fall: the ledger afterwards -/
def faBs (c : mz_S) (y : Nat) : mz_S := mx_up (mx_up c 13 y (c 1 0)) 109 y (c 1 0)
theorem faBs_ch (c : mz_S) (y : Nat) : Ch [13, 109] [] c (faBs c y) := ((Ch.rf c).up (by decide) (by decide)).up (by decide) (by decide)
theorem faV_ok {c : mz_S} {nt m y k : Nat} {al : Nat → List pA} (wl : WfL0 c) (wb : WfB c) (ie : IE c) (em : c 9 1 = (m : Int)) (hy : y < m) (hk : k < cntP (faS c nt al m y) m + cntP (faA c nt al m y) m) : ∃ x p s, faV c nt al m y k = (y, x, -p, s, c 10 y) ∧ x < m ∧ x ≠ y ∧ c 13 x = -1 ∧ (0 < p ∧ p ≤ 400000000) ∧ (s = 4 ∨ s = 5) ∧ ((p = faS c nt al m y x ∧ cntP (faS c nt al m y) x = k) ∨ (p = faA c nt al m y x ∧ cntP (faS c nt al m y) m + cntP (faA c nt al m y) x = k)) := by
  have hw := wb.1
  have bA := faA_bnd (nt := nt) (al := al) wl wb ie em hy
  have lS := faS_le (nt := nt) (m := m) (al := al) wl wb (show y < 12 by omega)
  have mem : ∀ x, x < m → crB c m (dnF c m) y x = true → x ≠ y ∧ c 13 x = -1 := fun x hx h => by
    have h2 := crB_iff.mp h
    refine ⟨fun e => ?_, ?_⟩
    · rw [e, claim_self ie (by omega)] at h2
      omega
    · have h3 := h2.2.1
      unfold dnF at h3
      rw [decide_eq_false_iff_not] at h3
      exact Classical.byContradiction (fun z => h3 ⟨hx, z⟩)
  have mS : ∀ x, x < m → 0 < faS c nt al m y x → crB c m (dnF c m) y x = true := fun x hx hp => by
    cases q : crB c m (dnF c m) y x with
    | true => rfl
    | false =>
      have : faS c nt al m y x = 0 := shF_out 12 q
      omega
  have mA : ∀ x, x < m → 0 < faA c nt al m y x → crB c m (dnF c m) y x = true := fun x hx hp => by
    cases q : crB c m (dnF c m) y x with
    | true => rfl
    | false =>
      have : faA c nt al m y x = 0 := by unfold faA; rw [if_neg (fun r => by rw [q] at r; exact absurd r.1 (by decide))]
      omega
  unfold faV
  by_cases h : k < cntP (faS c nt al m y) m
  · rw [if_pos h]
    obtain ⟨h1, h2, h3⟩ := enP_ok h
    have hm := mem _ h1 (mS _ h1 h2)
    have := lS _ h1
    exact ⟨_, _, _, rfl, h1, hm.1, hm.2, ⟨h2, by omega⟩, Or.inl rfl, Or.inl ⟨rfl, h3⟩⟩
  · rw [if_neg h]
    obtain ⟨h1, h2, h3⟩ := enP_ok (p := faA c nt al m y) (m := m) (k := k - cntP (faS c nt al m y) m) (by omega)
    have hm := mem _ h1 (mA _ h1 h2)
    have := bA _ h1
    exact ⟨_, _, _, rfl, h1, hm.1, hm.2, ⟨h2, by omega⟩, Or.inr rfl, Or.inr ⟨rfl, by omega⟩⟩
theorem fa_net {c : mz_S} {nt m y x : Nat} {al : Nat → List pA} (wl : WfL0 c) (wb : WfB c) (ie : IE c) (em : c 9 1 = (m : Int)) (hy : y < m) (hx : x < m) (hxy : x ≠ y) : ∀ k, k ≤ cntP (faS c nt al m y) m + cntP (faA c nt al m y) m → netC c y x 0 - (if cntP (faS c nt al m y) x < k then faS c nt al m y x else 0) - (if cntP (faS c nt al m y) m + cntP (faA c nt al m y) x < k then faA c nt al m y x else 0) ≤ netC (mvV (faBs c y) 0 (faV c nt al m y) k) y x 0 := by
  have hw := wb.1
  have bS := (fa_bnd (nt := nt) (al := al) wl wb ie em hy).1 x hx
  have bA := faA_bnd (nt := nt) (al := al) wl wb ie em hy x hx
  intro k
  induction k with
  | zero =>
    intro _
    rw [if_neg (Nat.not_lt_zero _), if_neg (Nat.not_lt_zero _)]
    show _ ≤ netC (faBs c y) y x 0
    unfold netC
    rw [(faBs_ch c y).1 23 (by decide) (by decide)]
    omega
  | succ k ih =>
    intro hk
    have ih := ih (by omega)
    obtain ⟨x', p, s, hV, h1, h2, h3, h4, h5, h6⟩ := faV_ok (nt := nt) (al := al) wl wb ie em hy (show k < cntP (faS c nt al m y) m + cntP (faA c nt al m y) m by omega)
    have e := mvV_net (g := faBs c y) (co := 0) (E := faV c nt al m y) (k := k) (x := y) (y := x) (by omega) (by omega) (by rw [hV]; show y < 12; omega) (by rw [hV]; show x' < 12; omega) (by omega) (by rw [hV]; exact fun z => h2 z.symm)
    rw [hV] at e
    have st : ∀ (n : Nat) (v : Int), 0 ≤ v → (if n < k then v else 0) ≤ (if n < k + 1 then v else 0) := fun n v hv => by
      by_cases q : n < k
      · rw [if_pos q, if_pos (by omega)]; exact Int.le_refl _
      · rw [if_neg q]; split <;> omega
    have at' : ∀ (n : Nat) (v : Int), n = k → (if n < k then v else 0) = 0 ∧ (if n < k + 1 then v else 0) = v := fun n v hn => ⟨if_neg (by omega), if_pos (by omega)⟩
    have s1 := st (cntP (faS c nt al m y) x) _ bS.1
    have s2 := st (cntP (faS c nt al m y) m + cntP (faA c nt al m y) x) _ bA.1
    by_cases q : x = x'
    · have e' : netC (mvV (faBs c y) 0 (faV c nt al m y) (k + 1)) y x 0 = netC (mvV (faBs c y) 0 (faV c nt al m y) k) y x 0 + -p := by
        rw [e]
        congr 1
        exact if_pos ⟨rfl, q⟩
      subst q
      rcases h6 with ⟨e1, e2⟩ | ⟨e1, e2⟩
      · have a := at' _ (faS c nt al m y x) e2
        omega
      · have a := at' _ (faA c nt al m y x) e2
        omega
    · have e' : netC (mvV (faBs c y) 0 (faV c nt al m y) (k + 1)) y x 0 = netC (mvV (faBs c y) 0 (faV c nt al m y) k) y x 0 + 0 := by
        rw [e]
        congr 1
        show (if y = y ∧ x = x' then -p else if y = x' ∧ x = y then - -p else 0) = 0
        rw [if_neg (fun z => q z.2), if_neg (fun z => hxy z.2)]
      omega
theorem fa_ie {c : mz_S} {nt m y : Nat} {al : Nat → List pA} (il : IL c) (wb : WfB c) (ie : IE c) (em : c 9 1 = (m : Int)) (hy : y < m) (hst : c 13 y = -1) (hm : c 15 2 + ((cntP (faS c nt al m y) m + cntP (faA c nt al m y) m : Nat) : Int) ≤ 400) : IE (mvV (faBs c y) 0 (faV c nt al m y) (cntP (faS c nt al m y) m + cntP (faA c nt al m y) m)) := by
  have hw := wb.1
  have wl := il.1
  have cb := faBs_ch c y
  have b15 : faBs c y 15 2 = c 15 2 := by rw [cb.1 15 (by decide) (by decide)]
  have by' : faBs c y 13 y = c 1 0 := by unfold faBs; rw [up_q (by decide), up_s]
  have d0 := wl.1
  have b13 : ∀ x, ¬ c 13 x = -1 → ¬ faBs c y 13 x = -1 := fun x hx => by
    by_cases e : x = y
    · rw [e, by']; omega
    · unfold faBs; rw [up_q (by decide), up_i e]; exact hx
  have ieB : IE (faBs c y) := ie.fall (fun q hq => cb.1 q (by simp at hq ⊢; omega) (by simp at hq; omega)) (cb.2 16 (by decide)) (fun a b co ha hb hc => by
    unfold nbB
    rw [b15]
    by_cases z : co = 0 ∧ (¬ c 13 a = -1 ∨ ¬ c 13 b = -1)
    · rw [if_pos z, if_pos ⟨z.1, z.2.elim (fun q => Or.inl (b13 a q)) (fun q => Or.inr (b13 b q))⟩]; omega
    · rw [if_neg z]; split <;> omega)
  refine IE.mv (il.fr cb (by decide) (by decide)) ieB (by omega) (by rw [b15]; exact hm) (fun k hk => ?_) (fun k hk wk => ?_) _ (Nat.le_refl _)
  · obtain ⟨x, p, s, hV, h1, h2, h3, h4, h5, h6⟩ := faV_ok (nt := nt) (al := al) wl wb ie em hy hk
    have ry := wb.2.1 y (by omega)
    rw [hV]
    refine ⟨by show y < 12; omega, by show x < 12; omega, fun z => h2 z.symm, ⟨by show -2000000000 ≤ -p; omega, by show -p ≤ 2000000000; omega⟩, ⟨by show 0 ≤ s; omega, by show s ≤ 5; omega, by show ¬ s = 2; omega⟩, ry.1⟩
  · obtain ⟨x, p, s, hV, h1, h2, h3, h4, h5, h6⟩ := faV_ok (nt := nt) (al := al) wl wb ie em hy hk
    rw [hV]
    have lo := fa_net (nt := nt) (al := al) wl wb ie em hy h1 h2 k (by omega)
    have up := (wk.2.2.2.1 y x 0 (by omega) (by omega) (by omega)).2
    have n0 := ie.2.2.2.1 y x 0 (by omega) (by omega) (by omega)
    have bS := faS_le (nt := nt) (m := m) (al := al) wl wb (show y < 12 by omega) x h1
    have bA := faA_bnd (nt := nt) (al := al) wl wb ie em hy x h1
    have k13 : mvV (faBs c y) 0 (faV c nt al m y) k 13 y = c 1 0 := by rw [(mvV_ch _ 0 _ k).1 13 (by decide) (by decide)]; exact by'
    have nb : nbB (mvV (faBs c y) 0 (faV c nt al m y) k) y x 0 = 100000 * (c 15 2 + k) + 1600000000 := by
      unfold nbB
      rw [mvV_15, b15, if_pos ⟨rfl, Or.inl (by rw [k13]; omega)⟩]
    have nc : nbB c y x 0 = 100000 * c 15 2 + 0 := by
      unfold nbB
      rw [if_neg (fun z => z.2.elim (fun q => q hst) (fun q => q h3))]
    have bS0 := ((fa_bnd (nt := nt) (al := al) wl wb ie em hy).1 x h1).1
    have i1 : (if cntP (faS c nt al m y) x < k then faS c nt al m y x else 0) ≤ 400000000 := by split <;> omega
    have i2 : (if cntP (faS c nt al m y) m + cntP (faA c nt al m y) x < k then faA c nt al m y x else 0) ≤ 120000000 := by split <;> omega
    show -(nbB (mvV (faBs c y) 0 (faV c nt al m y) k) y x 0 + 100000) ≤ netC (mvV (faBs c y) 0 (faV c nt al m y) k) y x 0 + -p ∧ netC (mvV (faBs c y) 0 (faV c nt al m y) k) y x 0 + -p ≤ nbB (mvV (faBs c y) 0 (faV c nt al m y) k) y x 0 + 100000
    omega
