/-! shares by rank (pure) -/
def grB (rk : Nat → Int) (W : Nat → Bool) (m x : Nat) : Bool := decide (x < m) && (W x && (List.range m).all (fun y => !W y || decide (rk y ≤ rk x)))
theorem grB_iff {rk : Nat → Int} {W : Nat → Bool} {m x : Nat} : grB rk W m x = true ↔ x < m ∧ W x = true ∧ ∀ y, y < m → W y = true → rk y ≤ rk x := by
  unfold grB
  rw [Bool.and_eq_true, Bool.and_eq_true, decide_eq_true_iff, List.all_eq_true]
  refine ⟨fun h => ⟨h.1, h.2.1, fun y hy hw => ?_⟩, fun h => ⟨h.1, h.2.1, fun y hy => ?_⟩⟩
  · have := h.2.2 y (List.mem_range.mpr hy)
    rw [hw] at this
    simpa using this
  · cases hw : W y with
    | false => rfl
    | true => simpa using h.2.2 y (List.mem_range.mp hy) hw
def shF (due rk : Nat → Int) (m : Nat) : Nat → Int → (Nat → Bool) → Nat → Int
  | 0, _, _, _ => 0
  | n + 1, L, W, x => if grB rk W m x = true then spF (min L (sG due (grB rk W m) m)) due (grB rk W m) m x else shF due rk m n (L - min L (sG due (grB rk W m) m)) (fun y => W y && !grB rk W m y) x
theorem grB_cg {rk rk' : Nat → Int} {W W' : Nat → Bool} {m : Nat} (hW : ∀ x, x < m → W x = W' x) (hr : ∀ x, x < m → W x = true → rk x = rk' x) : grB rk W m = grB rk' W' m := by
  funext x
  have : grB rk W m x = true ↔ grB rk' W' m x = true := by
    rw [grB_iff, grB_iff]
    constructor
    · rintro ⟨h1, h2, h3⟩
      refine ⟨h1, by rw [← hW x h1]; exact h2, fun y hy hw => ?_⟩
      rw [← hW y hy] at hw
      have := h3 y hy hw
      rw [hr y hy hw, hr x h1 h2] at this
      exact this
    · rintro ⟨h1, h2, h3⟩
      rw [← hW x h1] at h2
      refine ⟨h1, h2, fun y hy hw => ?_⟩
      have := h3 y hy (by rw [← hW y hy]; exact hw)
      rw [hr y hy hw, hr x h1 h2]
      exact this
  cases h1 : grB rk W m x <;> cases h2 : grB rk' W' m x
  · rfl
  · exact absurd (this.mpr h2) (by rw [h1]; decide)
  · exact absurd (this.mp h1) (by rw [h2]; decide)
  · rfl
theorem shF_cg {due due' rk rk' : Nat → Int} {m : Nat} : ∀ n {L : Int} {W W' : Nat → Bool}, (∀ x, x < m → W x = W' x) → (∀ x, x < m → W x = true → due x = due' x ∧ rk x = rk' x) → ∀ x, x < m → shF due rk m n L W x = shF due' rk' m n L W' x := by
  intro n
  induction n with
  | zero => intro L W W' _ _ x _; rfl
  | succ n ih =>
    intro L W W' hW h x hx
    have eg := grB_cg hW (fun x hx hw => (h x hx hw).2)
    have es : sG due (grB rk W m) m = sG due' (grB rk' W' m) m := by
      rw [← eg]
      exact sG_cg (fun _ _ => rfl) (fun x hx hg => (h x hx (grB_iff.mp hg).2.1).1)
    unfold shF
    rw [es, eg]
    have := spF_cg (sum := min L (sG due' (grB rk' W' m) m)) (w := due) (w' := due') (G := grB rk' W' m) (G' := grB rk' W' m) (m := m) (fun _ _ => rfl) (fun x hx hg => (h x hx (by rw [← eg] at hg; exact (grB_iff.mp hg).2.1)).1) x hx
    rw [this]
    have := ih (L := L - min L (sG due' (grB rk' W' m) m)) (W := fun y => W y && !grB rk' W' m y) (W' := fun y => W' y && !grB rk' W' m y) (fun x hx => by rw [hW x hx]) (fun x hx hw => h x hx (by rw [Bool.and_eq_true] at hw; exact hw.1)) x hx
    rw [this]
theorem shF_empty {due rk : Nat → Int} {m : Nat} : ∀ n {L : Int} {W : Nat → Bool}, (∀ x, x < m → W x = false) → ∀ x, shF due rk m n L W x = 0 := by
  intro n
  induction n with
  | zero => intro L W _ x; rfl
  | succ n ih =>
    intro L W h x
    have e : grB rk W m = fun _ => false := by
      funext x
      cases hg : grB rk W m x with
      | false => rfl
      | true =>
        have := grB_iff.mp hg
        rw [h x this.1] at this
        exact absurd this.2.1 (by decide)
    unfold shF
    rw [e]
    rw [if_neg Bool.false_ne_true]
    exact ih (fun x hx => by rw [h x hx]; rfl) x
/-- there is somebody of the greatest rank -/
theorem grB_some {rk : Nat → Int} {W : Nat → Bool} {m : Nat} (h : ∃ x, x < m ∧ W x = true) : ∃ x, grB rk W m x = true := by
  have : ∀ n, n ≤ m → (∃ x, x < n ∧ W x = true) → ∃ x, x < n ∧ W x = true ∧ ∀ y, y < n → W y = true → rk y ≤ rk x := by
    intro n
    induction n with
    | zero => rintro _ ⟨x, hx, _⟩; omega
    | succ n ih =>
      rintro hn ⟨x, hx, hw⟩
      by_cases z : ∃ x, x < n ∧ W x = true
      · obtain ⟨a, h1, h2, h3⟩ := ih (by omega) z
        by_cases c : W n = true ∧ rk a < rk n
        · refine ⟨n, by omega, c.1, fun y hy hwy => ?_⟩
          by_cases e : y = n
          · subst e; exact Int.le_refl _
          · have := h3 y (by omega) hwy; omega
        · refine ⟨a, by omega, h2, fun y hy hwy => ?_⟩
          by_cases e : y = n
          · subst e
            exact Int.not_lt.mp (fun q => c ⟨hwy, q⟩)
          · exact h3 y (by omega) hwy
      · have e : x = n := by
          refine Classical.byContradiction (fun q => z ⟨x, by omega, hw⟩)
        subst e
        refine ⟨x, by omega, hw, fun y hy hwy => ?_⟩
        by_cases e : y = x
        · subst e; exact Int.le_refl _
        · exact absurd ⟨y, by omega, hwy⟩ z
  obtain ⟨x, hx, hw, h3⟩ := this m (Nat.le_refl _) h
  exact ⟨x, grB_iff.mpr ⟨hx, hw, h3⟩⟩
/-- how many wait -/
def cnW (W : Nat → Bool) (m : Nat) : Int := sumN (fun x => if W x = true then 1 else 0) m
theorem cnW_0 {W : Nat → Bool} {m : Nat} (h : cnW W m ≤ 0) : ∀ x, x < m → W x = false := by
  induction m with
  | zero => intro x hx; omega
  | succ m ih =>
    intro x hx
    have e : cnW W (m + 1) = cnW W m + (if W m = true then 1 else 0) := rfl
    have p : 0 ≤ cnW W m := sumN_pos (fun x _ => by show (0 : Int) ≤ (if W x = true then 1 else 0); split <;> omega)
    by_cases z : x = m
    · subst z
      cases hw : W x with
      | false => rfl
      | true => rw [e, if_pos hw] at h; omega
    · exact ih (by rw [e] at h; split at h <;> omega) x (by omega)
theorem cnW_le {W : Nat → Bool} (m : Nat) : cnW W m ≤ m := by
  induction m with
  | zero => exact Int.le_refl _
  | succ m ih =>
    have e : cnW W (m + 1) = cnW W m + (if W m = true then 1 else 0) := rfl
    rw [e]
    split <;> omega
theorem cnW_less {rk : Nat → Int} {W : Nat → Bool} {m : Nat} (h : ∃ x, x < m ∧ W x = true) : cnW (fun y => W y && !grB rk W m y) m + 1 ≤ cnW W m := by
  obtain ⟨b, hb⟩ := grB_some (rk := rk) h
  have hg := grB_iff.mp hb
  have mono : ∀ n, cnW (fun y => W y && !grB rk W m y) n + (if b < n then 1 else 0) ≤ cnW W n := by
    intro n
    induction n with
    | zero => show (0 : Int) + _ ≤ 0; rw [if_neg (by omega)]; omega
    | succ n ih =>
      have e : cnW W (n + 1) = cnW W n + (if W n = true then 1 else 0) := rfl
      have e2 : cnW (fun y => W y && !grB rk W m y) (n + 1) = cnW (fun y => W y && !grB rk W m y) n + (if (W n && !grB rk W m n) = true then 1 else 0) := rfl
      rw [e, e2]
      by_cases z : n = b
      · subst z
        have j1 : (if (W n && !grB rk W m n) = true then (1 : Int) else 0) = 0 := by rw [hb, hg.2.1]; rfl
        have j2 : (if W n = true then (1 : Int) else 0) = 1 := if_pos hg.2.1
        have j3 : (if n < n + 1 then (1 : Int) else 0) = 1 := if_pos (by omega)
        have j4 : (if n < n then (1 : Int) else 0) = 0 := if_neg (by omega)
        omega
      · have i1 : (if b < n + 1 then (1 : Int) else 0) = (if b < n then 1 else 0) := by
          by_cases q : b < n
          · rw [if_pos q, if_pos (by omega)]
          · rw [if_neg q, if_neg (by omega)]
        rw [i1]
        have : (if (W n && !grB rk W m n) = true then (1 : Int) else 0) ≤ (if W n = true then 1 else 0) := by
          cases W n <;> cases grB rk W m n <;> simp
        omega
  have := mono m
  rw [if_pos hg.1] at this
  exact this
/-- all that is owed is there -/
theorem spF_full {due : Nat → Int} {G : Nat → Bool} {m : Nat} (hall : 0 < sG due G m) {x : Nat} (hg : G x = true) : spF (sG due G m) due G m x = due x := by
  have hp : ∀ x, G x = true → spP (sG due G m) due G m x = due x := fun x hx => by
    unfold spP
    rw [if_pos hx, Int.mul_comm]
    exact Int.mul_ediv_cancel _ (by omega)
  have hs : sumN (spP (sG due G m) due G m) m = sG due G m := by
    refine sumN_congr (fun x _ => ?_)
    show _ = (if G x = true then due x else 0)
    by_cases z : G x = true
    · rw [if_pos z]; exact hp x z
    · rw [if_neg z]; unfold spP; rw [if_neg z]
  unfold spF spN
  rw [hs, show (sG due G m - sG due G m).toNat = 0 by omega]
  exact hp x hg
theorem sG_gt {f : Nat → Int} {G : Nat → Bool} {m x : Nat} (hx : x < m) (hg : G x = true) (hp : 0 < f x) (h : ∀ y, y < m → G y = true → 0 ≤ f y) : 0 < sG f G m := by
  have e2 := sumN_one (f := fun _ => (0 : Int)) (f' := fun y => if y = x then - f x else 0) (b := x) hx (fun y _ hne => if_neg hne)
  have e0 : sumN (fun _ => (0 : Int)) m = 0 := sumN_zero (fun _ _ => rfl)
  have := sumN_pos (f := fun y => (if G y = true then f y else 0) + (if y = x then - f x else 0)) (n := m) (fun y hy => by
    show 0 ≤ (if G y = true then f y else 0) + (if y = x then - f x else 0)
    by_cases q : y = x
    · subst q; rw [if_pos hg, if_pos rfl]; omega
    · rw [if_neg q]
      split
      · have := h y hy (by assumption); omega
      · omega)
  rw [sumN_add] at this
  simp only [if_pos] at e2
  unfold sG
  omega
/-- shares: none negative, none above what is owed -/
theorem shF_pos {due rk : Nat → Int} {m : Nat} : ∀ n {L : Int} {W : Nat → Bool}, 0 ≤ L → (∀ x, x < m → W x = true → 0 < due x) → ∀ x, x < m → 0 ≤ shF due rk m n L W x := by
  intro n
  induction n with
  | zero => intro L W _ _ x _; exact Int.le_refl _
  | succ n ih =>
    intro L W hL hd x hx
    have hgd : ∀ x, x < m → grB rk W m x = true → 0 ≤ due x := fun x hx hg => Int.le_of_lt (hd x hx (grB_iff.mp hg).2.1)
    have sp : 0 ≤ sG due (grB rk W m) m := sumN_pos (fun x hx => by
      show 0 ≤ (if grB rk W m x = true then due x else 0)
      split
      · exact hgd x hx (by assumption)
      · omega)
    unfold shF
    split
    · rename_i hg
      have hall : 0 < sG due (grB rk W m) m := sG_gt hx hg (hd x hx (grB_iff.mp hg).2.1) hgd
      exact spF_pos (by omega) hgd hall x hx
    · exact ih (by omega) (fun x hx hw => hd x hx (by rw [Bool.and_eq_true] at hw; exact hw.1)) x hx
theorem shF_out {due rk : Nat → Int} {m : Nat} : ∀ n {L : Int} {W : Nat → Bool} {x : Nat}, W x = false → shF due rk m n L W x = 0 := by
  intro n
  induction n with
  | zero => intro L W x _; rfl
  | succ n ih =>
    intro L W x h
    unfold shF
    rw [if_neg (fun z => absurd (grB_iff.mp z).2.1 (by rw [h]; decide))]
    exact ih (by rw [h]; rfl)
