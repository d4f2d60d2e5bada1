/-! Ledger: bounds, claims, goods -/
theorem rateC_0 {g : mz_S} (w : WfL0 g) (t dy : Int) : rateC g t 0 dy = 100 := by
  have e : rtF (g 6) (lgC g t) (g 4) 0 dy (g 1 4).toNat = -1 := rtB_one (rtF_B _ _ _ _ _ _) (Or.inl ⟨rfl, fun r _ hr z => by have := (w.2.2.2.2.1 r hr).2.1; have := z.1; omega⟩)
  unfold rateC rtV
  rw [e]; rfl
theorem worthC_0 {g : mz_S} (w : WfL0 g) (n t : Int) : worthC g n 0 t = n := by
  unfold worthC
  rw [rateC_0 w]
  omega
theorem mul_bnd {n r B : Int} (hB : 0 ≤ B) (hn : -B ≤ n ∧ n ≤ B) (hr : 0 ≤ r ∧ r ≤ 1000) : -(B * 1000) ≤ n * r ∧ n * r ≤ B * 1000 := by
  rcases Int.lt_or_le n 0 with z | z
  · have a1 : n * r ≤ 0 := Int.mul_nonpos_of_nonpos_of_nonneg (by omega) (by omega)
    have a2 : (-n) * r ≤ B * 1000 := Int.mul_le_mul (by omega) (by omega) (by omega) (by omega)
    rw [Int.neg_mul] at a2
    omega
  · have a1 : 0 ≤ n * r := Int.mul_nonneg z (by omega)
    have a2 : n * r ≤ B * 1000 := Int.mul_le_mul (by omega) (by omega) (by omega) (by omega)
    omega
theorem worthC_bnd {g : mz_S} (w : WfL0 g) {n c t B : Int} (hB : 0 ≤ B) (hn : -B ≤ n ∧ n ≤ B) : -(B * 10) ≤ worthC g n c t ∧ worthC g n c t ≤ B * 10 := by
  have hr := rateC_rng w t c (g 1 0)
  have := mul_bnd hB hn (r := rateC g t c (g 1 0)) (by omega)
  unfold worthC
  omega
theorem worthC_pos {g : mz_S} (w : WfL0 g) {n c t : Int} (hn : 0 ≤ n) : 0 ≤ worthC g n c t := by
  have hr := rateC_rng w t c (g 1 0)
  have := Int.mul_nonneg hn (show 0 ≤ rateC g t c (g 1 0) by omega)
  unfold worthC
  omega
theorem sum4 (f : Nat → Int) : sumN f 4 = f 0 + f 1 + f 2 + f 3 := by
  show 0 + f 0 + f 1 + f 2 + f 3 = _
  omega
theorem debtC_bnd {g : mz_S} (w : WfL0 g) (wg : WfG g) {a b : Nat} {t : Int} (ha : a < 12) (hb : b < 12) : -80000000000 ≤ debtC g a b t ∧ debtC g a b t ≤ 80000000000 := by
  unfold debtC
  rw [sum4]
  have h : ∀ c : Nat, c < 4 → -20000000000 ≤ worthC g (netC g a b c) c t ∧ worthC g (netC g a b c) c t ≤ 20000000000 := by
    intro c hc
    have h1 := wg.2.2.1 ((a * 12 + b) * 4 + c) (by omega)
    exact worthC_bnd w (B := 2000000000) (by omega) (by unfold netC; omega)
  have h0 := h 0 (by omega)
  have h1 := h 1 (by omega)
  have h2 := h 2 (by omega)
  have h3 := h 3 (by omega)
  omega
def claimC (g : mz_S) (a b : Nat) : Int := max 0 (debtC g a b (g 10 a))
theorem Sm8.claim {g g' : mz_S} (h : Sm8 g g') (a b : Nat) : claimC g' a b = claimC g a b := by unfold claimC; rw [h.debt, h 10 (by decide)]
theorem sX6_claimOn {T : Nat × (Nat → Int32)} {d : Nat} {Q : mz_K} {X : mz_X} {g : mz_S} {a b : Nat} (wl : WfL g) (wb : WfB g) (w : WfG g) (ha : a < 12) (hb : b < 12) (k : ∀ g', Sm8 g g' → WfL g' → Q (claimC g a b) g') : zC T (d + 4) 89 [mx_R 15, mx_I (a : Int), mx_I (b : Int)] g Q X := by
  have h1 := (wb.2.1 a ha).1
  refine zX6_claimOn ?_
  refine s_inN ?_ (fun ea => ?_)
  · omega
  try simp only [ea]
  clear ea
  refine sX6_netWorth wl w ha hb h1 (fun g' s w' => ?_)
  have := debtC_bnd wl.1 w (t := g 10 a) ha hb
  exact sJ9_maxL (by omega) (by omega) (k g' s w')
theorem sX6_setMarket {T : Nat × (Nat → Int32)} {d : Nat} {Q : mz_K} {X : mz_X} {g : mz_S} {t kd p : Int} (ht : 0 ≤ t ∧ t < 8) (hk : 0 ≤ kd ∧ kd < 4) (k : Q (g 24 (t * 4 + kd).toNat) (mx_up g 24 (t * 4 + kd).toNat p)) : zC T (d + 1) 90 [mx_R 15, mx_I t, mx_I kd, mx_I p] g Q X := by
  refine zX6_setMarket ?_
  have i : mx_in (t * 4 + kd) 32 := zin (by omega) (by omega) (by omega)
  have e : mx_at (t * 4 + kd) = (t * 4 + kd).toNat := zat (by omega) (by omega)
  refine ⟨i, i, ?_⟩
  rintro _ rfl
  rw [e]
  exact k
theorem sX6_detail {T : Nat × (Nat → Int32)} {d : Nat} {Q : mz_K} {X : mz_X} {g : mz_S} {e w : Int} (he : 0 ≤ e ∧ e < 400) (hw : 0 ≤ w ∧ w ≤ 6) (k : Q (g (16 + w.toNat) e.toNat) g) : zC T (d + 1) 84 [mx_R 15, mx_I e, mx_I w] g Q X := by
  have i : mx_in e 400 := zin (by omega) (by omega) (by omega)
  have ea : mx_at e = e.toNat := zat (by omega) (by omega)
  refine zX6_detail ?_
  rw [w32_of (by omega) (by omega)]
  refine ⟨fun h => ?_, fun h => ?_⟩
  · have : w = 6 := by omega
    subst this
    rw [ea]
    exact ⟨i, k⟩
  · have h6 : w = 0 ∨ w = 1 ∨ w = 2 ∨ w = 3 ∨ w = 4 ∨ w = 5 := by omega
    rcases h6 with z | z | z | z | z | z <;> subst z
    · exact zX6_detail_40 ⟨i, by rw [ea]; exact k⟩
    · exact zX6_detail_47 ⟨i, by rw [ea]; exact k⟩
    · exact zX6_detail_54 ⟨i, by rw [ea]; exact k⟩
    · exact zX6_detail_61 ⟨i, by rw [ea]; exact k⟩
    · exact zX6_detail_68 ⟨i, by rw [ea]; exact k⟩
    · exact zX6_detail_75 ⟨i, by rw [ea]; exact k⟩
