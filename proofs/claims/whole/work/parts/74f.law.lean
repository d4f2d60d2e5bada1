/-! the law, whole, over the small machine -/
theorem mx_law_ok : mx_law := by
  intro L xs hL
  have loop := law_loop (T := (L, xs)) (d := 1080) (Q := fun n _ => w32 n = 1) (X := fun _ _ => False) hL (fun _ => w32_1) 512 0 (mu_g mu_w2) (180, 28478) 0 none none none rfl i_all ⟨by omega, by omega⟩ (by decide) (by decide)
  rw [show 1080 + 220 = 1300 from rfl, show 7 * ((0 : Nat) : Int) = 0 from rfl] at loop
  have hC : ∀ m as g K X, zC (L, xs) 1300 m as g K X → mx_CA mx_mT mx_mB (mx_F1 L xs) 1300 m as (mz_sh, g) (mz_up mz_sh (mz_rk m) K X) := fun m as g K X z => mz_CAs 1300 m as g K X z
  have hM : ∀ m as h R R', (∀ o h, R o h → R' o h) → mx_CA mx_mT mx_mB (mx_F1 L xs) 1300 m as h R → mx_CA mx_mT mx_mB (mx_F1 L xs) 1300 m as h R' := fun m as h R R' hR z => mx_CA_mono hR z
  refine mx_A_in (J := mz_Ju mz_sh (mz_A (mx_F1 L xs, ([] : List (Nat × Nat × Nat × Nat × Nat)), ((601024, 7293034) : Nat × Nat)) mz_sh mz_rk 1 (zC (L, xs) 1300) bL_law (fun n _ => w32 n = 1) (fun _ _ => False))) (fun pc L2 st h u z => ?_) (law_pre ?_)
  · obtain ⟨s, g⟩ := h
    obtain ⟨h1, h2⟩ := z
    dsimp only at h1 h2
    subst h1
    exact mz_As hC hM h2
  · exact mz_Bs hC hM _ _ _ _ _ (zout loop)
