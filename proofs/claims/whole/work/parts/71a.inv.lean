/-! the invariant of all -/
def Inv (W : Int) (g : mz_S) : Prop := IL g ∧ WfC g ∧ IB g ∧ IE g ∧ IX g ∧ IT g ∧ IP g ∧ IC W g ∧ IW g
theorem IC.f34 {W : Int} {g : mz_S} (w : IC W g) : g 99 34 = g 31 2 := by
  obtain ⟨nt, L, b, al, h1, h2, h3, h4, h5, h6, h7, h8, h9, h10, h11, h12, h13⟩ := w
  exact h12
theorem IC.f35 {W : Int} {g : mz_S} (w : IC W g) : g 99 35 = g 31 3 := by
  obtain ⟨nt, L, b, al, h1, h2, h3, h4, h5, h6, h7, h8, h9, h10, h11, h12, h13⟩ := w
  exact h13
theorem IC.f36 {W : Int} {g : mz_S} (w : IC W g) : g 99 36 = g 39 3 := by
  obtain ⟨nt, L, b, al, h1, h2, h3, h4, h5, h6, h7, h8, h9, h10, h11, h12, h13⟩ := w
  rw [h2, h3]
