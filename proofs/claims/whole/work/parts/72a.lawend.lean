/-! how a call of the law ends -/
theorem r32 (a : Int32) : R32 a.toInt := by
  have h : w32 a.toInt = a.toInt := by unfold w32; rw [Int32.ofInt_toInt]
  rw [← h]
  exact ⟨w32_lo _, w32_hi _⟩
theorem r64 (a : Int64) : R64 a.toInt := by
  have h : w64 a.toInt = a.toInt := by unfold w64; rw [Int64.ofInt_toInt]
  rw [← h]
  exact ⟨w64_lo _, w64_hi _⟩
theorem lcmp_self (x : Int) : mx_lcmp x x = 0 := by
  unfold mx_lcmp
  rw [if_neg (Int.lt_irrefl _), if_pos rfl]
theorem fin_I {T : Nat × (Nat → Int32)} {d : Nat} {X : mz_X} {r1 r2 : Int} {g2 : mz_S} {A B C : mz_S → Prop} (h : AnsI r1 r2 g2) (k : A g2) : zC T (d + 220) 208 [mx_R 99] g2 (fun r3 g3 => (w32 r3 = w32 r1 → (¬ w32 r1 = w32 0 → A g3) ∧ (¬ (¬ w32 r1 = w32 0) → mx_in 0 1 ∧ (w32 (mx_lcmp (g3 179 (mx_at 0)) (w32 r2)) = w32 0 → A g3) ∧ (¬ (w32 (mx_lcmp (g3 179 (mx_at 0)) (w32 r2)) = w32 0) → B g3))) ∧ (¬ (w32 r3 = w32 r1) → C g3)) X := by
  obtain ⟨h1, h2, h3⟩ := h
  refine zX12_thrown (d := d + 219) ?_
  rw [h2]
  refine ⟨fun _ => ⟨fun _ => k, fun hz => ⟨zin (by omega) (by omega) (by omega), fun _ => k, fun hn => ?_⟩⟩, fun hn => absurd rfl hn⟩
  exfalso
  have e := Decidable.not_not.mp hz
  rw [w32_of (by omega) (by omega), w32_0] at e
  refine hn ?_
  rw [show mx_at 0 = 0 by decide, h3 e, lcmp_self]
theorem fin_L {T : Nat × (Nat → Int32)} {d : Nat} {X : mz_X} {r1 r2 : Int} {g2 : mz_S} {A B C : mz_S → Prop} (h : AnsL r1 r2 g2) (k : A g2) : zC T (d + 220) 208 [mx_R 99] g2 (fun r3 g3 => (w32 r3 = w32 r1 → (¬ w32 r1 = w32 0 → A g3) ∧ (¬ (¬ w32 r1 = w32 0) → mx_in 0 1 ∧ (w32 (mx_lcmp (g3 179 (mx_at 0)) r2) = w32 0 → A g3) ∧ (¬ (w32 (mx_lcmp (g3 179 (mx_at 0)) r2) = w32 0) → B g3))) ∧ (¬ (w32 r3 = w32 r1) → C g3)) X := by
  obtain ⟨h1, h2, h3⟩ := h
  refine zX12_thrown (d := d + 219) ?_
  rw [h2]
  refine ⟨fun _ => ⟨fun _ => k, fun hz => ⟨zin (by omega) (by omega) (by omega), fun _ => k, fun hn => ?_⟩⟩, fun hn => absurd rfl hn⟩
  exfalso
  have e := Decidable.not_not.mp hz
  rw [w32_of (by omega) (by omega), w32_0] at e
  refine hn ?_
  rw [show mx_at 0 = 0 by decide, h3 e, lcmp_self]
theorem fin_V {T : Nat × (Nat → Int32)} {d : Nat} {X : mz_X} {r1 : Int} {g2 : mz_S} {A C : mz_S → Prop} (h : AnsV r1 g2) (k : A g2) : zC T (d + 220) 208 [mx_R 99] g2 (fun r3 g3 => (w32 r3 = w32 r1 → A g3) ∧ (¬ (w32 r3 = w32 r1) → C g3)) X := by
  obtain ⟨h1, h2⟩ := h
  refine zX12_thrown (d := d + 219) ?_
  rw [h2]
  exact ⟨fun _ => k, fun hn => absurd rfl hn⟩
theorem fin_E {r b : Int} {A B : Prop} (h : r = b) (k : A) : (w32 r = w32 b → A) ∧ (¬ (w32 r = w32 b) → B) := ⟨fun _ => k, fun hn => absurd (by rw [h]) hn⟩
/-- what goes on behind a call -/
abbrev LwT (T : Nat × (Nat → Int32)) (d : Nat) (Q : mz_K) (X : mz_X) (W : Int) (u : Nat × Nat) (x4 : Int) : Prop := ∀ (g' : mz_S) (u' : Nat × Nat) (o5 o6 o7 : Option mx_v), InvA (W + 1728) g' → u'.1 ≤ u.1 + 3 → u'.2 ≤ u.2 + 18 → aLaw T (d + 220) Q X 3640 [some (mx_S 0), some (mx_R 0), some (mx_R 99), some (mx_R 179), some (mx_I x4), o5, o6, o7] [] g' u'
