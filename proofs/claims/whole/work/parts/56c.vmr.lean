/-! the reference works as the machine -/
theorem up_id {g : mz_S} {q i : Nat} {v : Int} (h : g q i = v) : mx_up g q i v = g := by
  funext a b
  unfold mx_up
  split
  · next z => rw [z.1, z.2, h]
  · rfl
theorem sX12_two {T : Nat × (Nat → Int32)} {d : Nat} {Q : mz_K} {X : mz_X} {g : mz_S} {c x y : Int} (hc : isOp c) (h54 : g 99 54 = 0) (k1 : (c = 47 ∨ c = 37) → w64 y = 0 → Q 0 (mx_up g 99 54 1)) (k2 : ¬ ((c = 47 ∨ c = 37) ∧ w64 y = 0) → Q (opv c x y) g) : zC T (d + 1) 269 [mx_R 99, mx_I (opcR c), mx_J x, mx_J y] g Q X := by
  have dv : ∀ o : Int, (o = 7 ∧ c = 47) ∨ (o = 8 ∧ c = 37) → aX12_two T d Q X 102 [some (mx_R 99), some (mx_I o), some (mx_J x), none, some (mx_J y), none] [] g (0, 0) := by
    intro o ho
    refine zX12_two_102 ?_
    rw [lcm_z, w64_00]
    refine ⟨fun z => ?_, fun z => ?_⟩
    · refine zX12_two_115 ⟨by decide, ?_⟩
      rw [up_id h54]
      rintro _ rfl
      have k2 := k2 (fun q => z q.2)
      rw [h54]
      refine ⟨fun _ => ?_, fun q => absurd rfl q⟩
      rcases ho with ⟨rfl, rfl⟩ | ⟨rfl, rfl⟩
      · exact ⟨fun q => absurd rfl q, fun _ => ⟨z, zX12_two_146 k2⟩⟩
      · exact ⟨fun _ => ⟨z, zX12_two_146 k2⟩, fun q => absurd (by decide) q⟩
    · refine zX12_two_115 ⟨by decide, ?_⟩
      intro g1 e1
      have v : g1 99 54 = 1 := by rw [e1, up_s]
      rw [v]
      refine ⟨fun q => absurd q (by decide), fun _ => zX12_two_146 ?_⟩
      rw [e1]
      exact k1 (by omega) (Classical.not_not.mp z)
  have cm : ∀ (p : Prop) [Decidable p] (R : Int → Prop), R (if p then 1 else 0) → (p → R 1) ∧ (¬ p → R 0) := fun p _ R h => ⟨fun z => by rw [if_pos z] at h; exact h, fun z => by rw [if_neg z] at h; exact h⟩
  unfold isOp at hc
  refine zX12_two ?_
  rcases hc with z | z | z | z | z | z | z | z <;> subst z
  · exact ⟨fun q => absurd (by decide) q, fun _ => zX12_two_48 (k2 (by omega))⟩
  · exact ⟨fun q => absurd (by decide) q, fun _ => zX12_two_53 (k2 (by omega))⟩
  · exact ⟨fun q => absurd (by decide) q, fun _ => zX12_two_58 (k2 (by omega))⟩
  · exact ⟨fun q => absurd (by decide) q, fun _ => dv _ (Or.inl ⟨rfl, rfl⟩)⟩
  · exact ⟨fun q => absurd (by decide) q, fun _ => dv _ (Or.inr ⟨rfl, rfl⟩)⟩
  · have k := cm (w64 x < w64 y) (fun v => Q v g) (k2 (by omega))
    refine ⟨fun q => absurd (by decide) q, fun _ => zX12_two_63 ?_⟩
    rw [lcm_ge]
    exact ⟨fun z => zX12_two_75 (k.2 z), fun z => zX12_two_75 (k.1 (Classical.not_not.mp z))⟩
  · have k := cm (w64 y < w64 x) (fun v => Q v g) (k2 (by omega))
    refine ⟨fun q => absurd (by decide) q, fun _ => zX12_two_76 ?_⟩
    rw [lcm_le]
    exact ⟨fun z => zX12_two_88 (k.2 z), fun z => zX12_two_88 (k.1 (Classical.not_not.mp z))⟩
  · have k := cm (w64 x = w64 y) (fun v => Q v g) (k2 (by omega))
    refine ⟨fun q => absurd (by decide) q, fun _ => zX12_two_89 ?_⟩
    rw [lcm_z]
    exact ⟨fun z => zX12_two_101 (k.2 z), fun z => zX12_two_101 (k.1 (Classical.not_not.mp z))⟩
/-- truths on the stack -/
def VT (t : List Bool) (s : vS) : Prop := t.length = s.1 ∧ ∀ j, j < s.1 → t.getD j false = true → s.2 j = 0 ∨ s.2 j = 1
theorem getD_l {r u : List Bool} {j : Nat} (h : j < r.length) : (r ++ u).getD j false = r.getD j false := by
  rw [List.getD_eq_getElem?_getD, List.getD_eq_getElem?_getD, List.getElem?_append_left h]
theorem getD_r {r u : List Bool} {j : Nat} : (r ++ u).getD (r.length + j) false = u.getD j false := by
  rw [List.getD_eq_getElem?_getD, List.getD_eq_getElem?_getD, List.getElem?_append_right (by omega), Nat.add_sub_cancel_left]
theorem VT.push {t : List Bool} {s : vS} {x : Int} {b : Bool} (h : VT t s) (hb : b = true → x = 0 ∨ x = 1) : VT (t ++ [b]) (s.1 + 1, lset s.2 s.1 x) := by
  obtain ⟨h1, h2⟩ := h
  refine ⟨by rw [len_app1, h1], fun j hj ht => ?_⟩
  dsimp only at hj ⊢
  by_cases z : j = s.1
  · subst z
    rw [lset_s]
    rw [← h1, show t.length = t.length + 0 from rfl, getD_r] at ht
    exact hb ht
  · rw [lset_n z]
    rw [getD_l (by omega)] at ht
    exact h2 j (by omega) ht
theorem VT.pop {t u : List Bool} {s : vS} (h : VT (t ++ u) s) : VT t (t.length, s.2) := by
  obtain ⟨h1, h2⟩ := h
  rw [List.length_append] at h1
  refine ⟨rfl, fun j hj ht => h2 j (by dsimp only at hj; omega) (by rw [getD_l hj]; exact ht)⟩
theorem VT.top {t : List Bool} {s : vS} (h : VT (t ++ [true]) s) : s.2 t.length = 0 ∨ s.2 t.length = 1 := by
  obtain ⟨h1, h2⟩ := h
  rw [len_app1] at h1
  exact h2 t.length (by omega) (by rw [show t.length = t.length + 0 from rfl, getD_r]; rfl)
theorem VT.eq {t : List Bool} {s s' : vS} (h : VT t s') (e : s'.1 = s.1) (h' : ∀ j, j < s.1 → s'.2 j = s.2 j) : VT t s := ⟨by rw [h.1, e], fun j hj ht => by rw [← h' j hj]; exact h.2 j (by omega) ht⟩
def VR (g0 g : mz_S) (s : vS) : Prop := Ch [132] [] g0 g ∧ ∀ j, j < s.1 → g 132 j = s.2 j
def VRo (g0 g : mz_S) (r : Int) (o : Bool × (Nat → Int)) : Prop := Ch [132] [54] g0 g ∧ (o.1 = true → g 99 54 = 1) ∧ (o.1 = false → g 99 54 = 0 ∧ r = o.2 0)
theorem VR.push {g0 g : mz_S} {s : vS} {x : Int} (h : VR g0 g s) : VR g0 (mx_up g 132 s.1 x) (s.1 + 1, lset s.2 s.1 x) := by
  refine ⟨h.1.up (by decide) (by decide), fun j hj => ?_⟩
  dsimp only at hj ⊢
  by_cases z : j = s.1
  · subst z; rw [up_s, lset_s]
  · rw [up_i z, lset_n z]; exact h.2 j (by omega)
theorem VR.pop {g0 g : mz_S} {s : vS} {h : Nat} (w : VR g0 g s) (e : h ≤ s.1) : VR g0 g (h, s.2) := ⟨w.1, fun j hj => w.2 j (by dsimp only at hj; omega)⟩
