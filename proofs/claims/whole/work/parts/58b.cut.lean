/-! what a line says is cut -/
def lmin (a b : Int) : Int := if w64 b < w64 a then b else a
def lmax (a b : Int) : Int := if w64 a < w64 b then b else a
def cv (s : Nat) (v : Int) : Int := lmax (mx_lea.getD s 0) (lmin (mx_mos.getD s 0) v)
theorem lcm_gt {x y : Int} : w32 0 < w32 (mx_lcmp x y) ↔ w64 y < w64 x := by
  have := lcm_le (x := x) (y := y)
  omega
theorem lcm_lt {x y : Int} : w32 (mx_lcmp x y) < w32 0 ↔ w64 x < w64 y := by
  have := lcm_ge (x := x) (y := y)
  omega
theorem sMin {T : Nat × (Nat → Int32)} {d : Nat} {Q : mz_K} {X : mz_X} {g : mz_S} {a b : Int} (k : Q (lmin a b) g) : zC T (d + 1) 350 [mx_J a, mx_J b] g Q X := by
  refine zJ9_min_f86c9 ?_
  rw [lcm_gt]
  unfold lmin at k
  by_cases z : w64 b < w64 a
  · rw [if_pos z] at k
    exact ⟨fun _ => zJ9_min_f86c9_11 k, fun y => absurd z y⟩
  · rw [if_neg z] at k
    exact ⟨fun y => absurd y z, fun _ => zJ9_min_f86c9_11 k⟩
theorem sMax {T : Nat × (Nat → Int32)} {d : Nat} {Q : mz_K} {X : mz_X} {g : mz_S} {a b : Int} (k : Q (lmax a b) g) : zC T (d + 1) 348 [mx_J a, mx_J b] g Q X := by
  refine zJ9_max_f86c9 ?_
  rw [lcm_lt]
  unfold lmax at k
  by_cases z : w64 a < w64 b
  · rw [if_pos z] at k
    exact ⟨fun _ => zJ9_max_f86c9_11 k, fun y => absurd z y⟩
  · rw [if_neg z] at k
    exact ⟨fun y => absurd y z, fun _ => zJ9_max_f86c9_11 k⟩
theorem sX12_cut {T : Nat × (Nat → Int32)} {d : Nat} {Q : mz_K} {X : mz_X} {g : mz_S} {s : Nat} {v : Int} (hs : s < 7) (k : Q (cv s v) g) : zC T (d + 2) 271 [mx_I (s : Int), mx_J v] g Q X := by
  have go : ∀ m M : Int, mx_lea.getD s 0 = m → mx_mos.getD s 0 = M → aX12_cut T (d + 1) Q X 75 [some (mx_I (s : Int)), some (mx_J v), none, some (mx_J m), none, none, none] [mx_J M] g (0, 0) := by
    intro m M h1 h2
    unfold cv at k
    rw [h1, h2] at k
    exact zX12_cut_75 (sMin (sMax k))
  refine zX12_cut ?_
  rcases (show s = 0 ∨ s = 1 ∨ s = 2 ∨ s = 3 ∨ s = 4 ∨ s = 5 ∨ s = 6 by omega) with z | z | z | z | z | z | z <;> subst z
  · exact ⟨fun _ => ⟨fun _ => zX12_cut_26 (zX12_cut_27 ⟨fun y => absurd (by decide) y, fun _ => go 0 100000 rfl rfl⟩), fun y => absurd (by decide) y⟩, fun y => absurd (by decide) y⟩
  · exact ⟨fun y => absurd (by decide) y, fun _ => zX12_cut_27 ⟨fun _ => ⟨fun y => absurd (by decide) y, fun _ => go 1 500 rfl rfl⟩, fun y => absurd (by decide) y⟩⟩
  · exact ⟨fun _ => ⟨fun _ => zX12_cut_26 (zX12_cut_27 ⟨fun _ => ⟨fun _ => ⟨fun y => absurd (by decide) y, fun _ => go 0 1000000000 rfl rfl⟩, fun y => absurd (by decide) y⟩, fun y => absurd (by decide) y⟩), fun y => absurd (by decide) y⟩, fun y => absurd (by decide) y⟩
  · exact ⟨fun _ => ⟨fun y => absurd y (by decide), fun _ => ⟨fun y => absurd y (by decide), fun _ => zX12_cut_27 ⟨fun _ => ⟨fun _ => ⟨fun _ => ⟨fun _ => go (-1000) 1000 rfl rfl, fun y => absurd (by decide) y⟩, fun y => absurd (by decide) y⟩, fun y => absurd (by decide) y⟩, fun y => absurd (by decide) y⟩⟩⟩, fun y => absurd (by decide) y⟩
  · exact ⟨fun _ => ⟨fun y => absurd y (by decide), fun _ => ⟨fun y => absurd y (by decide), fun _ => zX12_cut_27 ⟨fun _ => ⟨fun _ => ⟨fun _ => ⟨fun _ => go (-1000) 1000 rfl rfl, fun y => absurd (by decide) y⟩, fun y => absurd (by decide) y⟩, fun y => absurd (by decide) y⟩, fun y => absurd (by decide) y⟩⟩⟩, fun y => absurd (by decide) y⟩
  · exact ⟨fun _ => ⟨fun y => absurd y (by decide), fun _ => ⟨fun y => absurd y (by decide), fun _ => zX12_cut_27 ⟨fun _ => ⟨fun _ => ⟨fun _ => ⟨fun _ => go (-1000) 1000 rfl rfl, fun y => absurd (by decide) y⟩, fun y => absurd (by decide) y⟩, fun y => absurd (by decide) y⟩, fun y => absurd (by decide) y⟩⟩⟩, fun y => absurd (by decide) y⟩
  · exact ⟨fun _ => ⟨fun y => absurd y (by decide), fun _ => ⟨fun _ => zX12_cut_26 (zX12_cut_27 ⟨fun _ => ⟨fun _ => ⟨fun _ => ⟨fun y => absurd (by decide) y, fun _ => go 0 100 rfl rfl⟩, fun y => absurd (by decide) y⟩, fun y => absurd (by decide) y⟩, fun y => absurd (by decide) y⟩), fun y => absurd (by decide) y⟩⟩, fun y => absurd (by decide) y⟩
/-- what is said up to a place -/
def askP (nm : Nat → Int) (cn : Nat → pA) (M s : Nat) : Nat → Int
  | 0 => mx_uns.getD s 0
  | p + 1 => if (cn p).2.1 = (s : Int) ∧ ¬ vd cn M p ∧ spk nm (cn p) then cv s (spv nm (cn p)) else askP nm cn M s p
