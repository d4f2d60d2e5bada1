/-! what steps reckon, as one machine for both sides -/
def opv (k x y : Int) : Int := if k = 43 then x + y else if k = 45 then x - y else if k = 42 then x * y else if k = 47 then mx_ldiv x y else if k = 37 then mx_lrem x y else if k = 60 then (if w64 x < w64 y then 1 else 0) else if k = 62 then (if w64 y < w64 x then 1 else 0) else (if w64 x = w64 y then 1 else 0)
abbrev vS := Nat × (Nat → Int)
def vrun (nm : Nat → Int) (l : List (Int × Int)) : Nat → Nat → vS → Bool × (Nat → Int)
  | 0, _, s => (false, s.2)
  | n + 1, i, s =>
    if l.length ≤ i then (false, s.2)
    else if (l.getD i (0, 0)).1 = 154 then vrun nm l n (i + 1) (s.1 + 1, lset s.2 s.1 (l.getD i (0, 0)).2)
    else if 136 ≤ (l.getD i (0, 0)).1 ∧ (l.getD i (0, 0)).1 ≤ 144 then vrun nm l n (i + 1) (s.1 + 1, lset s.2 s.1 (nm ((l.getD i (0, 0)).1 - 136).toNat))
    else if (l.getD i (0, 0)).1 = 152 then vrun nm l n (i + 1) (s.1, lset s.2 (s.1 - 1) (if w64 (s.2 (s.1 - 1)) = 0 then 1 else 0))
    else if (l.getD i (0, 0)).1 = 150 ∨ (l.getD i (0, 0)).1 = 151 then
      (if w64 (s.2 (s.1 - 1)) = 0 ↔ (l.getD i (0, 0)).1 = 151 then vrun nm l n (l.getD i (0, 0)).2.toNat s else vrun nm l n (i + 1) (s.1 - 1, s.2))
    else if ((l.getD i (0, 0)).1 = 47 ∨ (l.getD i (0, 0)).1 = 37) ∧ w64 (s.2 (s.1 - 1)) = 0 then (true, s.2)
    else vrun nm l n (i + 1) (s.1 - 1, lset s.2 (s.1 - 2) (opv (l.getD i (0, 0)).1 (s.2 (s.1 - 2)) (s.2 (s.1 - 1))))
def vgo (nm : Nat → Int) (l : List (Int × Int)) : Bool × (Nat → Int) := vrun nm l (l.length + 1) 0 (0, fun _ => 0)
theorem lcm_z {x y : Int} : w32 (mx_lcmp x y) = w32 0 ↔ w64 x = w64 y := by
  unfold mx_lcmp
  split
  · next z => rw [show w32 1 = 1 from rfl, show w32 0 = 0 from rfl]; omega
  · split
    · next z => simp [z]
    · next z => rw [show w32 (-1) = -1 from rfl, show w32 0 = 0 from rfl]; omega
theorem lcm_ge {x y : Int} : w32 0 ≤ w32 (mx_lcmp x y) ↔ ¬ w64 x < w64 y := by
  unfold mx_lcmp
  split
  · next z => rw [show w32 1 = 1 from rfl, show w32 0 = 0 from rfl]; omega
  · split
    · next z => rw [show w32 0 = 0 from rfl]; omega
    · next z => rw [show w32 (-1) = -1 from rfl, show w32 0 = 0 from rfl]; omega
theorem lcm_le {x y : Int} : w32 (mx_lcmp x y) ≤ w32 0 ↔ ¬ w64 y < w64 x := by
  unfold mx_lcmp
  split
  · next z => rw [show w32 1 = 1 from rfl, show w32 0 = 0 from rfl]; omega
  · split
    · next z => rw [show w32 0 = 0 from rfl]; omega
    · next z => rw [show w32 (-1) = -1 from rfl, show w32 0 = 0 from rfl]; omega
theorem w64_00 : w64 0 = 0 := rfl
theorem iand_k {k v : Int} (hk : 0 ≤ k ∧ k ≤ 255) : mx_iand (k + 256 * v) 255 = k := by
  obtain ⟨n, rfl⟩ := Int.eq_ofNat_of_zero_le hk.1
  unfold mx_iand
  refine i32_of (by omega) ?_
  rw [Int32.toBitVec_and, show (Int32.ofInt 255).toBitVec = BitVec.ofNat 32 255 from rfl]
  apply BitVec.eq_of_toNat_eq
  rw [BitVec.toNat_and, BitVec.toNat_ofNat, BitVec.toNat_ofNat, show (255 % 2 ^ 32) = 2 ^ 8 - 1 from rfl, Nat.and_two_pow_sub_one_eq_mod]
  rw [show (Int32.ofInt ((n : Int) + 256 * v)).toBitVec = BitVec.ofInt 32 ((n : Int) + 256 * v) from rfl, BitVec.toNat_ofInt]
  omega
/-- stack -/
theorem sX3_push {T : Nat × (Nat → Int32)} {d : Nat} {Q : mz_K} {X : mz_X} {g : mz_S} {h : Nat} {x : Int} (e : g 39 13 = h) (hh : h < 32) (k : Q 0 (mx_up (mx_up g 47 h x) 39 13 ((h + 1 : Nat) : Int))) : zC T (d + 1) 47 [mx_R 39, mx_J x] g Q X := by
  refine zX3_push ?_
  rw [e]
  first | with_reducible refine c_lt ?_ ?_ (fun z => ?_) (fun z => ?_) | with_reducible refine c_le ?_ ?_ (fun z => ?_) (fun z => ?_) | with_reducible refine c_eq ?_ ?_ (fun z => ?_) (fun z => ?_) | with_reducible refine c_ne ?_ ?_ (fun z => ?_) (fun z => ?_)
  · omega
  · omega
  · omega
  · refine s_inN ?_ (fun ea => ?_)
    · omega
    try simp only [ea]
    clear ea
    intro g1 e1
    rw [show g1 39 13 = h by rw [e1, up_q (by decide)]; exact e]
    intro g2 e2
    refine zX3_push_32 ?_
    rw [e2, e1, show (h : Int) + 1 = ((h + 1 : Nat) : Int) by omega]
    exact k
theorem sX3_pop {T : Nat × (Nat → Int32)} {d : Nat} {Q : mz_K} {X : mz_X} {g : mz_S} {h : Nat} (e : g 39 13 = ((h + 1 : Nat) : Int)) (hh : h < 32) (k : Q (g 47 h) (mx_up g 39 13 (h : Int))) : zC T (d + 1) 48 [mx_R 39] g Q X := by
  refine zX3_pop ?_
  rw [e]
  first | with_reducible refine c_lt ?_ ?_ (fun z => ?_) (fun z => ?_) | with_reducible refine c_le ?_ ?_ (fun z => ?_) (fun z => ?_) | with_reducible refine c_eq ?_ ?_ (fun z => ?_) (fun z => ?_) | with_reducible refine c_ne ?_ ?_ (fun z => ?_) (fun z => ?_)
  · omega
  · omega
  · intro g1 e1
    rw [show ((h + 1 : Nat) : Int) - 1 = h by omega] at e1
    rw [show g1 39 13 = h by rw [e1, up_s]]
    refine s_inN ?_ (fun ea => ?_)
    · omega
    try simp only [ea]
    clear ea
    rw [show g1 47 h = g 47 h by rw [e1, up_q (by decide)], e1]
    exact k
  · omega
def isOp (k : Int) : Prop := k = 43 ∨ k = 45 ∨ k = 42 ∨ k = 47 ∨ k = 37 ∨ k = 60 ∨ k = 62 ∨ k = 61
theorem sX3_join {T : Nat × (Nat → Int32)} {d : Nat} {Q : mz_K} {X : mz_X} {g : mz_S} {c x y : Int} (hc : isOp c) (k1 : (c = 47 ∨ c = 37) → w64 y = 0 → Q 0 (mx_up g 39 14 1)) (k2 : ¬ ((c = 47 ∨ c = 37) ∧ w64 y = 0) → Q (opv c x y) g) : zC T (d + 1) 49 [mx_R 39, mx_I c, mx_J x, mx_J y] g Q X := by
  have go : (¬ ((c = 47 ∨ c = 37) ∧ w64 y = 0)) → aX3_join T d Q X 26 [some (mx_R 39), some (mx_I c), some (mx_J x), none, some (mx_J y), none] [] g (0, 0) := by
    intro hz
    have k2 := k2 hz
    have wc : w32 c = c := w32_of (by unfold isOp at hc; omega) (by unfold isOp at hc; omega)
    refine zX3_join_26 ?_
    rw [wc]
    unfold isOp at hc
    rcases hc with z | z | z | z | z | z | z | z <;> subst z
    · refine ⟨fun z => absurd ⟨(43, 65), by decide, rfl⟩ z, fun k q hk hq => ?_⟩
      have : k = 2 := by
        rcases k with _ | _ | _ | _ | _ | _ | _ | k <;> simp at hk <;> subst hk <;> simp at hq <;> rfl
      subst this
      exact zX3_join_92 k2
    · refine ⟨fun z => absurd ⟨(45, 70), by decide, rfl⟩ z, fun k q hk hq => ?_⟩
      have : k = 3 := by
        rcases k with _ | _ | _ | _ | _ | _ | _ | k <;> simp at hk <;> subst hk <;> simp at hq <;> rfl
      subst this
      exact zX3_join_97 k2
    · refine ⟨fun z => absurd ⟨(42, 75), by decide, rfl⟩ z, fun k q hk hq => ?_⟩
      have : k = 1 := by
        rcases k with _ | _ | _ | _ | _ | _ | _ | k <;> simp at hk <;> subst hk <;> simp at hq <;> rfl
      subst this
      exact zX3_join_102 k2
    · refine ⟨fun z => absurd ⟨(47, 80), by decide, rfl⟩ z, fun k q hk hq => ?_⟩
      have : k = 4 := by
        rcases k with _ | _ | _ | _ | _ | _ | _ | k <;> simp at hk <;> subst hk <;> simp at hq <;> rfl
      subst this
      exact zX3_join_107 ⟨fun z => hz ⟨Or.inl rfl, z⟩, k2⟩
    · refine ⟨fun z => absurd ⟨(37, 85), by decide, rfl⟩ z, fun k q hk hq => ?_⟩
      have : k = 0 := by
        rcases k with _ | _ | _ | _ | _ | _ | _ | k <;> simp at hk <;> subst hk <;> simp at hq <;> rfl
      subst this
      exact zX3_join_112 ⟨fun z => hz ⟨Or.inr rfl, z⟩, k2⟩
    · refine ⟨fun z => absurd ⟨(60, 90), by decide, rfl⟩ z, fun k q hk hq => ?_⟩
      have : k = 5 := by
        rcases k with _ | _ | _ | _ | _ | _ | _ | k <;> simp at hk <;> subst hk <;> simp at hq <;> rfl
      subst this
      have k2 : Q (if w64 x < w64 y then 1 else 0) g := k2
      refine zX3_join_117 ?_
      rw [lcm_ge]
      by_cases y1 : w64 x < w64 y
      · rw [if_pos y1] at k2
        exact ⟨fun z => absurd y1 z, fun _ => zX3_join_129 k2⟩
      · rw [if_neg y1] at k2
        exact ⟨fun _ => zX3_join_129 k2, fun z => absurd y1 z⟩
    · refine ⟨fun z => absurd ⟨(62, 103), by decide, rfl⟩ z, fun k q hk hq => ?_⟩
      have : k = 6 := by
        rcases k with _ | _ | _ | _ | _ | _ | _ | k <;> simp at hk <;> subst hk <;> simp at hq <;> rfl
      subst this
      have k2 : Q (if w64 y < w64 x then 1 else 0) g := k2
      refine zX3_join_130 ?_
      rw [lcm_le]
      by_cases y1 : w64 y < w64 x
      · rw [if_pos y1] at k2
        exact ⟨fun z => absurd y1 z, fun _ => zX3_join_142 k2⟩
      · rw [if_neg y1] at k2
        exact ⟨fun _ => zX3_join_142 k2, fun z => absurd y1 z⟩
    · refine ⟨fun _ => ?_, fun k q hk hq => ?_⟩
      · have k2 : Q (if w64 x = w64 y then 1 else 0) g := k2
        refine zX3_join_143 ?_
        rw [lcm_z]
        by_cases y1 : w64 x = w64 y
        · rw [if_pos y1] at k2
          exact ⟨fun z => absurd y1 z, fun _ => zX3_join_155 k2⟩
        · rw [if_neg y1] at k2
          exact ⟨fun _ => zX3_join_155 k2, fun z => absurd y1 z⟩
      · exfalso
        rcases k with _ | _ | _ | _ | _ | _ | _ | k <;> simp at hk <;> subst hk <;> simp at hq
  have dv : c = 47 ∨ c = 37 → aX3_join T d Q X 12 [some (mx_R 39), some (mx_I c), some (mx_J x), none, some (mx_J y), none] [] g (0, 0) := by
    intro h
    refine zX3_join_12 ?_
    rw [lcm_z, w64_00]
    refine ⟨fun z => go (fun y => z y.2), fun z => ⟨by decide, ?_⟩⟩
    rintro _ rfl
    exact k1 h (Classical.not_not.mp z)
  refine zX3_join ?_
  unfold isOp at hc
  first | with_reducible refine c_lt ?_ ?_ (fun z => ?_) (fun z => ?_) | with_reducible refine c_le ?_ ?_ (fun z => ?_) (fun z => ?_) | with_reducible refine c_eq ?_ ?_ (fun z => ?_) (fun z => ?_) | with_reducible refine c_ne ?_ ?_ (fun z => ?_) (fun z => ?_)
  · omega
  · omega
  · exact dv (Or.inl z)
  · first | with_reducible refine c_lt ?_ ?_ (fun z2 => ?_) (fun z2 => ?_) | with_reducible refine c_le ?_ ?_ (fun z2 => ?_) (fun z2 => ?_) | with_reducible refine c_eq ?_ ?_ (fun z2 => ?_) (fun z2 => ?_) | with_reducible refine c_ne ?_ ?_ (fun z2 => ?_) (fun z2 => ?_)
    · omega
    · omega
    · exact go (fun y => by omega)
    · exact dv (Or.inr (by omega))
