/-! what a call changes; what calls ask of their arguments -/
def Ch (S F : List Nat) (g g' : mz_S) : Prop := (∀ q, q ∉ S → q ≠ 99 → g' q = g q) ∧ ∀ f, f ∉ F → g' 99 f = g 99 f
theorem Ch.rf {S F : List Nat} (g : mz_S) : Ch S F g g := ⟨fun _ _ _ => rfl, fun _ _ => rfl⟩
theorem Ch.tr {S F : List Nat} {g g' g2 : mz_S} (h : Ch S F g g') (h2 : Ch S F g' g2) : Ch S F g g2 := ⟨fun q a b => (h2.1 q a b).trans (h.1 q a b), fun f a => (h2.2 f a).trans (h.2 f a)⟩
theorem Ch.up {S F : List Nat} {g g' : mz_S} (h : Ch S F g g') {q i : Nat} {v : Int} (hq : q ∈ S) (h9 : q ≠ 99) : Ch S F g (mx_up g' q i v) := by
  refine ⟨fun a ha h99 => ?_, fun f hf => ?_⟩
  · rw [← h.1 a ha h99]
    funext j
    exact up_q (fun e => ha (e ▸ hq))
  · rw [up_q (fun e => h9 e.symm)]
    exact h.2 f hf
theorem Ch.up9 {S F : List Nat} {g g' : mz_S} (h : Ch S F g g') {f : Nat} {v : Int} (hf : f ∈ F) : Ch S F g (mx_up g' 99 f v) := by
  refine ⟨fun a ha h99 => ?_, fun f2 hf2 => ?_⟩
  · rw [← h.1 a ha h99]
    funext j
    exact up_q h99
  · have hn : f2 ≠ f := fun e => hf2 (e ▸ hf)
    rw [up_i hn]
    exact h.2 f2 hf2
theorem Ch.cell {S F : List Nat} {g g' : mz_S} (h : Ch S F g g') {q : Nat} {f : Nat → Int} (hq : q ∈ S) (h9 : q ≠ 99) : Ch S F g (cellS g' q f) := by
  refine ⟨fun a ha h99 => ?_, fun f2 hf2 => ?_⟩
  · have hn : a ≠ q := fun e => ha (e ▸ hq)
    rw [cellS_n hn]
    exact h.1 a ha h99
  · rw [cellS_n (fun e => h9 e.symm)]
    exact h.2 f2 hf2
theorem Ch.fill {S F : List Nat} {g g' : mz_S} (h : Ch S F g g') {q n : Nat} {v : Int} (hq : q ∈ S) (h9 : q ≠ 99) : Ch S F g (fillS g' q n v) := by
  refine ⟨fun a ha h99 => ?_, fun f2 hf2 => ?_⟩
  · rw [← h.1 a ha h99]
    funext j
    have hn : ¬ (a = q ∧ j < n) := fun z => ha (z.1 ▸ hq)
    exact if_neg hn
  · rw [← h.2 f2 hf2]
    have hn : ¬ (99 = q ∧ f2 < n) := fun z => h9 z.1.symm
    exact if_neg hn
theorem Ch.sub {S F S' F' : List Nat} {g g' : mz_S} (h : Ch S F g g') (hS : ∀ q ∈ S, q ∈ S') (hF : ∀ f ∈ F, f ∈ F') : Ch S' F' g g' := ⟨fun q a b => h.1 q (fun z => a (hS q z)) b, fun f a => h.2 f (fun z => a (hF f z))⟩
theorem Sm8.ch {F : List Nat} {g g' : mz_S} (h : Sm8 g g') : Ch [8] F g g' := ⟨fun q a _ => h q (fun e => a (by rw [e]; exact List.mem_singleton.mpr rfl)), fun f _ => by rw [h 99 (by decide)]⟩
/-- what calls ask -/
theorem sX11_needFound {T : Nat × (Nat → Int32)} {d : Nat} {Q : mz_K} {X : mz_X} {g : mz_S} {p : Prop} [Decidable p] (a : p → Q 0 g) (b : ¬ p → X 0 g) : zC T (d + 1) 148 [mx_I (pI p)] g Q X := by
  refine zX11_needFound ?_
  first | with_reducible refine b_eq (fun h => ?_) (fun h => ?_) | with_reducible refine b_ne (fun h => ?_) (fun h => ?_)
  · exact a h
  · exact ⟨by decide, by decide, b h⟩
theorem sX11_needArgument {T : Nat × (Nat → Int32)} {d : Nat} {Q : mz_K} {X : mz_X} {g : mz_S} {p : Prop} [Decidable p] (a : p → Q 0 g) (b : ¬ p → X 1 g) : zC T (d + 1) 149 [mx_I (pI p)] g Q X := by
  refine zX11_needArgument ?_
  first | with_reducible refine b_eq (fun h => ?_) (fun h => ?_) | with_reducible refine b_ne (fun h => ?_) (fun h => ?_)
  · exact a h
  · exact ⟨by decide, by decide, b h⟩
theorem sX11_needState {T : Nat × (Nat → Int32)} {d : Nat} {Q : mz_K} {X : mz_X} {g : mz_S} {p : Prop} [Decidable p] (a : p → Q 0 g) (b : ¬ p → X 2 g) : zC T (d + 1) 150 [mx_I (pI p)] g Q X := by
  refine zX11_needState ?_
  first | with_reducible refine b_eq (fun h => ?_) (fun h => ?_) | with_reducible refine b_ne (fun h => ?_) (fun h => ?_)
  · exact a h
  · exact ⟨by decide, by decide, b h⟩
theorem sX11_needPlace {T : Nat × (Nat → Int32)} {d : Nat} {Q : mz_K} {X : mz_X} {g : mz_S} {p : Prop} [Decidable p] (a : p → Q 0 g) (b : ¬ p → X 3 g) : zC T (d + 1) 151 [mx_I (pI p)] g Q X := by
  refine zX11_needPlace ?_
  first | with_reducible refine b_eq (fun h => ?_) (fun h => ?_) | with_reducible refine b_ne (fun h => ?_) (fun h => ?_)
  · exact a h
  · exact ⟨by decide, by decide, b h⟩
/-- where the truth is known -/
theorem nF_t {T : Nat × (Nat → Int32)} {d : Nat} {Q : mz_K} {X : mz_X} {g : mz_S} (a : Q 0 g) : zC T (d + 1) 148 [mx_I 1] g Q X := sX11_needFound (p := True) (fun _ => a) (fun z => absurd trivial z)
theorem nF_f {T : Nat × (Nat → Int32)} {d : Nat} {Q : mz_K} {X : mz_X} {g : mz_S} (a : X 0 g) : zC T (d + 1) 148 [mx_I 0] g Q X := sX11_needFound (p := False) (fun z => absurd z id) (fun _ => a)
theorem nA_t {T : Nat × (Nat → Int32)} {d : Nat} {Q : mz_K} {X : mz_X} {g : mz_S} (a : Q 0 g) : zC T (d + 1) 149 [mx_I 1] g Q X := sX11_needArgument (p := True) (fun _ => a) (fun z => absurd trivial z)
theorem nA_f {T : Nat × (Nat → Int32)} {d : Nat} {Q : mz_K} {X : mz_X} {g : mz_S} (a : X 1 g) : zC T (d + 1) 149 [mx_I 0] g Q X := sX11_needArgument (p := False) (fun z => absurd z id) (fun _ => a)
theorem nS_t {T : Nat × (Nat → Int32)} {d : Nat} {Q : mz_K} {X : mz_X} {g : mz_S} (a : Q 0 g) : zC T (d + 1) 150 [mx_I 1] g Q X := sX11_needState (p := True) (fun _ => a) (fun z => absurd trivial z)
theorem nS_f {T : Nat × (Nat → Int32)} {d : Nat} {Q : mz_K} {X : mz_X} {g : mz_S} (a : X 2 g) : zC T (d + 1) 150 [mx_I 0] g Q X := sX11_needState (p := False) (fun z => absurd z id) (fun _ => a)
theorem nP_t {T : Nat × (Nat → Int32)} {d : Nat} {Q : mz_K} {X : mz_X} {g : mz_S} (a : Q 0 g) : zC T (d + 1) 151 [mx_I 1] g Q X := sX11_needPlace (p := True) (fun _ => a) (fun z => absurd trivial z)
theorem nP_f {T : Nat × (Nat → Int32)} {d : Nat} {Q : mz_K} {X : mz_X} {g : mz_S} (a : X 3 g) : zC T (d + 1) 151 [mx_I 0] g Q X := sX11_needPlace (p := False) (fun z => absurd z id) (fun _ => a)
theorem sX11_within {T : Nat × (Nat → Int32)} {d : Nat} {Q : mz_K} {X : mz_X} {g : mz_S} {x lo hi : Int} (hx : R32 x) (hl : R32 lo) (hh : R32 hi) (k : Q (pI (lo ≤ x ∧ x ≤ hi)) g) : zC T (d + 1) 152 [mx_I x, mx_I lo, mx_I hi] g Q X := by
  refine zX11_within ?_
  first | with_reducible refine c_lt ?_ ?_ (fun h => ?_) (fun h => ?_) | with_reducible refine c_le ?_ ?_ (fun h => ?_) (fun h => ?_) | with_reducible refine c_eq ?_ ?_ (fun h => ?_) (fun h => ?_) | with_reducible refine c_ne ?_ ?_ (fun h => ?_) (fun h => ?_)
  · omega
  · omega
  · refine zX11_within_14 (zX11_within_15 ⟨zb0, ?_⟩)
    rw [pI_f (by omega)] at k; exact k
  · first | with_reducible refine c_lt ?_ ?_ (fun h2 => ?_) (fun h2 => ?_) | with_reducible refine c_le ?_ ?_ (fun h2 => ?_) (fun h2 => ?_) | with_reducible refine c_eq ?_ ?_ (fun h2 => ?_) (fun h2 => ?_) | with_reducible refine c_ne ?_ ?_ (fun h2 => ?_) (fun h2 => ?_)
    · omega
    · omega
    · refine zX11_within_14 (zX11_within_15 ⟨zb0, ?_⟩)
      rw [pI_f (by omega)] at k; exact k
    · refine zX11_within_15 ⟨zb1, ?_⟩
      rw [pI_t (by omega)] at k; exact k
theorem sX11_isCoin {T : Nat × (Nat → Int32)} {d : Nat} {Q : mz_K} {X : mz_X} {g : mz_S} {x : Int} (hx : R32 x) (k : Q (pI (0 ≤ x ∧ x ≤ 3)) g) : zC T (d + 2) 153 [mx_I x] g Q X := zX11_isCoin (sX11_within hx (by omega) (by omega) ⟨pI_01 _, k⟩)
theorem sX11_isDay {T : Nat × (Nat → Int32)} {d : Nat} {Q : mz_K} {X : mz_X} {g : mz_S} {x : Int} (hx : R32 x) (k : Q (pI (0 ≤ x ∧ x ≤ 999)) g) : zC T (d + 2) 154 [mx_I x] g Q X := zX11_isDay (sX11_within hx (by omega) (by omega) ⟨pI_01 _, k⟩)
theorem sX11_isTray {T : Nat × (Nat → Int32)} {d : Nat} {Q : mz_K} {X : mz_X} {g : mz_S} {x : Int} (hx : R32 x) (k : Q (pI (0 ≤ x ∧ x ≤ 3)) g) : zC T (d + 2) 159 [mx_I x] g Q X := zX11_isTray (sX11_within hx (by omega) (by omega) ⟨pI_01 _, k⟩)
theorem sX11_isTown {T : Nat × (Nat → Int32)} {d : Nat} {Q : mz_K} {X : mz_X} {g : mz_S} {x : Int} (hx : R32 x) (h : 0 ≤ g 1 1 ∧ g 1 1 ≤ 8) (k : Q (pI (0 ≤ x ∧ x ≤ g 1 1 - 1)) g) : zC T (d + 2) 156 [mx_R 0, mx_I x] g Q X := zX11_isTown (sX11_within hx (by omega) (by omega) ⟨pI_01 _, k⟩)
theorem sX11_isBroker {T : Nat × (Nat → Int32)} {d : Nat} {Q : mz_K} {X : mz_X} {g : mz_S} {x : Int} (hx : R32 x) (h : 0 ≤ g 9 1 ∧ g 9 1 ≤ 12) (k : Q (pI (0 ≤ x ∧ x ≤ g 9 1 - 1)) g) : zC T (d + 2) 157 [mx_R 0, mx_I x] g Q X := zX11_isBroker (sX11_within hx (by omega) (by omega) ⟨pI_01 _, k⟩)
theorem sX11_isWord {T : Nat × (Nat → Int32)} {d : Nat} {Q : mz_K} {X : mz_X} {g : mz_S} {x : Int} (hx : R32 x) (h : 0 ≤ g 48 4 ∧ g 48 4 ≤ 100) (k : Q (pI (0 ≤ x ∧ x ≤ g 48 4 - 1)) g) : zC T (d + 2) 158 [mx_R 0, mx_I x] g Q X := zX11_isWord (sX11_within hx (by omega) (by omega) ⟨pI_01 _, k⟩)
theorem sX11_holds {T : Nat × (Nat → Int32)} {d : Nat} {Q : mz_K} {X : mz_X} {g : mz_S} {x : Int} {n : Nat} (hn : n < 32) (k : Q (pI (zb x n = true)) g) : zC T (d + 1) 155 [mx_I x, mx_I (n : Int)] g Q X := by
  refine zX11_holds ?_
  rw [zb_holds hn]
  cases hz : zb x n with
  | false =>
    rw [pI_f (by rw [hz]; decide)] at k
    exact ⟨fun _ => zX11_holds_13 ⟨zb0, k⟩, fun z => absurd rfl z⟩
  | true =>
    rw [pI_t hz] at k
    exact ⟨fun z => absurd z (by decide), fun _ => zX11_holds_13 ⟨zb1, k⟩⟩
