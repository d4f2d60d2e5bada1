/-! the first town -/
theorem C0_town {T : Nat × (Nat → Int32)} {d : Nat} {X X' : mz_X} {g : mz_S} (w : IL0 g) : zC T (d + 4) 161 [mx_R 0] g (fun r g1 => zC T (d + 4) 213 [mx_R 99] g1 (fun b g2 => r = b ∧ IL g2 ∧ (WfC g → WfC g2) ∧ Ch [1, 101] [0, 2] g g2 ∧ (∀ p, p ≠ 1 → g2 1 p = g 1 p) ∧ g 1 1 ≤ g2 1 1) X') X := by
  have ht := w.1.2.1
  have e2 : g 99 2 = g 1 1 := w.2.2.1.2.1
  refine zX11_town (zX5_addTown ?_)
  first | with_reducible refine c_lt ?_ ?_ (fun h1 => ?_) (fun h1 => ?_) | with_reducible refine c_le ?_ ?_ (fun h1 => ?_) (fun h1 => ?_) | with_reducible refine c_eq ?_ ?_ (fun h1 => ?_) (fun h1 => ?_) | with_reducible refine c_ne ?_ ?_ (fun h1 => ?_) (fun h1 => ?_)
  · omega
  · omega
  · intro g1 eg1
    have s1 : g1 1 1 = g 1 1 + 1 := by rw [eg1, up_s]
    have s0 : ∀ p, p ≠ 1 → g1 1 p = g 1 p := fun p hp => by rw [eg1, up_i hp]
    have sq : ∀ q, q ≠ 1 → g1 q = g q := fun q hq => by rw [eg1, up_at, if_neg hq]
    rw [s1]
    refine zX12_town ?_
    intro g3 eg3
    have t2 : g3 99 2 = g 1 1 := by rw [eg3, up_i (by decide), sq 99 (by decide), e2]
    rw [t2]
    refine ⟨fun _ => ?_, fun z => absurd (by rw [w32_of (by omega) (by omega), w32_of (by omega) (by omega)]; omega) z⟩
    intro g4 eg4
    have u2 : g4 99 2 = g 1 1 + 1 := by rw [eg4, up_s]
    have c4 : Ch [1] [0, 2] g g4 := by rw [eg4, eg3, eg1]; exact (((Ch.rf g).up (by decide) (by decide)).up9 (by decide)).up9 (by decide)
    refine sX12_measure (c := g) (N := (g 1 1 + 1).toNat) (by omega) (by rw [u2]; omega) w.2.1.1 (fun x y hx hy hxy ho => w.2.1.2.1 x y hx hy hxy (by omega)) (by rw [c4.1 100 (by decide) (by decide)]; exact w.2.2.2.1) (fun f hf => ?_)
    obtain ⟨g5, eg5⟩ : ∃ g5, g5 = cellS g4 101 f := ⟨_, rfl⟩
    rw [← eg5]
    have v2 : g5 99 2 = g 1 1 + 1 := by rw [eg5, cellS_n (by decide), u2]
    have v1 : g5 1 = g1 1 := by rw [eg5, cellS_n (by decide), eg4, up_at, if_neg (by decide), eg3, up_at, if_neg (by decide)]
    have c5 : Ch [1, 101] [0, 2] g g5 := by rw [eg5]; exact (c4.sub (by decide) (by decide)).cell (by decide) (by decide)
    rw [v2]
    have sq0 : ∀ q, q ≠ 101 → cellS g 101 (encF (g 3)) q = g q := fun q hq => cellS_n hq
    have cs : Ch [1, 101, 179] [0, 2] (cellS g 101 (encF (g 3))) g5 := ⟨fun q a b => by rw [sq0 q (fun z => a (by rw [z]; decide))]; exact (c5.sub (S' := [1, 101, 179]) (F' := [0, 2]) (by decide) (by decide)).1 q a b, fun f a => by rw [sq0 99 (by decide)]; exact c5.2 f a⟩
    refine ⟨rfl, w.il.town cs (by rw [sq0 1 (by decide)]; omega) (by rw [sq0 1 (by decide), v1, s1]) (fun p hp => by rw [sq0 1 (by decide), v1, s0 p hp]) (by rw [sq0 1 (by decide)]; exact v2) (fun i hi => by rw [sq0 2 (by decide), eg5, cellS_s]; exact hf i hi), fun wc => wc.cg (fun q hq => c5.1 q (by revert hq; revert q; decide) (by intro z; subst z; revert hq; decide)) (by rw [v1, s0 0 (by decide)]) (by rw [v1, s0 4 (by decide)]), c5, fun p hp => by rw [v1, s0 p hp], by rw [v1, s1]; omega⟩
  · have := w.2.2.2.2.1
    omega
theorem O_town {T : Nat × (Nat → Int32)} {d : Nat} {X : mz_X} {g : mz_S} {W : Int} (hI : Inv0 W g) (hW : 0 ≤ W ∧ W ≤ 1000000000) : zC T (d + 220) 161 [mx_R 0] g (fun r g1 => zC T (d + 220) 213 [mx_R 99] g1 (fun b g2 => r = b ∧ InvA (W + 1728) g2) X) X := by
  obtain ⟨wl, wc, wb, we, wx, wt, wp, wi, iw, hB⟩ := hI
  refine zM (C0_town (d := d + 216) wl) (fun _ g1 z => zM z (fun _ g2 h => ?_))
  obtain ⟨h0, hIL, hC, hch, he0, he1⟩ := h
  exact ⟨h0, Or.inl ⟨hIL, (hC wc), (IB.go wb hch (by decide) (by decide) (Int.le_of_eq (he0 0 (by decide)).symm)), (IE.fr we hch (by decide) (by decide)), (IX.fr wx hch (by decide) (by decide)), (IT.fr wt hch (by decide)), (IP.fr wp hch (by decide) (by decide)), (IC.wk (IC.fr wi hch (by decide) (by decide)) (by omega)), (IW.fr iw hch (by decide) (by decide))⟩⟩
