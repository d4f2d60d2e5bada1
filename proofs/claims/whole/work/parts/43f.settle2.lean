/-! settle on both sides -/
def entC : List Nat := [15, 16, 17, 18, 19, 20, 21, 22, 23, 111, 112, 113, 114, 115, 116, 117, 118]
theorem nbB_mono {g g2 : mz_S} {m : Int} (e13 : ∀ i : Nat, i < 12 → ¬ g 13 i = -1 → ¬ g2 13 i = -1) (e1 : g 15 2 = m) (e2 : g2 15 2 = m + 1) {x y : Nat} (hx : x < 12) (hy : y < 12) (z : Nat) : nbB g x y z + 100000 ≤ nbB g2 x y z := by
  have f1 := e13 x hx
  have f2 := e13 y hy
  unfold nbB
  rw [e1, e2]
  by_cases h1 : z = 0 ∧ (¬ g 13 x = -1 ∨ ¬ g 13 y = -1)
  · rw [if_pos h1, if_pos ⟨h1.1, by rcases h1.2 with z | z; exact Or.inl (f1 z); exact Or.inr (f2 z)⟩]; omega
  · rw [if_neg h1]
    split <;> omega
theorem nbB_pos {g : mz_S} (h : 0 ≤ g 15 2) (x y z : Nat) : 0 ≤ nbB g x y z := by
  unfold nbB
  split <;> omega
theorem C_settle {T : Nat × (Nat → Int32)} {d : Nat} {X X' : mz_X} {g : mz_S} {a b co n : Int} (wl : IL g) (wb : IB g) (w : IE g) (ha : R32 a) (hb : R32 b) (hc : R32 co) (hn : R32 n) : zC T (d + 5) 370 [mx_R 0, mx_I a, mx_I b, mx_I co, mx_I n, mx_R 179] g (fun kk g1 => zC T (d + 5) 285 [mx_R 99, mx_I a, mx_I b, mx_I co, mx_I n] g1 (fun r g2 => AnsI kk r g2 ∧ IB g2 ∧ IE g2 ∧ Qy (14 :: 110 :: 179 :: entC) [0, 16] g g2) X') X := by
  have hw := wb.1.1
  have hw2 := w.1.1
  have bad : ∀ n : Int, 1 ≤ n ∧ n ≤ 3 → AnsI n 0 (mx_up (mx_up g 99 0 0) 99 0 n) ∧ IB (mx_up (mx_up g 99 0 0) 99 0 n) ∧ IE (mx_up (mx_up g 99 0 0) 99 0 n) ∧ Qy (14 :: 110 :: 179 :: entC) [0, 16] g (mx_up (mx_up g 99 0 0) 99 0 n) := fun n hn =>
    ⟨⟨by omega, up_s, fun z => by omega⟩, wb.fr (ch_bad g n) (by decide) (by decide), w.fr (ch_bad g n) (by decide) (by decide), (ch_bad g n).sub (by decide) (by decide), fun z => z.fr (ch_bad g n) (by decide)⟩
  refine wL_settle (sX11_settle wb.1 w.1 ha hb hc hn (fun h1 => Or.inl ⟨rfl, ?_⟩) (fun h1 h2 => Or.inr (Or.inl ⟨rfl, ?_⟩)) (fun h1 h2 h3 => Or.inr (Or.inr ⟨rfl, ?_⟩)) (fun h1 h2 h3 S eS => ?_))
  · exact sX12_settle wb.1 w.1 w.2.1 wb.2.1 w.2.2.1 ha hb hc hn (fun _ => bad 1 (by omega)) (fun z => absurd z h1) (fun z => absurd z h1) (fun z => absurd z h1)
  · exact sX12_settle wb.1 w.1 w.2.1 wb.2.1 w.2.2.1 ha hb hc hn (fun z => absurd h1 z) (fun _ _ => bad 2 (by omega)) (fun _ z => absurd z h2) (fun _ z => absurd z h2)
  · exact sX12_settle wb.1 w.1 w.2.1 wb.2.1 w.2.2.1 ha hb hc hn (fun z => absurd h1 z) (fun _ z => absurd h2 z) (fun _ _ _ => bad 3 (by omega)) (fun _ _ z => absurd z h3)
  · obtain ⟨g1, eg1⟩ : ∃ g1, g1 = mx_up S 179 0 (w32 (netC S a.toNat b.toNat co.toNat)) := ⟨_, rfl⟩
    rw [← eg1]
    have c1 : Ch (14 :: 110 :: 179 :: entC) [0, 16] g g1 := by
      rw [eg1, eS]
      unfold setS recS
      repeat' first | exact Ch.rf g | refine Ch.up ?_ (by decide) (by decide)
    have c1r : Ch [14, 179, 15, 16, 17, 18, 19, 20, 21, 22, 23] [] g g1 := by
      rw [eg1, eS]
      unfold setS recS
      repeat' first | exact Ch.rf g | refine Ch.up ?_ (by decide) (by decide)
    refine sX12_settle (c := g) wb.1 w.1 w.2.1 (wb.2.1.fr c1r (by decide) (by decide)) (w.2.2.1.fr c1r (by decide) (by decide)) ha hb hc hn (fun z => absurd h1 z) (fun _ z => absurd h2 z) (fun _ _ z => absurd h3 z) (fun _ _ _ v1 v2 hv1 hv2 S2 eS2 => ?_)
    have f4 := wb.1.2.2 (a * 4 + co).toNat (by omega)
    have f5 := wb.1.2.2 (b * 4 + co).toNat (by omega)
    obtain ⟨a', rfl⟩ := Int.eq_ofNat_of_zero_le h1.1.1
    obtain ⟨b', rfl⟩ := Int.eq_ofNat_of_zero_le h1.2.1
    obtain ⟨co', rfl⟩ := Int.eq_ofNat_of_zero_le h2.2.1.1
    obtain ⟨m, em⟩ := Int.eq_ofNat_of_zero_le hw2.1
    simp only [Int.toNat_natCast] at h3 eg1 eS eS2 ⊢
    have x1 : ((a' : Int) * 4 + co').toNat = a' * 4 + co' := by omega
    have x2 : ((b' : Int) * 4 + co').toNat = b' * 4 + co' := by omega
    have x3 : (((a' : Int) * 12 + b') * 4 + co').toNat = (a' * 12 + b') * 4 + co' := by omega
    have x4 : (((b' : Int) * 12 + a') * 4 + co').toNat = (b' * 12 + a') * 4 + co' := by omega
    have hab : ¬ (a' : Int) = b' := h2.1
    have r16 : g 99 16 = m := by rw [w.2.2.1.1, em]
    have r1 : g 99 1 = g 1 0 := wl.2.2.1.1
    have tn : ((m : Int)).toNat = m := by omega
    have c2 : Ch (14 :: 110 :: 179 :: entC) [0, 16] g S2 := by
      rw [eS2]
      unfold entS
      repeat' first | exact c1 | refine Ch.up9 ?_ (by decide) | refine Ch.up ?_ (by decide) (by decide)
    have q14 : S2 14 = lset (lset (g 14) (a' * 4 + co') (g 14 (a' * 4 + co') - n)) (b' * 4 + co') (min 10000000 (g 14 (b' * 4 + co') + n)) := by
      rw [eS2, eg1, eS]; simp [entS, setS, recS, up_at, x1, x2]
    have q110 : S2 110 = lset (lset (g 110) (a' * 4 + co') v1) (b' * 4 + co') v2 := by
      rw [eS2, eg1, eS]; simp [entS, setS, recS, up_at, x1, x2]
    rw [x1] at f4 h3 hv1
    rw [x2] at f5 hv2
    have hB : IB S2 := by
      refine wb.coins c2 (by decide) (by decide) (fun i hi => ?_) (fun i hi => ?_)
      · rw [q14, q110]
        have := wb.2.1.2.2 i hi
        unfold lset
        split
        · rw [hv2, w32_of (by omega) (by omega)]
        · split
          · rw [hv1, w32_of (by omega) (by omega)]
          · exact this
      · rw [q14]
        have := wb.1.2.2 i hi
        unfold lset
        split
        · omega
        · split
          · omega
          · exact this
    have q13 : S2 13 = g 13 := c2.1 13 (by decide) (by decide)
    have q15 : S2 15 2 = m + 1 := by rw [eS2, eg1, eS]; simp [entS, setS, recS, up_at, lset, em]
    have nb := w.2.2.2.1 a' b' co' (by omega) (by omega) (by omega)
    have mo := nbB_mono (g := g) (g2 := S2) (m := m) (fun i _ z => by rw [q13]; exact z) em q15 (x := a') (y := b') (by omega) (by omega) co'
    have ps := nbB_pos (g := g) (by omega) a' b' co'
    have hE : IE S2 := by
      refine w.rec (m := m) (a := a') (b := b') (co := co') (t := g 10 b') (n := -n) (s := 1) (hd := 0) (now := g 1 0) em (by omega) wl.1.1 (wb.1.2.1 b' (by omega)).1 (by omega) (by omega) (by omega) (by omega) (by omega) (by omega) (fun i _ z => by rw [q13]; exact z) q15 ?_ ?_ ?_ ?_ ?_ ?_ ?_ ?_ ?_ ?_ ?_ ?_ ?_ ?_ ?_ ?_ ?_ ?_ ?_ ?_ (by omega)
      all_goals (rw [eS2, eg1, eS]; simp [entS, setS, recS, up_at, lset, em, x1, x2, x3, x4, r16, r1, hab, netC])
    refine sX12_netI hE.1 hE.2.1 hE.2.2.1 (by omega) (by omega) (by omega) ?_
    simp only [Int.toNat_natCast]
    refine ⟨⟨by omega, ?_, fun _ => ?_⟩, hB, hE, c2, fun z => z.fr c2 (by decide)⟩
    · rw [eS2]; simp [entS, up_at, lset]
    · have e23 : S2 23 = S 23 := by rw [eS2, eg1]; simp [entS, up_at]
      have e179 : S2 179 0 = w32 (netC S a' b' co') := by rw [eS2, eg1]; simp [entS, up_at, lset]
      rw [e179]
      unfold netC
      rw [e23]
