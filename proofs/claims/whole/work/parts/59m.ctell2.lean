/-! the call tell, whole -/
def teS : List Nat := [8, 48, 49, 50, 51, 52, 53, 54, 55, 56, 58, 59, 14, 39, 45, 46, 47, 134, 135, 136, 137, 138, 139, 140, 141, 142, 143, 144, 145, 146, 110, 130, 131, 132, 133, 179]
def teF : List Nat := [0, 50, 54, 55]
theorem C_tell {T : Nat × (Nat → Int32)} {d : Nat} {X X' : mz_X} {g : mz_S} {W a b co n s : Int} (wl : IL g) (wc : WfC g) (wb : IB g) (we : IE g) (w : IW g) (wi : IC W g) (hW : W + 3 < 2147483647) (ha : R32 a) (hb : R32 b) (hc : R32 co) (hn : R32 n) (hs : R32 s) : zC T (d + 10) 362 [mx_R 0, mx_I a, mx_I b, mx_I co, mx_I n, mx_I s, mx_R 179] g (fun kk g1 => zC T (d + 10) 275 [mx_R 99, mx_I a, mx_I b, mx_I co, mx_I n, mx_I s] g1 (fun r g2 => AnsI kk r g2 ∧ IB g2 ∧ IW g2 ∧ IC (W + 4) g2 ∧ Qy teS teF g g2) X') X := by
  obtain ⟨nt, al, tw, e36, wk1, wk2⟩ := wi.txw
  have wk : WkS W g := ⟨wk1, wk2⟩
  have wb1 := wb.1.1
  have bad : ∀ n : Int, 1 ≤ n ∧ n ≤ 3 → AnsI n 0 (mx_up (mx_up g 99 0 0) 99 0 n) ∧ IB (mx_up (mx_up g 99 0 0) 99 0 n) ∧ IW (mx_up (mx_up g 99 0 0) 99 0 n) ∧ IC (W + 4) (mx_up (mx_up g 99 0 0) 99 0 n) ∧ Qy teS teF g (mx_up (mx_up g 99 0 0) 99 0 n) := fun n hn =>
    ⟨⟨by omega, up_s, fun z => by omega⟩, wb.fr (ch_bad g n) (by decide) (by decide), w.fr (ch_bad g n) (by decide) (by decide), (wi.wk (by omega)).fr (ch_bad g n) (by decide) (by decide), (ch_bad g n).sub (by decide) (by decide), fun z => z.fr (ch_bad g n) (by decide)⟩
  obtain ⟨R1, R2, R3, R4, R5, R6⟩ := paRef (nt := nt) wl wb we w e36 (Ch.rf g)
  have jj : ∀ {A A' : Nat}, a = (A : Int) → a = (A' : Int) → A' = A := fun h h' => by omega
  have jb : ∀ {A A' : Nat}, b = (A : Int) → b = (A' : Int) → A' = A := fun h h' => by omega
  refine wL_tell (sX11_tell (d := d) (nt := nt) (al := al) ⟨wl.1, wc⟩ wb.1 we.1 w.1 tw wk hW ha hb hc hn hs (fun h1 => Or.inl ⟨rfl, ?_⟩) (fun h1 h2 => Or.inr (Or.inl ⟨rfl, ?_⟩)) (fun A B eA eB hA hB h2 h3 G cG wcG sG kG => Or.inr (Or.inr ⟨rfl, ?_⟩)) (fun A B m eA eB hA hB em hm h2 h3 G cG wcG sG kG nw e59 e14 => ?_))
  · exact sX12_tell (c := g) (d := d + 4) wl.1 wb.1 we.1 we.2.1 w.1 R1 R2 R3 R4 tw R5 R6 ha hb hc hn hs (fun _ => bad 1 (by omega)) (fun z => absurd z h1) (fun A B eA eB hA hB => absurd ⟨by omega, by omega⟩ h1) (fun A B m eA eB hA hB => absurd ⟨by omega, by omega⟩ h1)
  · exact sX12_tell (c := g) (d := d + 4) wl.1 wb.1 we.1 we.2.1 w.1 R1 R2 R3 R4 tw R5 R6 ha hb hc hn hs (fun z => absurd h1 z) (fun _ _ => bad 2 (by omega)) (fun A B eA eB hA hB z => absurd z h2) (fun A B m eA eB hA hB em hm z => absurd z h2)
  · obtain ⟨S1, S2, S3, S4, S5, S6⟩ := paRef (nt := nt) wl wb we w e36 (cG.sub (by decide) (by decide))
    refine sX12_tell (c := g) (d := d + 4) wl.1 wb.1 we.1 we.2.1 w.1 S1 S2 S3 S4 tw S5 S6 ha hb hc hn hs (fun z => absurd ⟨by omega, by omega⟩ z) (fun _ z => absurd h2 z) (fun A' B' eA' eB' _ _ _ _ H cH => ?_) (fun A' B' m eA' eB' _ _ em hm _ z => absurd ⟨by omega, by rw [jj eA eA', jb eB eB'] at z; exact z⟩ h3)
    have c2 : Ch [8, 39, 45, 46, 47, 130, 131, 132, 133] [0, 50, 54] g (mx_up H 99 0 3) := ((cG.sub (by decide) (by decide)).tr (cH.sub (by decide) (by decide))).up9 (by decide)
    have k39 : (mx_up H 99 0 3) 39 = G 39 := by rw [up_at, if_neg (by decide), cH.1 39 (by decide) (by decide)]
    have k46 : (mx_up H 99 0 3) 46 = G 46 := by rw [up_at, if_neg (by decide), cH.1 46 (by decide) (by decide)]
    refine ⟨⟨by omega, up_s, fun z => by omega⟩, wb.fr c2 (by decide) (by decide), w.fr c2 (by decide) (by decide), ?_, c2.sub (by decide) (by decide), fun _ => (wcG.fr cH (by decide)).fr (S := []) (F := [0]) ((Ch.rf H).up9 (by decide)) (by decide)⟩
    exact (wi.wk (by omega)).walk c2 (by decide) (by decide) (by rw [k39]; exact sG.2) (by rw [k39]; exact kG.1) (by rw [k39, k46]; exact kG.2)
  · obtain ⟨G0, eG0⟩ : ∃ G0, G0 = mx_up G 179 0 (w32 (m : Int)) := ⟨_, rfl⟩
    rw [← eG0]
    have cG0 : Ch [8, 48, 49, 50, 51, 52, 53, 54, 55, 56, 58, 59, 14, 39, 45, 46, 47, 179] [] g G0 := by rw [eG0]; exact (cG.sub (by decide) (by decide)).up (by decide) (by decide)
    obtain ⟨S1, S2, S3, S4, S5, S6⟩ := paRef (nt := nt) wl wb we w e36 (cG0.sub (by decide) (by decide))
    refine sX12_tell (c := g) (d := d + 4) wl.1 wb.1 we.1 we.2.1 w.1 S1 S2 S3 S4 tw S5 S6 ha hb hc hn hs (fun z => absurd ⟨by omega, by omega⟩ z) (fun _ z => absurd h2 z) (fun A' B' eA' eB' _ _ _ z H cH => absurd ⟨by omega, by rw [jj eA eA', jb eB eB']; exact h3⟩ z) (fun A' B' m' eA' eB' _ _ em' _ _ _ H v cH h0 hn' h144 hv h110 => ?_)
    obtain rfl := jj eA eA'
    obtain rfl := jb eB eB'
    obtain rfl : m' = m := by omega
    have c2 : Ch teS teF g H := (cG0.sub (by decide) (by decide)).tr (cH.sub (by decide) (by decide))
    have fC : ∀ q, q ∈ [48, 49, 50, 51, 52, 53, 54, 55, 56, 58, 59, 14, 39, 46, 8] → H q = G q := fun q hq => by
      rw [cH.1 q (by simp at hq ⊢; omega) (by intro z; subst z; revert hq; decide), eG0, up_at, if_neg (by intro z; subst z; revert hq; decide)]
    have k179 : H 179 0 = w32 (m' : Int) := by rw [cH.1 179 (by decide) (by decide), eG0, up_s]
    have o14 := wb.1.2.2 (A' * 4 + co).toNat (by omega)
    have rg0 := akF_rng (g := g) (nt := nt) (al := al) (a := A') (b := B') (n := n) (coin := co) (s := 0) (by decide)
    have rg0' : 0 ≤ w64 (akF g nt al A' B' n co 0) ∧ w64 (akF g nt al A' B' n co 0) ≤ 100000 := rg0
    have rg1 := akF_rng (g := g) (nt := nt) (al := al) (a := A') (b := B') (n := n) (coin := co) (s := 1) (by decide)
    have rg1' : 1 ≤ w64 (akF g nt al A' B' n co 1) ∧ w64 (akF g nt al A' B' n co 1) ≤ 500 := rg1
    have lb := wl.1.2.2.2.1 (g 10 A' * 8 + g 10 B').toNat (by have := wb.1.2.1 A' (by have := wb.1.1; omega); have := wb.1.2.1 B' (by have := wb.1.1; omega); omega)
    have w0 := wl.1.1
    have z3 := h3.2.2.1
    have wst : w32 (g 1 0 + g 3 (g 10 A' * 8 + g 10 B').toNat + akF g nt al A' B' n co 1) = g 1 0 + g 3 (g 10 A' * 8 + g 10 B').toNat + w64 (akF g nt al A' B' n co 1) := by
      have e := w32_akF (g := g) (nt := nt) (al := al) (a := A') (b := B') (n := n) (coin := co) (s := 1) (by decide)
      have e2 := w32_add (a := g 1 0 + g 3 (g 10 A' * 8 + g 10 B').toNat) (b := akF g nt al A' B' n co 1) (by rw [e]; omega) (by rw [e]; omega)
      rw [e2, e]
    obtain ⟨n1, n2, n3, n4, n5, n6, n7, n8, n9, n10⟩ := nw
    have nr := hn' (fun q => if q = 144 then lset (G0 144) m' 0 else H q) (if_pos rfl) (fun q hq => if_neg hq)
    unfold NwR at nr
    simp only [Nat.reduceEqDiff, if_false, if_true] at nr
    have cb : ∀ q, q ∈ [134, 135, 136, 137, 138, 139, 140, 141, 142, 143, 144, 145, 146, 110] → G0 q = g q := fun q hq => cG0.1 q (by simp at hq ⊢; omega) (by intro z; subst z; revert hq; decide)
    rw [cb 134 (by decide), cb 135 (by decide), cb 136 (by decide), cb 137 (by decide), cb 138 (by decide), cb 139 (by decide), cb 140 (by decide), cb 141 (by decide), cb 142 (by decide), cb 143 (by decide), cb 145 (by decide), cb 146 (by decide)] at nr
    obtain ⟨r1, r2, r3, r4, r5, r6, r7, r8, r9, r10, r11, r12, r13, r14⟩ := nr
    rw [cb 144 (by decide)] at h144
    refine ⟨⟨by omega, h0, fun _ => k179⟩, ?_, ?_, ?_, c2, fun _ => ?_⟩
    · refine wb.coins c2 (by decide) (by decide) (fun i hi => ?_) (fun i hi => ?_)
      · rw [h110, fC 14 (by decide), e14, cb 110 (by decide)]
        have := wb.2.1.2.2 i hi
        unfold lset
        split
        · rw [hv, w32_of (by omega) (by omega)]
        · exact this
      · rw [fC 14 (by decide), e14]
        have := wb.1.2.2 i hi
        unfold lset
        split
        · omega
        · exact this
    · refine w.new (m := m') em (by rw [c2.1 9 (by decide) (by decide)]) (by rw [fC 48 (by decide), n10, lset_s]) hm r14 (fun i hi q hq => ?_) (fun i hi => ?_) ?_ (fun i h1 h2 => ?_)
      · have hne : i ≠ m' := by omega
        simp only [List.mem_cons, List.not_mem_nil, or_false] at hq
        rcases hq with z | z | z | z | z | z | z | z | z | z | z | z | z | z | z | z | z | z | z | z | z | z | z | z <;> subst z
        · rw [fC 49 (by decide), n1, lset_n hne]
        · rw [fC 50 (by decide), n2, lset_n hne]
        · rw [fC 51 (by decide), n3, lset_n hne]
        · rw [fC 52 (by decide), n4, lset_n hne]
        · rw [fC 53 (by decide), n5, lset_n hne]
        · rw [fC 54 (by decide), n6, lset_n hne]
        · rw [fC 55 (by decide), n7, lset_n hne]
        · rw [fC 56 (by decide), n8, lset_n hne]
        · rw [c2.1 57 (by decide) (by decide)]
        · rw [fC 59 (by decide), e59, lset_n hne]
        · rw [c2.1 60 (by decide) (by decide)]
        · rw [c2.1 61 (by decide) (by decide)]
        · rw [r1, lset_n hne]
        · rw [r2, lset_n hne]
        · rw [r3, lset_n hne]
        · rw [r4, lset_n hne]
        · rw [r5, lset_n hne]
        · rw [r6, lset_n hne]
        · rw [r7, lset_n hne]
        · rw [r8, lset_n hne]
        · rw [r9, lset_n hne]
        · rw [h144, lset_n hne]
        · rw [r12, lset_n hne]
        · rw [r13, lset_n hne]
      · have hne : i ≠ m' := by omega
        have wi' := w.1.2.1 i (by omega)
        obtain ⟨a1, a2, a3, a4, a5, a6, a7, a8, a9, a10, a11, a12, a13⟩ := wi'
        rw [r10, fC 58 (by decide), n9, lset_n hne, lset_n hne, fC 49 (by decide), n1]
        refine ⟨(w.2.2 i (by omega)).2.2.2.2.2.2.2.2.2.1, by omega, fun z => ?_, a11.2⟩
        rw [lset_n (by omega)]
        exact a10 z
      · have fr := w.1.2.2 m' hm (by omega)
        unfold WdI WdR
        rw [fC 49 (by decide), fC 50 (by decide), fC 51 (by decide), fC 52 (by decide), fC 53 (by decide), fC 54 (by decide), fC 55 (by decide), fC 56 (by decide), fC 58 (by decide), fC 59 (by decide), fC 48 (by decide), c2.1 57 (by decide) (by decide), c2.1 60 (by decide) (by decide), c2.1 61 (by decide) (by decide), c2.1 9 (by decide) (by decide), n1, n2, n3, n4, n5, n6, n7, n8, n9, n10, e59, r1, r2, r3, r4, r5, r6, r7, r8, r9, r10, h144, r12, r13]
        simp only [lset_s]
        rw [fr.1, fr.2.2.1, fr.2.2.2, wst]
        have h2a := h2.1
        refine ⟨⟨by omega, by omega, by omega, by omega, by omega, by omega, by omega, by omega, by omega, fun z => absurd (by first | trivial | rfl) z, ⟨Or.inl (by first | trivial | rfl), fun z => by omega⟩, Or.inl (by first | trivial | rfl), h2a⟩, (by first | trivial | rfl), (by first | trivial | rfl), (by first | trivial | rfl), (by first | trivial | rfl), (by first | trivial | rfl), (by first | trivial | rfl), (by first | trivial | rfl), (by first | trivial | rfl), (by first | trivial | rfl), (by first | trivial | rfl), (by first | trivial | rfl), (by first | trivial | rfl), (by first | trivial | rfl)⟩
      · rw [c2.1 57 (by decide) (by decide), c2.1 60 (by decide) (by decide), c2.1 61 (by decide) (by decide), fC 59 (by decide), e59, lset_n (by omega)]
        exact ⟨rfl, rfl, rfl, rfl⟩
    · exact (wi.wk (by omega)).walk c2 (by decide) (by decide) (by rw [fC 39 (by decide)]; exact sG.2) (by rw [fC 39 (by decide)]; exact kG.1) (by rw [fC 39 (by decide), fC 46 (by decide)]; exact kG.2)
    · refine wcG.cg (fun q hq => ?_) (by rw [c2.1 1 (by decide) (by decide), cG.1 1 (by decide) (by decide)]) (by rw [c2.1 1 (by decide) (by decide), cG.1 1 (by decide) (by decide)])
      by_cases z : q = 8
      · subst z; exact fC 8 (by decide)
      · rw [c2.1 q (by unfold teS; simp at hq ⊢; omega) (by simp at hq; omega), cG.1 q (by simp at hq ⊢; omega) (by simp at hq; omega)]
