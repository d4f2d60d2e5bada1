/-! lines: the class's count -/
def szA (al : Nat → List pA) (t : Nat) : Nat := (al t).length
def fC (g : mz_S) (al : Nat → List pA) (nt town : Nat) (day : Int) : List (Nat × Nat) := flat (szA al) (flC (g 40) (stP g town day) nt)
/-- what a walk needs of the texts -/
def TxW (g : mz_S) (nt : Nat) (al : Nat → List pA) : Prop := nt ≤ 6 ∧ g 39 3 = (nt : Int) ∧ OrdC (g 40) (g 42) nt ∧ ∃ L b : Nat, L ≤ 144 ∧ b ≤ 2400 ∧ ∀ t, t < nt → TxI g L b t (al t)
theorem fC_lnP {g : mz_S} {nt town : Nat} {day : Int} {al : Nat → List pA} (h : TxW g nt al) : LnP (cnF al (fC g al nt town day)) (fC g al nt town day).length := by
  obtain ⟨h1, h2, h3, L, b, h4, h5, h6⟩ := h
  constructor
  · unfold fC
    have l1 := flC_len (o := g 40) (P := stP g town day) nt
    have l2 := flat_len (sz := szA al) (l := flC (g 40) (stP g town day) nt) (fun t y => (h6 t ((flC_all h3).mp y).1).2.2.2.2.2.2.1)
    omega
  · intro p hp
    have m : (fC g al nt town day).getD p (0, 0) ∈ fC g al nt town day := by
      rw [List.getD_eq_getElem?_getD, List.getElem?_eq_getElem hp]
      exact List.getElem_mem hp
    have mm := flat_mem.mp m
    have tt := (flC_all h3).mp mm.1
    have tx := (h6 _ tt.1).2.2.2.2.2.2.2.2.2
    unfold cnF
    generalize (fC g al nt town day).getD p (0, 0) = x at mm tx
    refine tx _ ?_
    have hx : x.2 < (al x.1).length := mm.2
    rw [List.getD_eq_getElem?_getD, List.getElem?_eq_getElem hx]
    exact List.getElem_mem hx
theorem sX3_countLines {T : Nat × (Nat → Int32)} {d : Nat} {Q : mz_K} {X : mz_X} {g : mz_S} {nt town : Nat} {day : Int} {al : Nat → List pA} (h : TxW g nt al) (hw : town < 32) (hd : 0 ≤ day ∧ day ≤ 999) (hk1 : 0 ≤ g 39 11 ∧ g 39 11 < 2147483647) (hk2 : ∀ i, i < 1000 → 0 ≤ g 46 i ∧ g 46 i ≤ g 39 11) (b : Bool) (k : ∀ g', Ch [39, 46] [] g g' → (∀ p, p ≠ 11 → g' 39 p = g 39 p) → g' 39 11 = g 39 11 + 1 → (∀ i, i < 1000 → 0 ≤ g' 46 i ∧ g' 46 i ≤ g' 39 11) → Q (cntV (cnF al (fC g al nt town day)) (fC g al nt town day).length b (fC g al nt town day).length : Int) g') : zC T (d + 3) 40 [mx_R 39, mx_I (town : Int), mx_I day, mx_I (if b = true then 1 else 0)] g Q X := by
  have lp := fC_lnP (town := town) (day := day) h
  obtain ⟨h1, h2, h3, L, bb, h4, h5, h6⟩ := h
  obtain ⟨F, eF⟩ : ∃ F, F = fC g al nt town day := ⟨_, rfl⟩
  rw [← eF] at lp k
  refine zX3_countLines ?_
  intro g1 e1
  have c1 : Ch [39] [] g g1 := by rw [e1]; exact (Ch.rf g).up (by decide) (by decide)
  have n1 : g1 39 3 = nt := by rw [e1, up_i (by decide)]; exact h2
  rw [n1]
  have x3v : (if b = true then (1 : Int) else 0) = 0 ∨ (if b = true then (1 : Int) else 0) = 1 := by split <;> simp
  have x3b : (if b = true then (1 : Int) else 0) = 0 ↔ b = false := by cases b <;> simp
  generalize (if b = true then (1 : Int) else 0) = x3 at x3v x3b
  have ML : F.length = plC (g 40) (stP g town day) (szA al) nt := by rw [eF]; rfl
  have frm : ∀ G, Ch [46] [] g1 G → ∀ q, q ≠ 39 → q ≠ 46 → q ≠ 99 → G q = g q := fun G hG q a1 a2 a3 => by
    rw [hG.1 q (by simp; exact a2) a3, c1.1 q (by simp; exact a1) a3]
  have fin : ∀ G, Ch [46] [] g1 G → VW G (cnF al F) F.length 0 (g 39 11 + 1) → ∀ x4 : Int, x4 = (cntV (cnF al F) F.length b F.length : Int) - (cntV (cnF al F) F.length b 0 : Int) → Q x4 G := by
    intro G hG hv x4 hx
    have : x4 = (cntV (cnF al F) F.length b F.length : Int) := by rw [hx]; show _ - ((0 : Nat) : Int) = _; omega
    rw [this]
    refine k G ((c1.sub (by decide) (by decide)).tr (hG.sub (by decide) (by decide))) (fun p hp => ?_) hv.1 (fun i hi => ?_)
    · rw [hG.1 39 (by decide) (by decide), e1, up_i hp]
    · rw [hv.1]; exact (hv.2.2 i hi).1
  have main : ∀ kk : Nat, kk ≤ nt → ∀ G, Ch [46] [] g1 G → VW G (cnF al F) F.length (plC (g 40) (stP g town day) (szA al) kk) (g 39 11 + 1) → ∀ (x4 : Int) o6 o7 o8, x4 = (cntV (cnF al F) F.length b F.length : Int) - (cntV (cnF al F) F.length b (plC (g 40) (stP g town day) (szA al) kk) : Int) → aX3_countLines T (d + 2) Q X 21 [some (mx_R 39), some (mx_I (town : Int)), some (mx_I day), some (mx_I x3), some (mx_I x4), some (mx_I ((kk : Int) - 1)), o6, o7, o8] [] G (0, 0) := by
    intro kk
    induction kk with
    | zero =>
      intro _ G hG hv x4 o6 o7 o8 hx
      refine zX3_countLines_21 ?_
      first | with_reducible refine c_lt ?_ ?_ (fun z => ?_) (fun z => ?_) | with_reducible refine c_le ?_ ?_ (fun z => ?_) (fun z => ?_) | with_reducible refine c_eq ?_ ?_ (fun z => ?_) (fun z => ?_) | with_reducible refine c_ne ?_ ?_ (fun z => ?_) (fun z => ?_)
      · omega
      · omega
      · exact fin G hG hv x4 hx
      · omega
    | succ kk ih =>
      intro hkk G hG hv x4 o6 o7 o8 hx
      have ok := h3.1 kk (by omega)
      obtain ⟨t, et⟩ := Int.eq_ofNat_of_zero_le ok.1
      have ht : t < nt := by omega
      have tx := h6 t ht
      obtain ⟨y1, y2, y3, y4, y5, y6, y7, ⟨A, f1, f2, f3⟩, y8, y9⟩ := tx
      have q := frm G hG
      have stE : stP G town day t = stP g town day t := by unfold stP; rw [q 41 (by decide) (by decide) (by decide), q 42 (by decide) (by decide) (by decide)]
      have plS := plC_s (o := g 40) (P := stP g town day) (sz := szA al) (k := kk)
      rw [show (g 40 kk).toNat = t by omega] at plS
      refine zX3_countLines_21 ?_
      rw [show ((kk + 1 : Nat) : Int) - 1 = (kk : Int) by omega]
      first | with_reducible refine c_lt ?_ ?_ (fun z => ?_) (fun z => ?_) | with_reducible refine c_le ?_ ?_ (fun z => ?_) (fun z => ?_) | with_reducible refine c_eq ?_ ?_ (fun z => ?_) (fun z => ?_) | with_reducible refine c_ne ?_ ?_ (fun z => ?_) (fun z => ?_)
      · omega
      · omega
      · omega
      · refine s_inN ?_ (fun ea => ?_)
        · omega
        try simp only [ea]
        clear ea
        rw [q 40 (by decide) (by decide) (by decide), et]
        refine sX3_stands (d := d) (by omega) (by rw [q 42 (by decide) (by decide) (by decide)]; exact y2) hw hd ?_
        rw [stE]
        first | with_reducible refine b_eq (fun z2 => ?_) (fun z2 => ?_) | with_reducible refine b_ne (fun z2 => ?_) (fun z2 => ?_)
        · refine zX3_countLines_65 (zX3_countLines_73 ?_)
          rw [if_neg z2] at plS
          rw [plS] at hv hx
          refine s_inN ?_ (fun ea => ?_)
          · omega
          try simp only [ea]
          clear ea
          rw [q 43 (by decide) (by decide) (by decide), f1]
          first | with_reducible refine c_lt ?_ ?_ (fun z3 => ?_) (fun z3 => ?_) | with_reducible refine c_le ?_ ?_ (fun z3 => ?_) (fun z3 => ?_) | with_reducible refine c_eq ?_ ?_ (fun z3 => ?_) (fun z3 => ?_) | with_reducible refine c_ne ?_ ?_ (fun z3 => ?_) (fun z3 => ?_)
          · omega
          · omega
          · rw [show (kk : Int) + -1 = (kk : Int) - 1 by omega]
            exact ih (by omega) G hG hv x4 _ _ _ hx
          · omega
        · rw [if_pos z2] at plS
          have at' : ∀ j, j < szA al t → F.getD (plC (g 40) (stP g town day) (szA al) kk + j) (0, 0) = (t, j) := fun j hj => by
            have := plC_at (o := g 40) (P := stP g town day) (sz := szA al) (k := kk) (n := nt) (j := j) (by omega) (by rw [show (g 40 kk).toNat = t by omega]; exact z2) (by rw [show (g 40 kk).toNat = t by omega]; exact hj)
            rw [show (g 40 kk).toNat = t by omega] at this
            rw [eF]; exact this
          have plM := plC_le (o := g 40) (P := stP g town day) (sz := szA al) (k := kk + 1) (n := nt) hkk
          have inner : ∀ j : Nat, j ≤ szA al t → ∀ G, Ch [46] [] g1 G → VW G (cnF al F) F.length (plC (g 40) (stP g town day) (szA al) kk + j) (g 39 11 + 1) → ∀ (x4 x7 : Int), x4 = (cntV (cnF al F) F.length b F.length : Int) - (cntV (cnF al F) F.length b (plC (g 40) (stP g town day) (szA al) kk + j) : Int) → aX3_countLines T (d + 2) Q X 73 [some (mx_R 39), some (mx_I (town : Int)), some (mx_I day), some (mx_I x3), some (mx_I x4), some (mx_I (kk : Int)), some (mx_I (t : Int)), some (mx_I x7), some (mx_I (((A + j : Nat) : Int) - 1))] [] G (0, 0) := by
            intro j
            induction j with
            | zero =>
              intro _ G hG hv x4 x7 hx
              have q := frm G hG
              refine zX3_countLines_73 ?_
              refine s_inN ?_ (fun ea => ?_)
              · omega
              try simp only [ea]
              clear ea
              rw [q 43 (by decide) (by decide) (by decide), f1]
              first | with_reducible refine c_lt ?_ ?_ (fun z3 => ?_) (fun z3 => ?_) | with_reducible refine c_le ?_ ?_ (fun z3 => ?_) (fun z3 => ?_) | with_reducible refine c_eq ?_ ?_ (fun z3 => ?_) (fun z3 => ?_) | with_reducible refine c_ne ?_ ?_ (fun z3 => ?_) (fun z3 => ?_)
              · omega
              · omega
              · rw [show (kk : Int) + -1 = (kk : Int) - 1 by omega]
                exact ih (by omega) G hG hv x4 _ _ _ hx
              · omega
            | succ j ihj =>
              intro hj G hG hv x4 x7 hx
              have q := frm G hG
              have hjl : j < (al t).length := by unfold szA at hj; omega
              obtain ⟨a, la, _⟩ := f3 j hjl
              have hp : plC (g 40) (stP g town day) (szA al) kk + j < F.length := by rw [ML]; omega
              have ecn : cnF al F (plC (g 40) (stP g town day) (szA al) kk + j) = (al t).getD j (0, 0, 0, [], []) := by
                unfold cnF; rw [at' j (by omega)]
              have lc : LC G (cnF al F (plC (g 40) (stP g town day) (szA al) kk + j)) (A + j) := by
                rw [ecn]
                refine ⟨by omega, ?_, ?_, ?_⟩
                · rw [q 33 (by decide) (by decide) (by decide)]; exact la.2.2.2.1
                · rw [q 32 (by decide) (by decide) (by decide)]; exact la.2.2.2.2.1
                · rw [q 34 (by decide) (by decide) (by decide)]; exact la.2.2.2.2.2.1
              have nx : ∀ c : Int, c = (if b = false ∨ vd (cnF al F) F.length (plC (g 40) (stP g town day) (szA al) kk + j) then 1 else 0) → aX3_countLines T (d + 2) Q X 105 [some (mx_R 39), some (mx_I (town : Int)), some (mx_I day), some (mx_I x3), some (mx_I x4), some (mx_I (kk : Int)), some (mx_I (t : Int)), some (mx_I x7), some (mx_I ((A + j : Nat) : Int))] [mx_I c, mx_I x4] G (0, 0) := by
                intro c hc
                refine zX3_countLines_105 (sX3_noteVoid (d := d + 1) lp hp lc hv (fun G' hG' hv' => ?_))
                rw [show ((A + j : Nat) : Int) + -1 = ((A + j : Nat) : Int) - 1 by omega]
                refine ihj (by omega) G' (hG.tr hG') hv' (x4 + c) x7 ?_
                rw [hx, hc]
                have : cntV (cnF al F) F.length b (plC (g 40) (stP g town day) (szA al) kk + (j + 1)) = cntV (cnF al F) F.length b (plC (g 40) (stP g town day) (szA al) kk + j) + (if b = false ∨ vd (cnF al F) F.length (plC (g 40) (stP g town day) (szA al) kk + j) then 1 else 0) := rfl
                rw [this]
                split <;> omega
              refine zX3_countLines_73 ?_
              rw [show ((A + (j + 1) : Nat) : Int) - 1 = ((A + j : Nat) : Int) by omega]
              refine s_inN ?_ (fun ea => ?_)
              · omega
              try simp only [ea]
              clear ea
              rw [q 43 (by decide) (by decide) (by decide), f1]
              first | with_reducible refine c_lt ?_ ?_ (fun z3 => ?_) (fun z3 => ?_) | with_reducible refine c_le ?_ ?_ (fun z3 => ?_) (fun z3 => ?_) | with_reducible refine c_eq ?_ ?_ (fun z3 => ?_) (fun z3 => ?_) | with_reducible refine c_ne ?_ ?_ (fun z3 => ?_) (fun z3 => ?_)
              · omega
              · omega
              · omega
              · first | with_reducible refine c_lt ?_ ?_ (fun z4 => ?_) (fun z4 => ?_) | with_reducible refine c_le ?_ ?_ (fun z4 => ?_) (fun z4 => ?_) | with_reducible refine c_eq ?_ ?_ (fun z4 => ?_) (fun z4 => ?_) | with_reducible refine c_ne ?_ ?_ (fun z4 => ?_) (fun z4 => ?_)
                · omega
                · omega
                · refine zX3_countLines_100 (nx 1 ?_)
                  rw [if_pos (Or.inl (x3b.mp z4))]
                · have hb : ¬ b = false := fun y => z4 (x3b.mpr y)
                  refine sX3_isVoid (d := d + 1) lp hp lc hv ?_
                  first | with_reducible refine b_eq (fun z5 => ?_) (fun z5 => ?_) | with_reducible refine b_ne (fun z5 => ?_) (fun z5 => ?_)
                  · refine nx 0 ?_
                    rw [if_neg (fun y => y.elim hb z5)]
                  · refine zX3_countLines_100 (nx 1 ?_)
                    rw [if_pos (Or.inr z5)]
          refine s_inN ?_ (fun ea => ?_)
          · omega
          try simp only [ea]
          clear ea
          refine s_inN ?_ (fun ea => ?_)
          · omega
          try simp only [ea]
          clear ea
          rw [q 43 (by decide) (by decide) (by decide), q 44 (by decide) (by decide) (by decide), f1, y6]
          refine zX3_countLines_65 ?_
          rw [show (A : Int) + ((al t).length : Int) - 1 = ((A + szA al t : Nat) : Int) - 1 by unfold szA; omega]
          refine inner (szA al t) (Nat.le_refl _) G hG (by rw [← plS]; exact hv) x4 _ (by rw [← plS]; exact hx)
  refine main nt (Nat.le_refl _) g1 (Ch.rf g1) ?_ 0 none none none ?_
  · rw [← ML]
    refine ⟨by rw [e1, up_s], by omega, fun v hv => ?_⟩
    have := hk2 v hv
    rw [e1, up_q (by decide)]
    refine ⟨by omega, fun y => by omega, ?_⟩
    rw [exv_iff]
    rintro ⟨q, q1, q2, _⟩
    omega
  · rw [← ML]; omega
