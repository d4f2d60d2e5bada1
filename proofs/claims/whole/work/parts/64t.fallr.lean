/-! a fall foreseen: the reference -/
theorem ldiv_w {a b y : Int} : mx_ldiv (a * b) y = mx_ldiv (a * w64 b) y := by
  have e : w64 (a * b) = w64 (a * w64 b) := by rw [w64_bm, w64_bm, w64_bm, Int.mul_bmod_bmod]
  unfold mx_ldiv
  rw [← mx_o64 (a * b), e, mx_o64]
theorem sX12_fallsA {T : Nat × (Nat → Int32)} {d : Nat} {Q : mz_K} {X : mz_X} {g : mz_S} {c : mz_S} {nt m y : Nat} {al : Nat → List pA} {d' : Nat} (hd : d' = d + 8) (wlc : WfL0 c) (wb : WfB c) (ie : IE c) (tw : TxW c nt al) (rs : RS c nt g) (em : c 9 1 = (m : Int)) (hy : y < m) (hR : R32 (y : Int)) (hst : c 13 y = -1) (k : ∀ G v, Ch [130, 131, 132, 133, 168, 169, 170, 171, 172, 173, 174] [0, 50, 54] g G → G 99 0 = 0 → zb v = crB c m (dnF c m) y → (∀ x, x < m → G 169 x = faS c nt al m y x ∧ G 174 x = faB c nt al m y x ∧ G 171 x = faA c nt al m y x) → (w32 (G 99 16 + faN c nt al m y) ≤ w32 400 → zC T d' 315 [mx_R 99, mx_I (y : Int), mx_I v] G (fun _ g1 => Q (faT c nt al m y - faU c nt al m y) g1) X) ∧ (¬ (w32 (G 99 16 + faN c nt al m y) ≤ w32 400) → zC T d' 209 [mx_R 99, mx_I 2] G (fun r2 g2 => Q (w32 r2) g2) X)) : zC T (d' + 1) 314 [mx_R 99, mx_I (y : Int)] g Q X := by
  subst hd
  have hw := wb.1
  obtain ⟨bS, bM, bT, bH, bP, bB, bU⟩ := fa_bnd (nt := nt) (al := al) wlc wb ie em hy
  have bA := faA_bnd (nt := nt) (al := al) wlc wb ie em hy
  refine zX12_falls ?_
  intro g1 e1
  have c1 : Ch [130, 131, 132, 133, 168, 169, 170, 171, 172, 173, 174] [0, 50, 54] g g1 := by rw [e1]; exact (Ch.rf g).up9 (by decide)
  have rs1 := rs.fr c1 (by decide) (by decide)
  refine sX12_isBrokerC (d := d + 6) rs1.2.1 wb hR ?_
  first | with_reducible refine b_eq (fun q1 => ?_) (fun q1 => ?_) | with_reducible refine b_ne (fun q1 => ?_) (fun q1 => ?_)
  case' refine_2 => exact absurd ⟨by omega, by omega⟩ q1
  refine sX12_hasFallen (d := d + 7) wb rs1.2.1 ⟨by omega, by omega⟩ ?_
  rw [show ((y : Int)).toNat = y by omega]
  first | with_reducible refine b_eq (fun q2 => ?_) (fun q2 => ?_) | with_reducible refine b_ne (fun q2 => ?_) (fun q2 => ?_)
  case' refine_2 => exact absurd hst q2
  refine sX12_standingOnes (d := d + 6) (c := c) wb rs1.2.1 (fun n hn hn2 => ?_)
  have hs : StP (n : Int) (fun i => i < m ∧ dnF c m i = false) := fun i hi => by
    rw [zb_nat (by omega), hn2 i, decide_eq_true_iff, em]
    unfold dnF
    show _ ↔ (i < m ∧ decide (i < m ∧ ¬ c 13 i = -1) = false)
    rw [decide_eq_false_iff_not]
    constructor
    · rintro ⟨h1, h2⟩; exact ⟨by omega, fun z => z.2 h2⟩
    · rintro ⟨h1, h2⟩
      refine ⟨by omega, ?_⟩
      exact Classical.byContradiction (fun z => h2 ⟨h1, z⟩)
  refine sX12_creditors (d := d + 2) wlc wb ie.1 ie.2.1 rs1.1 rs1.2.1 rs1.2.2.1 em (by omega) hs (fun G2 v c2 h168 hv => ?_)
  have cG2 : Ch [130, 131, 132, 133, 168, 169, 170, 171, 172, 173, 174] [0, 50, 54] g G2 := c1.tr (c2.sub (by decide) (by decide))
  have rs2 := rs.fr cG2 (by decide) (by decide)
  have mem : ∀ i, zb v i = true ↔ i < m ∧ dnF c m i = false ∧ 0 < claimC c y i := by
    intro i
    by_cases hi : i < 32
    · rw [hv i hi]
      constructor
      · rintro ⟨h1, h2, h3, h4⟩; exact ⟨h1, h3.2, h4⟩
      · rintro ⟨h1, h2, h4⟩
        refine ⟨h1, fun e => ?_, ⟨h1, h2⟩, h4⟩
        rw [e, claim_self ie (by omega)] at h4
        omega
    · rw [zb_big (by omega)]
      exact ⟨fun q => absurd q (by decide), fun q => absurd q.1 (by omega)⟩
  have ev : zb v = crB c m (dnF c m) y := funext (fun i => Bool.eq_iff_iff.mpr ((mem i).trans crB_iff.symm))
  have v168 : ∀ i, zb v i = true → G2 168 i = claimC c y i := fun i hi => by
    have h := (mem i).mp hi
    refine (h168 i h.1).1 ⟨fun e => ?_, h.1, h.2.1⟩
    rw [e, claim_self ie (by omega)] at h
    omega
  refine sX12_parts (d := d + 1) (c := c) (nt := nt) (m := m) (al := al) wlc wb ie tw rs2 em hy (fun i hi => ⟨((mem i).mp hi).1, ((mem i).mp hi).2.2, v168 i hi⟩) (fun G3 c3 h169 => ?_)
  have cG3 : Ch [130, 131, 132, 133, 168, 169, 170, 171, 172, 173, 174] [0, 50, 54] g G3 := cG2.tr (c3.sub (by decide) (by decide))
  have s3 : ∀ x, x < m → G3 169 x = faS c nt al m y x := fun x hx => by
    rw [h169 x hx, ev]
    rfl
  have z0 : G3 99 0 = 0 := by rw [c3.2 0 (by decide), c2.2 0 (by decide), e1, up_s]
  -- what all know of a later state
  let I : mz_S → Prop := fun G => Ch [130, 131, 132, 133, 168, 169, 170, 171, 172, 173, 174] [0, 50, 54] g G ∧ G 99 0 = 0 ∧ ∀ x, x < m → G 169 x = faS c nt al m y x
  -- the end
  have four : ∀ b t : Nat, t + b = m → ∀ G x6 x8, (Ch [130, 131, 132, 133, 168, 169, 170, 171, 172, 173, 174] [0, 50, 54] g G) → G 99 0 = 0 → (∀ x, x < m → G 169 x = faS c nt al m y x ∧ G 174 x = faB c nt al m y x ∧ G 171 x = faA c nt al m y x) → aX12_falls T (d + 8) Q X 370 [some (mx_R 99), some (mx_I (y : Int)), some (mx_I v), some (mx_J (faT c nt al m y)), none, some (mx_I (sumN (fun x => if 0 < faS c nt al m y x then 1 else 0) m + sumN (fun x => if 0 < faA c nt al m y x then 1 else 0) t)), some (mx_J x6), none, some (mx_I x8), some (mx_J (faU c nt al m y)), none, some (mx_I (t : Int))] [] G (0, 0) := by
    intro b
    induction b with
    | zero =>
      intro t ht G x6 x8 cG h0 hG
      refine zX12_falls_370 ?_
      rw [cG.2 10 (by decide), rs.2.1.1, em]
      have : t = m := by omega
      subst this
      first | with_reducible refine c_lt ?_ ?_ (fun z => ?_) (fun z => ?_) | with_reducible refine c_le ?_ ?_ (fun z => ?_) (fun z => ?_) | with_reducible refine c_eq ?_ ?_ (fun z => ?_) (fun z => ?_) | with_reducible refine c_ne ?_ ?_ (fun z => ?_) (fun z => ?_)
      · omega
      · omega
      · have := k G v cG h0 ev hG
        rw [show faN c nt al t y = sumN (fun x => if 0 < faS c nt al t y x then 1 else 0) t + sumN (fun x => if 0 < faA c nt al t y x then 1 else 0) t from sumN_add] at this
        exact this
      · omega
    | succ b ih =>
      intro t ht G x6 x8 cG h0 hG
      have nx := ih (t + 1) (by omega) G x6 x8 cG h0 hG
      have et : sumN (fun x => if 0 < faA c nt al m y x then (1 : Int) else 0) (t + 1) = sumN (fun x => if 0 < faA c nt al m y x then 1 else 0) t + (if 0 < faA c nt al m y t then 1 else 0) := rfl
      rw [et, ← Int.add_assoc] at nx
      have a := bA t (by omega)
      refine zX12_falls_370 ?_
      rw [cG.2 10 (by decide), rs.2.1.1, em]
      first | with_reducible refine c_lt ?_ ?_ (fun z => ?_) (fun z => ?_) | with_reducible refine c_le ?_ ?_ (fun z => ?_) (fun z => ?_) | with_reducible refine c_eq ?_ ?_ (fun z => ?_) (fun z => ?_) | with_reducible refine c_ne ?_ ?_ (fun z => ?_) (fun z => ?_)
      · omega
      · omega
      · omega
      · refine s_inN ?_ (fun ea => ?_)
        · omega
        try simp only [ea]
        clear ea
        rw [(hG t (by omega)).2.2]
        first | with_reducible refine l_gt ?_ ?_ (fun q => ?_) (fun q => ?_) | with_reducible refine l_lt ?_ ?_ (fun q => ?_) (fun q => ?_) | with_reducible refine l_ge ?_ ?_ (fun q => ?_) (fun q => ?_) | with_reducible refine l_le ?_ ?_ (fun q => ?_) (fun q => ?_) | with_reducible refine l_eq ?_ ?_ (fun q => ?_) (fun q => ?_) | with_reducible refine l_ne ?_ ?_ (fun q => ?_) (fun q => ?_)
        · omega
        · omega
        · refine zX12_falls_398 ?_
          rw [if_neg (by omega)] at nx
          rw [show (t : Int) + 1 = ((t + 1 : Nat) : Int) by omega]
          exact nx
        · refine zX12_falls_398 ?_
          rw [if_pos (by omega)] at nx
          rw [show (t : Int) + 1 = ((t + 1 : Nat) : Int) by omega]
          exact nx
  -- what the kin bears
  have three : ∀ b t : Nat, t + b = m → ∀ G, Ch [130, 131, 132, 133, 168, 169, 170, 171, 172, 173, 174] [0, 50, 54] g G → G 99 0 = 0 → (∀ x, x < m → G 169 x = faS c nt al m y x ∧ G 170 x = faM c nt al m y x ∧ G 171 x = 0) → (∀ x, x < t → G 174 x = faB c nt al m y x) → aX12_falls T (d + 8) Q X 241 [some (mx_R 99), some (mx_I (y : Int)), some (mx_I v), some (mx_J (faT c nt al m y)), none, some (mx_I (sumN (fun x => if 0 < faS c nt al m y x then 1 else 0) m)), some (mx_J (faT c nt al m y * faP c nt al m y / 100)), none, some (mx_I (faH c m y)), some (mx_J (sumN (faB c nt al m y) t)), none, some (mx_I (t : Int))] [] G (0, 0) := by
    intro b
    induction b with
    | zero =>
      intro t ht G cG h0 hG hB
      refine zX12_falls_241 ?_
      rw [cG.2 10 (by decide), rs.2.1.1, em]
      have : t = m := by omega
      subst this
      first | with_reducible refine c_lt ?_ ?_ (fun z => ?_) (fun z => ?_) | with_reducible refine c_le ?_ ?_ (fun z => ?_) (fun z => ?_) | with_reducible refine c_eq ?_ ?_ (fun z => ?_) (fun z => ?_) | with_reducible refine c_ne ?_ ?_ (fun z => ?_) (fun z => ?_)
      · omega
      · omega
      · have eSG : sG (G 170) (zb v) t = sG (faM c nt al t y) (crB c t (dnF c t) y) t := by
          rw [ev]
          exact sG_cg (fun _ _ => rfl) (fun x hx _ => (hG x hx).2.1)
        refine sX12_split (d := d + 7) (m := t) (by rw [cG.2 10 (by decide), rs.2.1.1, em]) (by omega) (show 0 ≤ faU c nt al t y ∧ faU c nt al t y ≤ 400000000 by omega) (fun x hx _ => by rw [(hG x hx).2.1]; exact bM x hx) (fun G5 c5 h5 => ?_)
        have c6 : Ch [130, 131, 132, 133, 168, 169, 170, 171, 172, 173, 174] [0, 50, 54] g G5 := cG.tr (c5.sub (by decide) (fun f hf => by cases hf))
        have := four t 0 (by omega) G5 (faT c nt al t y * faP c nt al t y / 100) (faH c t y) c6 (by rw [c5.2 0 (by decide), h0]) (fun x hx => ⟨by rw [c5.1 169 (by decide) (by decide)]; exact (hG x hx).1, by rw [c5.1 174 (by decide) (by decide)]; exact hB x hx, ?_⟩)
        · rw [show sumN (fun x => if 0 < faA c nt al t y x then (1 : Int) else 0) 0 = 0 from rfl, Int.add_zero] at this
          exact this
        · unfold faA
          by_cases q : crB c t (dnF c t) y x = true
          · rw [(h5 x).1 ⟨hx, by rw [ev]; exact q⟩, eSG]
            by_cases q2 : 0 < sG (faM c nt al t y) (crB c t (dnF c t) y) t
            · rw [if_pos q2, if_pos ⟨q, q2⟩, ev]
              exact spF_cg (fun _ _ => rfl) (fun x hx _ => (hG x hx).2.1) x hx
            · rw [if_neg q2, if_neg (fun r => q2 r.2)]
          · rw [(h5 x).2 (fun r => q (by rw [← ev]; exact r.2)), if_neg (fun r => q r.1)]
            exact (hG x hx).2.2
      · omega
    | succ b ih =>
      intro t ht G cG h0 hG hB
      have et : sumN (faB c nt al m y) (t + 1) = sumN (faB c nt al m y) t + faB c nt al m y t := rfl
      have rsG := rs.fr cG (by decide) (by decide)
      refine zX12_falls_241 ?_
      rw [cG.2 10 (by decide), rs.2.1.1, em]
      first | with_reducible refine c_lt ?_ ?_ (fun z => ?_) (fun z => ?_) | with_reducible refine c_le ?_ ?_ (fun z => ?_) (fun z => ?_) | with_reducible refine c_eq ?_ ?_ (fun z => ?_) (fun z => ?_) | with_reducible refine c_ne ?_ ?_ (fun z => ?_) (fun z => ?_)
      · omega
      · omega
      · omega
      · refine s_inN ?_ (fun ea => ?_)
        · omega
        try simp only [ea]
        clear ea
        intro G2 e2
        have c2' : Ch [130, 131, 132, 133, 168, 169, 170, 171, 172, 173, 174] [0, 50, 54] g G2 := by rw [e2]; exact cG.up (by decide) (by decide)
        have rsG2 := rs.fr c2' (by decide) (by decide)
        have skip : faK c m y t = false → aX12_falls T (d + 8) Q X 346 [some (mx_R 99), some (mx_I (y : Int)), some (mx_I v), some (mx_J (faT c nt al m y)), none, some (mx_I (sumN (fun x => if 0 < faS c nt al m y x then 1 else 0) m)), some (mx_J (faT c nt al m y * faP c nt al m y / 100)), none, some (mx_I (faH c m y)), some (mx_J (sumN (faB c nt al m y) t)), none, some (mx_I (t : Int))] [] G2 (0, 0) := by
          intro q
          have b0 : faB c nt al m y t = 0 := by unfold faB; rw [if_neg (by rw [q]; decide)]
          refine zX12_falls_346 ?_
          rw [show (t : Int) + 1 = ((t + 1 : Nat) : Int) by omega]
          have := ih (t + 1) (by omega) G2 c2' (by rw [e2, up_q (by decide)]; exact h0) (fun x hx => by rw [e2, up_q (by decide), up_q (by decide), up_q (by decide)]; exact hG x hx) (fun x hx => ?_)
          · rw [et, b0, Int.add_zero] at this
            exact this
          · rw [e2]
            by_cases e : x = t
            · rw [e, up_s, b0]
            · rw [up_i e]; exact hB x (by omega)
        have rt := wb.2.1 t (by omega)
        have ry := wb.2.1 y (by omega)
        first | with_reducible refine c_lt ?_ ?_ (fun z2 => ?_) (fun z2 => ?_) | with_reducible refine c_le ?_ ?_ (fun z2 => ?_) (fun z2 => ?_) | with_reducible refine c_eq ?_ ?_ (fun z2 => ?_) (fun z2 => ?_) | with_reducible refine c_ne ?_ ?_ (fun z2 => ?_) (fun z2 => ?_)
        · omega
        · omega
        · exact skip (decide_eq_false (fun q => q.2.1 (by omega)))
        · refine sX12_hasFallen (d := d + 7) wb rsG2.2.1 ⟨by omega, by omega⟩ ?_
          rw [show ((t : Int)).toNat = t by omega]
          first | with_reducible refine b_eq (fun z3 => ?_) (fun z3 => ?_) | with_reducible refine b_ne (fun z3 => ?_) (fun z3 => ?_)
          · exact skip (decide_eq_false (fun q => z3 q.2.2.2))
          · refine s_inN ?_ (fun ea => ?_)
            · omega
            try simp only [ea]
            clear ea
            refine s_inN ?_ (fun ea => ?_)
            · omega
            try simp only [ea]
            clear ea
            rw [(rsG2.2.1.2.1 t (by omega)).2.1, (rsG2.2.1.2.1 y (by omega)).2.1]
            first | with_reducible refine c_lt ?_ ?_ (fun z4 => ?_) (fun z4 => ?_) | with_reducible refine c_le ?_ ?_ (fun z4 => ?_) (fun z4 => ?_) | with_reducible refine c_eq ?_ ?_ (fun z4 => ?_) (fun z4 => ?_) | with_reducible refine c_ne ?_ ?_ (fun z4 => ?_) (fun z4 => ?_)
            · omega
            · omega
            · have kt : faK c m y t = true := decide_eq_true ⟨by omega, by omega, by omega, Decidable.not_not.mp z3⟩
              have hH : 0 < faH c m y := by
                refine Int.not_le.mp (fun z => ?_)
                rw [faK_0 z (show t < m by omega)] at kt
                exact absurd kt (by decide)
              have wH : w32 (faH c m y) = faH c m y := w32_of (by omega) (by omega)
              have o := wb.2.2 (t * 4) (by omega)
              have s := bS t (by omega)
              have bb := bB t (by omega)
              have e110 : w32 (G2 110 (t * 4)) = c 14 (t * 4) := by rw [rsG2.2.1.2.2 (t * 4) (by omega)]; exact w32_of (by omega) (by omega)
              have e169 : G2 169 t = faS c nt al m y t := by rw [e2, up_q (by decide)]; exact (hG t (by omega)).1
              have tp0 : 0 ≤ faT c nt al m y * faP c nt al m y := Int.mul_nonneg bT.1 bP.1
              have tp1 : faT c nt al m y * faP c nt al m y ≤ 240000000000 * 100 := Int.mul_le_mul bT.2 bP.2 bP.1 (by omega)
              have q0 : 0 ≤ faT c nt al m y * faP c nt al m y / 100 := Int.ediv_nonneg tp0 (by omega)
              have q1 : faT c nt al m y * faP c nt al m y / 100 ≤ 240000000000 * 100 := Int.le_trans (Int.ediv_le_self _ tp0) tp1
              have d2 : mx_ldiv (faT c nt al m y * faP c nt al m y / 100) (faH c m y) = faE c nt al m y := by
                rw [ldiv_of (by omega) (by omega) (by omega), Int.tdiv_eq_ediv_of_nonneg q0]
                rfl
              have e0 : 0 ≤ faE c nt al m y := Int.ediv_nonneg q0 bH.1
              have e1 : faE c nt al m y ≤ 240000000000 * 100 := Int.le_trans (Int.ediv_le_self _ q0) q1
              refine ⟨by rw [wH, w64_of (by omega) (by omega)]; omega, ?_⟩
              rw [wH, d2]
              refine s_inE (t * 4) (by omega) (by omega) (fun ea => ?_)
              simp only [ea]
              refine s_inN ?_ (fun ea => ?_)
              · omega
              try simp only [ea]
              clear ea
              rw [e110, e169]
              refine sJ9_minL (by omega) (by omega) (sJ9_minL (by omega) (by omega) ?_)
              have eb : min (faE c nt al m y) (min 10000000 (c 14 (t * 4) + faS c nt al m y t)) = faB c nt al m y t := by unfold faB; rw [if_pos kt]
              rw [eb]
              refine s_inN ?_ (fun ea => ?_)
              · omega
              try simp only [ea]
              clear ea
              intro G6 e6
              refine s_inN ?_ (fun ea => ?_)
              · omega
              try simp only [ea]
              clear ea
              refine zX12_falls_346 ?_
              have wB : w32 (G6 174 t) = faB c nt al m y t := by rw [e6, up_s]; exact w32_of (by omega) (by omega)
              rw [wB, ← et, show (t : Int) + 1 = ((t + 1 : Nat) : Int) by omega]
              refine ih (t + 1) (by omega) G6 (by rw [e6]; exact c2'.up (by decide) (by decide)) (by rw [e6, up_q (by decide), e2, up_q (by decide)]; exact h0) (fun x hx => by rw [e6, e2]; simp only [up_q (show (169 : Nat) ≠ 174 by decide), up_q (show (170 : Nat) ≠ 174 by decide), up_q (show (171 : Nat) ≠ 174 by decide)]; exact hG x hx) (fun x hx => ?_)
              rw [e6]
              by_cases e : x = t
              · rw [e, up_s]
              · rw [up_i e, e2, up_i e]; exact hB x (by omega)
            · exact skip (decide_eq_false (fun q => z4 (by omega)))
  -- the heads
  have two : ∀ b t : Nat, t + b = m → ∀ G, Ch [130, 131, 132, 133, 168, 169, 170, 171, 172, 173, 174] [0, 50, 54] g G → G 99 0 = 0 → (∀ x, x < m → G 169 x = faS c nt al m y x ∧ G 170 x = faM c nt al m y x ∧ G 171 x = 0) → aX12_falls T (d + 8) Q X 179 [some (mx_R 99), some (mx_I (y : Int)), some (mx_I v), some (mx_J (faT c nt al m y)), none, some (mx_I (sumN (fun x => if 0 < faS c nt al m y x then 1 else 0) m)), some (mx_J (faT c nt al m y * faP c nt al m y / 100)), none, some (mx_I (cnW (faK c m y) t)), some (mx_I (t : Int)), none, none] [] G (0, 0) := by
    intro b
    induction b with
    | zero =>
      intro t ht G cG h0 hG
      refine zX12_falls_179 ?_
      rw [cG.2 10 (by decide), rs.2.1.1, em]
      have : t = m := by omega
      subst this
      first | with_reducible refine c_lt ?_ ?_ (fun z => ?_) (fun z => ?_) | with_reducible refine c_le ?_ ?_ (fun z => ?_) (fun z => ?_) | with_reducible refine c_eq ?_ ?_ (fun z => ?_) (fun z => ?_) | with_reducible refine c_ne ?_ ?_ (fun z => ?_) (fun z => ?_)
      · omega
      · omega
      · exact three t 0 (by omega) G cG h0 hG (fun x hx => absurd hx (Nat.not_lt_zero x))
      · omega
    | succ b ih =>
      intro t ht G cG h0 hG
      have nx := ih (t + 1) (by omega) G cG h0 hG
      have et : cnW (faK c m y) (t + 1) = cnW (faK c m y) t + (if faK c m y t = true then 1 else 0) := rfl
      rw [et] at nx
      have rsG := rs.fr cG (by decide) (by decide)
      have skip : faK c m y t = false → aX12_falls T (d + 8) Q X 225 [some (mx_R 99), some (mx_I (y : Int)), some (mx_I v), some (mx_J (faT c nt al m y)), none, some (mx_I (sumN (fun x => if 0 < faS c nt al m y x then 1 else 0) m)), some (mx_J (faT c nt al m y * faP c nt al m y / 100)), none, some (mx_I (cnW (faK c m y) t)), some (mx_I (t : Int)), none, none] [mx_I (cnW (faK c m y) t)] G (0, 0) := by
        intro q
        refine zX12_falls_225 (zX12_falls_226 ?_)
        rw [if_neg (by rw [q]; decide)] at nx
        rw [show (t : Int) + 1 = ((t + 1 : Nat) : Int) by omega]
        exact nx
      have rt := wb.2.1 t (by omega)
      have ry := wb.2.1 y (by omega)
      refine zX12_falls_179 ?_
      rw [cG.2 10 (by decide), rs.2.1.1, em]
      first | with_reducible refine c_lt ?_ ?_ (fun z => ?_) (fun z => ?_) | with_reducible refine c_le ?_ ?_ (fun z => ?_) (fun z => ?_) | with_reducible refine c_eq ?_ ?_ (fun z => ?_) (fun z => ?_) | with_reducible refine c_ne ?_ ?_ (fun z => ?_) (fun z => ?_)
      · omega
      · omega
      · omega
      · first | with_reducible refine c_lt ?_ ?_ (fun z2 => ?_) (fun z2 => ?_) | with_reducible refine c_le ?_ ?_ (fun z2 => ?_) (fun z2 => ?_) | with_reducible refine c_eq ?_ ?_ (fun z2 => ?_) (fun z2 => ?_) | with_reducible refine c_ne ?_ ?_ (fun z2 => ?_) (fun z2 => ?_)
        · omega
        · omega
        · exact skip (decide_eq_false (fun q => q.2.1 (by omega)))
        · refine sX12_hasFallen (d := d + 7) wb rsG.2.1 ⟨by omega, by omega⟩ ?_
          rw [show ((t : Int)).toNat = t by omega]
          first | with_reducible refine b_eq (fun z3 => ?_) (fun z3 => ?_) | with_reducible refine b_ne (fun z3 => ?_) (fun z3 => ?_)
          · exact skip (decide_eq_false (fun q => z3 q.2.2.2))
          · refine s_inN ?_ (fun ea => ?_)
            · omega
            try simp only [ea]
            clear ea
            refine s_inN ?_ (fun ea => ?_)
            · omega
            try simp only [ea]
            clear ea
            rw [(rsG.2.1.2.1 t (by omega)).2.1, (rsG.2.1.2.1 y (by omega)).2.1]
            first | with_reducible refine c_lt ?_ ?_ (fun z4 => ?_) (fun z4 => ?_) | with_reducible refine c_le ?_ ?_ (fun z4 => ?_) (fun z4 => ?_) | with_reducible refine c_eq ?_ ?_ (fun z4 => ?_) (fun z4 => ?_) | with_reducible refine c_ne ?_ ?_ (fun z4 => ?_) (fun z4 => ?_)
            · omega
            · omega
            · exact skip (decide_eq_false (fun q => z4 (by omega)))
            · refine zX12_falls_226 ?_
              have kt : faK c m y t = true := decide_eq_true ⟨by omega, by omega, by omega, Decidable.not_not.mp z3⟩
              rw [if_pos kt] at nx
              rw [show (t : Int) + 1 = ((t + 1 : Nat) : Int) by omega]
              exact nx
  -- what is missing
  have one : ∀ b t : Nat, t + b = m → ∀ G, Ch [130, 131, 132, 133, 168, 169, 170, 171, 172, 173, 174] [0, 50, 54] g G → G 99 0 = 0 → G 168 = G2 168 → (∀ x, x < m → G 169 x = faS c nt al m y x) → (∀ x, x < t → G 170 x = faM c nt al m y x ∧ G 171 x = 0) → aX12_falls T (d + 8) Q X 59 [some (mx_R 99), some (mx_I (y : Int)), some (mx_I v), some (mx_J (sumN (faM c nt al m y) t)), none, some (mx_I (sumN (fun x => if 0 < faS c nt al m y x then 1 else 0) t)), some (mx_I (t : Int)), none, none, none, none, none] [] G (0, 0) := by
    intro b
    induction b with
    | zero =>
      intro t ht G cG h0 e168 hS hM
      refine zX12_falls_59 ?_
      rw [cG.2 10 (by decide), rs.2.1.1, em]
      have : t = m := by omega
      subst this
      first | with_reducible refine c_lt ?_ ?_ (fun z => ?_) (fun z => ?_) | with_reducible refine c_le ?_ ?_ (fun z => ?_) (fun z => ?_) | with_reducible refine c_eq ?_ ?_ (fun z => ?_) (fun z => ?_) | with_reducible refine c_ne ?_ ?_ (fun z => ?_) (fun z => ?_)
      · omega
      · omega
      · have rsG := rs.fr cG (by decide) (by decide)
        refine sX12_asksG (d := d + 3) (c := c) (nt := nt) (al := al) wlc rsG.1 wb rsG.2.1 tw rsG.2.2.2.1 rsG.2.2.2.2 (by omega) (by omega) (fun G5 c5 h133 => ?_)
        refine ⟨zin (by omega) (by omega) (by omega), by decide, ?_⟩
        rw [show mx_at 6 = 6 by decide, h133 6 (by decide), ldiv_w]
        have tp0 : 0 ≤ faT c nt al t y * faP c nt al t y := Int.mul_nonneg bT.1 bP.1
        have tp1 : faT c nt al t y * faP c nt al t y ≤ 240000000000 * 100 := Int.mul_le_mul bT.2 bP.2 bP.1 (by omega)
        have d1 : mx_ldiv (faT c nt al t y * faP c nt al t y) 100 = faT c nt al t y * faP c nt al t y / 100 := by
          rw [ldiv_of (by omega) (by omega) (by omega), Int.tdiv_eq_ediv_of_nonneg tp0]
        have c6 : Ch [130, 131, 132, 133, 168, 169, 170, 171, 172, 173, 174] [0, 50, 54] g G5 := cG.tr (c5.sub (by decide) (by decide))
        have := two t 0 (by omega) G5 c6 (by rw [c5.2 0 (by decide), h0]) (fun x hx => by rw [c5.1 169 (by decide) (by decide), c5.1 170 (by decide) (by decide), c5.1 171 (by decide) (by decide)]; exact ⟨hS x hx, hM x hx⟩)
        rw [← d1] at this
        exact this
      · omega
    | succ b ih =>
      intro t ht G cG h0 e168 hS hM
      have em' : sumN (faM c nt al m y) (t + 1) = sumN (faM c nt al m y) t + faM c nt al m y t := rfl
      have es' : sumN (fun x => if 0 < faS c nt al m y x then (1 : Int) else 0) (t + 1) = sumN (fun x => if 0 < faS c nt al m y x then 1 else 0) t + (if 0 < faS c nt al m y t then 1 else 0) := rfl
      have s := bS t (by omega)
      have put : ∀ w, w = faM c nt al m y t → aX12_falls T (d + 8) Q X 103 [some (mx_R 99), some (mx_I (y : Int)), some (mx_I v), some (mx_J (sumN (faM c nt al m y) t)), none, some (mx_I (sumN (fun x => if 0 < faS c nt al m y x then 1 else 0) t)), some (mx_I (t : Int)), none, none, none, none, none] [mx_J w, mx_I (t : Int), mx_R 170] G (0, 0) := by
        intro w hw'
        refine zX12_falls_103 ?_
        refine s_inN ?_ (fun ea => ?_)
        · omega
        try simp only [ea]
        clear ea
        intro G5 e5
        refine s_inN ?_ (fun ea => ?_)
        · omega
        try simp only [ea]
        clear ea
        refine s_inN ?_ (fun ea => ?_)
        · omega
        try simp only [ea]
        clear ea
        intro G6 e6
        have nx := ih (t + 1) (by omega) G6 (by rw [e6, e5]; exact (cG.up (by decide) (by decide)).up (by decide) (by decide)) (by rw [e6, up_q (by decide), e5, up_q (by decide)]; exact h0) (by rw [← e168, e6, e5]; funext p; rw [up_q (by decide), up_q (by decide)]) (fun x hx => by rw [e6, up_q (by decide), e5, up_q (by decide)]; exact hS x hx) (fun x hx => ?_)
        · rw [em', es', ← hw'] at nx
          refine s_inN ?_ (fun ea => ?_)
          · omega
          try simp only [ea]
          clear ea
          rw [show G6 169 t = faS c nt al m y t by rw [e6, up_q (by decide), e5, up_q (by decide)]; exact hS t (by omega), show G5 170 t = w by rw [e5, up_s]]
          first | with_reducible refine l_gt ?_ ?_ (fun q => ?_) (fun q => ?_) | with_reducible refine l_lt ?_ ?_ (fun q => ?_) (fun q => ?_) | with_reducible refine l_ge ?_ ?_ (fun q => ?_) (fun q => ?_) | with_reducible refine l_le ?_ ?_ (fun q => ?_) (fun q => ?_) | with_reducible refine l_eq ?_ ?_ (fun q => ?_) (fun q => ?_) | with_reducible refine l_ne ?_ ?_ (fun q => ?_) (fun q => ?_)
          · omega
          · omega
          · refine zX12_falls_141 ?_
            rw [if_neg (by omega)] at nx
            rw [show (t : Int) + 1 = ((t + 1 : Nat) : Int) by omega]
            exact nx
          · refine zX12_falls_141 ?_
            rw [if_pos (by omega)] at nx
            rw [show (t : Int) + 1 = ((t + 1 : Nat) : Int) by omega]
            exact nx
        · rw [e6, up_q (show (170 : Nat) ≠ 171 by decide), e5]
          by_cases e : x = t
          · rw [e, up_s, up_s]; exact ⟨hw', rfl⟩
          · rw [up_i e, up_i e, up_q (show (171 : Nat) ≠ 170 by decide)]; exact hM x (by omega)
      refine zX12_falls_59 ?_
      rw [cG.2 10 (by decide), rs.2.1.1, em]
      first | with_reducible refine c_lt ?_ ?_ (fun z => ?_) (fun z => ?_) | with_reducible refine c_le ?_ ?_ (fun z => ?_) (fun z => ?_) | with_reducible refine c_eq ?_ ?_ (fun z => ?_) (fun z => ?_) | with_reducible refine c_ne ?_ ?_ (fun z => ?_) (fun z => ?_)
      · omega
      · omega
      · omega
      · rw [zb_holds (by omega), ev]
        refine zt1 (fun hz => ?_) (fun hz => ?_)
        · exact put 0 (by unfold faM; rw [if_neg (by rw [hz]; decide)])
        · refine s_inN ?_ (fun ea => ?_)
          · omega
          try simp only [ea]
          clear ea
          refine s_inN ?_ (fun ea => ?_)
          · omega
          try simp only [ea]
          clear ea
          refine put _ ?_
          rw [e168, v168 t (by rw [ev]; exact hz), hS t (by omega)]
          unfold faM
          rw [if_pos hz]
  have := one m 0 (by omega) G3 cG3 z0 (c3.1 168 (by decide) (by decide)) s3 (fun x hx => absurd hx (Nat.not_lt_zero x))
  exact this
