/-! a fall comes to be: the reference -/
abbrev fnS : List Nat := [109, 110, 111, 112, 113, 114, 115, 116, 117, 118, 140]
theorem sX12_comesTo {T : Nat × (Nat → Int32)} {d : Nat} {Q : mz_K} {X : mz_X} {g : mz_S} {b : mz_S} {y x : Nat} {E : Nat → mvE} {k0 : Nat} {p s o t : Int} (hy : y < 12) (hx : x < 12) (hp : 0 ≤ p ∧ p ≤ 1000000000) (ho : w32 (g 110 (x * 4)) = o) (hr : 0 ≤ o ∧ o ≤ 10000000) (ht : g 106 y = t) (hE : 0 < p → E k0 = (y, x, -p, s, t)) (hroom : 0 ≤ b 99 16 ∧ (0 < p → b 99 16 + ((k0 : Nat) : Int) < 400)) (mG : mvQ b 0 E k0 g) (k : ∀ g', Ch [110, 111, 112, 113, 114, 115, 116, 117, 118] [16] g g' → mvQ b 0 E (k0 + (if 0 < p then 1 else 0)) g' → w32 (g' 110 (x * 4)) = (if 0 < p then min 10000000 (o + p) else o) → (∀ i, i ≠ x * 4 → g' 110 i = g 110 i) → Q 0 g') : zC T (d + 3) 316 [mx_R 99, mx_I (y : Int), mx_I (x : Int), mx_J p, mx_I s] g Q X := by
  refine zX12_comesTo ?_
  first | with_reducible refine l_gt ?_ ?_ (fun q => ?_) (fun q => ?_) | with_reducible refine l_lt ?_ ?_ (fun q => ?_) (fun q => ?_) | with_reducible refine l_ge ?_ ?_ (fun q => ?_) (fun q => ?_) | with_reducible refine l_le ?_ ?_ (fun q => ?_) (fun q => ?_) | with_reducible refine l_eq ?_ ?_ (fun q => ?_) (fun q => ?_) | with_reducible refine l_ne ?_ ?_ (fun q => ?_) (fun q => ?_)
  · omega
  · omega
  · refine sX12_gets (d := d) (o := o) (n' := p) (by omega) (by omega) (by rw [show ((x : Int) * 4 + 0).toNat = x * 4 by omega]; exact ho) hr rfl (by omega) (fun v hv => ?_)
    rw [show ((x : Int) * 4 + 0).toNat = x * 4 by omega]
    obtain ⟨G2, e2⟩ : ∃ G2, G2 = mx_up g 110 (x * 4) v := ⟨_, rfl⟩
    rw [← e2]
    have c2 : Ch [110] [] g G2 := by rw [e2]; exact (Ch.rf g).up (by decide) (by decide)
    have m2 := mG.fr c2 (by decide) (by decide)
    refine s_inN ?_ (fun ea => ?_)
    · omega
    try simp only [ea]
    clear ea
    rw [c2.1 106 (by decide) (by decide), ht]
    have e16 : G2 99 16 = b 99 16 + (k0 : Int) := by rw [m2.2.1, mvV_16]
    have hr2 := hroom.2 (by omega)
    refine sX12_enter (d := d + 1) (by omega) ?_
    have c3 := entE_ch G2 0 (E k0)
    have m3 := m2.step
    have eR : entS G2 t (y : Int) (x : Int) 0 (-p) s = entE G2 0 (E k0) := by rw [hE (by omega)]; rfl
    rw [eR]
    refine k _ ((c2.sub (by decide) (fun f hf => by cases hf)).tr (c3.sub (by decide) (fun f hf => hf))) ?_ ?_ (fun i hi => ?_)
    · rw [if_pos (by omega)]; exact m3
    · rw [c3.1 110 (by decide) (by decide), e2, up_s, if_pos (by omega)]; exact hv
    · rw [c3.1 110 (by decide) (by decide), e2, up_i hi]
  · refine k g (Ch.rf g) ?_ ?_ (fun _ _ => rfl)
    · rw [if_neg (by omega)]; exact mG
    · rw [if_neg (by omega)]; exact ho
theorem sX12_fallen {T : Nat × (Nat → Int32)} {d : Nat} {Q : mz_K} {X : mz_X} {g : mz_S} {c b : mz_S} {nt m y : Nat} {al : Nat → List pA} {v : Int} {E : Nat → mvE} (wlc : WfL0 c) (wb : WfB c) (ie : IE c) (ww : WfW c) (rl : ReL c g) (rb : ReB c g) (rw' : ReW c g) (em : c 9 1 = (m : Int)) (hy : y < m) (hv : zb v = crB c m (dnF c m) y) (hS : ∀ x, x < m → g 169 x = faS c nt al m y x ∧ g 174 x = faB c nt al m y x ∧ g 171 x = faA c nt al m y x) (hE4 : ∀ x, x < m → 0 < faS c nt al m y x → E (cntP (faS c nt al m y) x) = (y, x, -(faS c nt al m y x), 4, c 10 y)) (hE5 : ∀ x, x < m → 0 < faA c nt al m y x → E (cntP (faS c nt al m y) m + cntP (faA c nt al m y) x) = (y, x, -(faA c nt al m y x), 5, c 10 y)) (hroom : 0 ≤ b 99 16 ∧ b 99 16 + ((cntP (faS c nt al m y) m + cntP (faA c nt al m y) m : Nat) : Int) ≤ 400) (mG : mvQ b 0 E 0 g) (k : ∀ g', Ch fnS [16] g g' → mvQ b 0 E (cntP (faS c nt al m y) m + cntP (faA c nt al m y) m) g' → (∀ x, g' 109 x = if x = y then c 1 0 else g 109 x) → (∀ x, x < m → w32 (g' 110 (x * 4)) = fd3 c nt al m y x) → (∀ i, ¬ (i % 4 = 0 ∧ i / 4 < m) → g' 110 i = if y * 4 ≤ i ∧ i < y * 4 + 4 then 0 else g 110 i) → (∀ i : Nat, (i : Int) < c 48 4 → g' 140 i = if c 49 i = (y : Int) then stV c i y (c 1 0) else c 55 i) → Q 0 g') : zC T (d + 5) 315 [mx_R 99, mx_I (y : Int), mx_I v] g Q X := by
  have hw := wb.1
  have hww := ww.1
  obtain ⟨bS, bM, bT, bH, bP, bB, bU⟩ := fa_bnd (nt := nt) (al := al) wlc wb ie em hy
  have bA := faA_bnd (nt := nt) (al := al) wlc wb ie em hy
  have bF := fd_bnd (nt := nt) (al := al) wlc wb ie em hy
  have lS := faS_le (nt := nt) (m := m) (al := al) wlc wb (show y < 12 by omega)
  have S0 : ∀ x, zb v x = false → faS c nt al m y x = 0 := fun x hx => shF_out 12 (by rw [← hv]; exact hx)
  have A0 : ∀ x, zb v x = false → faA c nt al m y x = 0 := fun x hx => by
    unfold faA
    rw [if_neg (fun r => by rw [← hv, hx] at r; exact absurd r.1 (by decide))]
  obtain ⟨N, eN⟩ := Int.eq_ofNat_of_zero_le hww.1
  have e106 : ∀ j, j < 12 → g 106 j = c 10 j := fun j hj => (rb.2.1 j hj).1
  refine zX12_fallen ?_
  refine s_inN ?_ (fun ea => ?_)
  · omega
  try simp only [ea]
  clear ea
  rw [e106 y (by omega)]
  -- helps
  have five : ∀ n t : Nat, t + n = m → ∀ G x3, Ch fnS [16] g G → mvQ b 0 E (cntP (faS c nt al m y) m + cntP (faA c nt al m y) t) G → (∀ x, G 109 x = if x = y then c 1 0 else g 109 x) → (∀ x, x < t → w32 (G 110 (x * 4)) = fd3 c nt al m y x) → (∀ x, t ≤ x → x < m → w32 (G 110 (x * 4)) = fd2 c nt al m y x) → (∀ i, ¬ (i % 4 = 0 ∧ i / 4 < m) → G 110 i = if y * 4 ≤ i ∧ i < y * 4 + 4 then 0 else g 110 i) → (∀ i : Nat, (i : Int) < c 48 4 → G 140 i = if c 49 i = (y : Int) then stV c i y (c 1 0) else c 55 i) → aX12_fallen T (d + 4) Q X 172 [some (mx_R 99), some (mx_I (y : Int)), some (mx_I v), some (mx_I x3), some (mx_I (t : Int))] [] G (0, 0) := by
    intro n
    induction n with
    | zero =>
      intro t ht G x3 cG mG h109 h1 h2 h3 h140
      refine zX12_fallen_172 ?_
      rw [cG.2 10 (by decide), rb.1, em]
      have : t = m := by omega
      subst this
      first | with_reducible refine c_lt ?_ ?_ (fun z => ?_) (fun z => ?_) | with_reducible refine c_le ?_ ?_ (fun z => ?_) (fun z => ?_) | with_reducible refine c_eq ?_ ?_ (fun z => ?_) (fun z => ?_) | with_reducible refine c_ne ?_ ?_ (fun z => ?_) (fun z => ?_)
      · omega
      · omega
      · exact k G cG mG h109 h1 h3 h140
      · omega
    | succ n ih =>
      intro t ht G x3 cG mG h109 h1 h2 h3 h140
      have et : cntP (faA c nt al m y) (t + 1) = cntP (faA c nt al m y) t + (if 0 < faA c nt al m y t then 1 else 0) := rfl
      have lt := cntP_mono (p := faA c nt al m y) (show t + 1 ≤ m by omega)
      have f2 := bF t (by omega)
      have a := bA t (by omega)
      refine zX12_fallen_172 ?_
      rw [cG.2 10 (by decide), rb.1, em]
      first | with_reducible refine c_lt ?_ ?_ (fun z => ?_) (fun z => ?_) | with_reducible refine c_le ?_ ?_ (fun z => ?_) (fun z => ?_) | with_reducible refine c_eq ?_ ?_ (fun z => ?_) (fun z => ?_) | with_reducible refine c_ne ?_ ?_ (fun z => ?_) (fun z => ?_)
      · omega
      · omega
      · omega
      · rw [zb_holds (by omega)]
        refine zt1 (fun hz => ?_) (fun hz => ?_)
        · have a0 := A0 t hz
          refine zX12_fallen_206 ?_
          rw [show (t : Int) + 1 = ((t + 1 : Nat) : Int) by omega]
          refine ih (t + 1) (by omega) G x3 cG (by rw [et, if_neg (by omega)]; exact mG) h109 (fun x hx => ?_) (fun x hx hx2 => h2 x (by omega) hx2) h3 h140
          by_cases e : x = t
          · rw [e, h2 t (Nat.le_refl _) (by omega)]
            unfold fd3
            rw [if_neg (by omega)]
          · exact h1 x (by omega)
        · refine s_inN ?_ (fun ea => ?_)
          · omega
          try simp only [ea]
          clear ea
          rw [cG.1 171 (by decide) (by decide), (hS t (by omega)).2.2]
          refine sX12_comesTo (d := d + 1) (b := b) (E := E) (k0 := cntP (faS c nt al m y) m + cntP (faA c nt al m y) t) (o := fd2 c nt al m y t) (t := c 10 y) (by omega) (by omega) (by omega) (h2 t (Nat.le_refl _) (by omega)) f2.2.2.2.1 (by rw [cG.1 106 (by decide) (by decide)]; exact e106 y (by omega)) (fun hp => hE5 t (by omega) hp) ⟨hroom.1, fun hp => by rw [et, if_pos hp] at lt; omega⟩ mG (fun G2 c2 m2 v2 o2 => ?_)
          refine zX12_fallen_206 ?_
          rw [show (t : Int) + 1 = ((t + 1 : Nat) : Int) by omega]
          refine ih (t + 1) (by omega) G2 x3 (cG.tr (c2.sub (by decide) (fun f hf => hf))) (by rw [et, ← Nat.add_assoc]; exact m2) (fun x => by rw [c2.1 109 (by decide) (by decide)]; exact h109 x) (fun x hx => ?_) (fun x hx hx2 => by rw [o2 _ (by omega)]; exact h2 x (by omega) hx2) (fun i hi => by rw [o2 _ (by omega)]; exact h3 i hi) (fun i hi => by rw [c2.1 140 (by decide) (by decide)]; exact h140 i hi)
          by_cases e : x = t
          · rw [e, v2]; rfl
          · rw [o2 _ (by omega)]; exact h1 x (by omega)
  -- what the kin bears
  have four : ∀ n t : Nat, t + n = m → ∀ G x3, Ch fnS [16] g G → mvQ b 0 E (cntP (faS c nt al m y) m) G → (∀ x, G 109 x = if x = y then c 1 0 else g 109 x) → (∀ x, x < t → w32 (G 110 (x * 4)) = fd2 c nt al m y x) → (∀ x, t ≤ x → x < m → w32 (G 110 (x * 4)) = fd1 c nt al m y x) → (∀ i, ¬ (i % 4 = 0 ∧ i / 4 < m) → G 110 i = if y * 4 ≤ i ∧ i < y * 4 + 4 then 0 else g 110 i) → (∀ i : Nat, (i : Int) < c 48 4 → G 140 i = if c 49 i = (y : Int) then stV c i y (c 1 0) else c 55 i) → aX12_fallen T (d + 4) Q X 135 [some (mx_R 99), some (mx_I (y : Int)), some (mx_I v), some (mx_I x3), some (mx_I (t : Int))] [] G (0, 0) := by
    intro n
    induction n with
    | zero =>
      intro t ht G x3 cG mG h109 h1 h2 h3 h140
      refine zX12_fallen_135 ?_
      rw [cG.2 10 (by decide), rb.1, em]
      have : t = m := by omega
      subst this
      first | with_reducible refine c_lt ?_ ?_ (fun z => ?_) (fun z => ?_) | with_reducible refine c_le ?_ ?_ (fun z => ?_) (fun z => ?_) | with_reducible refine c_eq ?_ ?_ (fun z => ?_) (fun z => ?_) | with_reducible refine c_ne ?_ ?_ (fun z => ?_) (fun z => ?_)
      · omega
      · omega
      · rw [show (0 : Int) = ((0 : Nat) : Int) from rfl]
        exact five t 0 (by omega) G x3 cG mG h109 (fun x hx => absurd hx (Nat.not_lt_zero x)) (fun x _ hx => h1 x hx) h3 h140
      · omega
    | succ n ih =>
      intro t ht G x3 cG mG h109 h1 h2 h3 h140
      have f := bF t (by omega)
      have bb := bB t (by omega)
      refine zX12_fallen_135 ?_
      rw [cG.2 10 (by decide), rb.1, em]
      first | with_reducible refine c_lt ?_ ?_ (fun z => ?_) (fun z => ?_) | with_reducible refine c_le ?_ ?_ (fun z => ?_) (fun z => ?_) | with_reducible refine c_eq ?_ ?_ (fun z => ?_) (fun z => ?_) | with_reducible refine c_ne ?_ ?_ (fun z => ?_) (fun z => ?_)
      · omega
      · omega
      · omega
      · refine s_inE (t * 4) (by omega) (by omega) (fun ea => ?_)
        simp only [ea]
        refine s_inN ?_ (fun ea => ?_)
        · omega
        try simp only [ea]
        clear ea
        refine s_inE (t * 4) (by omega) (by omega) (fun ea => ?_)
        intro G2 e2
        rw [cG.1 174 (by decide) (by decide), (hS t (by omega)).2.1] at e2
        rw [show (t : Int) + 1 = ((t + 1 : Nat) : Int) by omega]
        have c2 : Ch [110] [] G G2 := by rw [e2]; exact (Ch.rf G).up (by decide) (by decide)
        refine ih (t + 1) (by omega) G2 x3 (cG.tr (c2.sub (by decide) (fun f hf => by cases hf))) (mG.fr c2 (by decide) (by decide)) (fun x => by rw [c2.1 109 (by decide) (by decide)]; exact h109 x) (fun x hx => ?_) (fun x hx hx2 => by rw [e2, up_i (by omega)]; exact h2 x (by omega) hx2) (fun i hi => by rw [e2, up_i (by omega)]; exact h3 i hi) (fun i hi => by rw [c2.1 140 (by decide) (by decide)]; exact h140 i hi)
        by_cases e : x = t
        · rw [e, e2, up_s]
          have h := h2 t (Nat.le_refl _) (by omega)
          have e3 : w32 (G 110 (t * 4) - faB c nt al m y t) = w32 (fd1 c nt al m y t - faB c nt al m y t) := w32_sub (by rw [h, w32_of (by omega) (by omega)])
          rw [e3, w32_of (by omega) (by omega)]
          unfold fd2
          omega
        · rw [e2, up_i (by omega)]; exact h1 x (by omega)
  -- shares
  have three : ∀ n t : Nat, t + n = m → ∀ G x3, Ch fnS [16] g G → mvQ b 0 E (cntP (faS c nt al m y) t) G → (∀ x, G 109 x = if x = y then c 1 0 else g 109 x) → (∀ x, x < t → w32 (G 110 (x * 4)) = fd1 c nt al m y x) → (∀ x, t ≤ x → x < m → w32 (G 110 (x * 4)) = fd0 c y x) → (∀ i, ¬ (i % 4 = 0 ∧ i / 4 < m) → G 110 i = if y * 4 ≤ i ∧ i < y * 4 + 4 then 0 else g 110 i) → (∀ i : Nat, (i : Int) < c 48 4 → G 140 i = if c 49 i = (y : Int) then stV c i y (c 1 0) else c 55 i) → aX12_fallen T (d + 4) Q X 92 [some (mx_R 99), some (mx_I (y : Int)), some (mx_I v), some (mx_I x3), some (mx_I (t : Int))] [] G (0, 0) := by
    intro n
    induction n with
    | zero =>
      intro t ht G x3 cG mG h109 h1 h2 h3 h140
      refine zX12_fallen_92 ?_
      rw [cG.2 10 (by decide), rb.1, em]
      have : t = m := by omega
      subst this
      first | with_reducible refine c_lt ?_ ?_ (fun z => ?_) (fun z => ?_) | with_reducible refine c_le ?_ ?_ (fun z => ?_) (fun z => ?_) | with_reducible refine c_eq ?_ ?_ (fun z => ?_) (fun z => ?_) | with_reducible refine c_ne ?_ ?_ (fun z => ?_) (fun z => ?_)
      · omega
      · omega
      · rw [show (0 : Int) = ((0 : Nat) : Int) from rfl]
        exact four t 0 (by omega) G x3 cG mG h109 (fun x hx => absurd hx (Nat.not_lt_zero x)) (fun x _ hx => h1 x hx) h3 h140
      · omega
    | succ n ih =>
      intro t ht G x3 cG mG h109 h1 h2 h3 h140
      have et : cntP (faS c nt al m y) (t + 1) = cntP (faS c nt al m y) t + (if 0 < faS c nt al m y t then 1 else 0) := rfl
      have lt := cntP_mono (p := faS c nt al m y) (show t + 1 ≤ m by omega)
      have f0 := bF t (by omega)
      have s := bS t (by omega)
      have sl := lS t (by omega)
      refine zX12_fallen_92 ?_
      rw [cG.2 10 (by decide), rb.1, em]
      first | with_reducible refine c_lt ?_ ?_ (fun z => ?_) (fun z => ?_) | with_reducible refine c_le ?_ ?_ (fun z => ?_) (fun z => ?_) | with_reducible refine c_eq ?_ ?_ (fun z => ?_) (fun z => ?_) | with_reducible refine c_ne ?_ ?_ (fun z => ?_) (fun z => ?_)
      · omega
      · omega
      · omega
      · rw [zb_holds (by omega)]
        refine zt1 (fun hz => ?_) (fun hz => ?_)
        · have a0 := S0 t hz
          refine zX12_fallen_126 ?_
          rw [show (t : Int) + 1 = ((t + 1 : Nat) : Int) by omega]
          refine ih (t + 1) (by omega) G x3 cG (by rw [et, if_neg (by omega)]; exact mG) h109 (fun x hx => ?_) (fun x hx hx2 => h2 x (by omega) hx2) h3 h140
          by_cases e : x = t
          · rw [e, h2 t (Nat.le_refl _) (by omega)]
            unfold fd1
            rw [if_neg (by omega)]
          · exact h1 x (by omega)
        · refine s_inN ?_ (fun ea => ?_)
          · omega
          try simp only [ea]
          clear ea
          rw [cG.1 169 (by decide) (by decide), (hS t (by omega)).1]
          refine sX12_comesTo (d := d + 1) (b := b) (E := E) (k0 := cntP (faS c nt al m y) t) (o := fd0 c y t) (t := c 10 y) (by omega) (by omega) (by omega) (h2 t (Nat.le_refl _) (by omega)) f0.1 (by rw [cG.1 106 (by decide) (by decide)]; exact e106 y (by omega)) (fun hp => hE4 t (by omega) hp) ⟨hroom.1, fun hp => by rw [et, if_pos hp] at lt; omega⟩ mG (fun G2 c2 m2 v2 o2 => ?_)
          refine zX12_fallen_126 ?_
          rw [show (t : Int) + 1 = ((t + 1 : Nat) : Int) by omega]
          refine ih (t + 1) (by omega) G2 x3 (cG.tr (c2.sub (by decide) (fun f hf => hf))) (by rw [et]; exact m2) (fun x => by rw [c2.1 109 (by decide) (by decide)]; exact h109 x) (fun x hx => ?_) (fun x hx hx2 => by rw [o2 _ (by omega)]; exact h2 x (by omega) hx2) (fun i hi => by rw [o2 _ (by omega)]; exact h3 i hi) (fun i hi => by rw [c2.1 140 (by decide) (by decide)]; exact h140 i hi)
          by_cases e : x = t
          · rw [e, v2]; rfl
          · rw [o2 _ (by omega)]; exact h1 x (by omega)
  -- the drawer of the fallen
  have two : ∀ n t : Nat, t + n = 4 → ∀ G x3, Ch fnS [16] g G → mvQ b 0 E 0 G → (∀ x, G 109 x = if x = y then c 1 0 else g 109 x) → (∀ i, G 110 i = if y * 4 ≤ i ∧ i < y * 4 + t then 0 else g 110 i) → (∀ i : Nat, (i : Int) < c 48 4 → G 140 i = if c 49 i = (y : Int) then stV c i y (c 1 0) else c 55 i) → aX12_fallen T (d + 4) Q X 65 [some (mx_R 99), some (mx_I (y : Int)), some (mx_I v), some (mx_I x3), some (mx_I (t : Int))] [] G (0, 0) := by
    intro n
    induction n with
    | zero =>
      intro t ht G x3 cG mG h109 h110 h140
      have : t = 4 := by omega
      subst this
      refine zX12_fallen_65 ?_
      first | with_reducible refine c_lt ?_ ?_ (fun z => ?_) (fun z => ?_) | with_reducible refine c_le ?_ ?_ (fun z => ?_) (fun z => ?_) | with_reducible refine c_eq ?_ ?_ (fun z => ?_) (fun z => ?_) | with_reducible refine c_ne ?_ ?_ (fun z => ?_) (fun z => ?_)
      · omega
      · omega
      · rw [show (0 : Int) = ((0 : Nat) : Int) from rfl]
        refine three m 0 (by omega) G x3 cG mG h109 (fun x hx => absurd hx (Nat.not_lt_zero x)) (fun x _ hx => ?_) (fun i _ => h110 i) h140
        have o := wb.2.2 (x * 4) (by omega)
        rw [h110]
        unfold fd0
        by_cases e : x = y
        · rw [if_pos (by omega), if_pos e]; exact w32_0
        · rw [if_neg (by omega), if_neg e, rb.2.2 (x * 4) (by omega)]
          exact w32_of (by omega) (by omega)
      · omega
    | succ n ih =>
      intro t ht G x3 cG mG h109 h110 h140
      refine zX12_fallen_65 ?_
      first | with_reducible refine c_lt ?_ ?_ (fun z => ?_) (fun z => ?_) | with_reducible refine c_le ?_ ?_ (fun z => ?_) (fun z => ?_) | with_reducible refine c_eq ?_ ?_ (fun z => ?_) (fun z => ?_) | with_reducible refine c_ne ?_ ?_ (fun z => ?_) (fun z => ?_)
      · omega
      · omega
      · omega
      · refine s_inE (y * 4 + t) (by omega) (by omega) (fun ea => ?_)
        simp only [ea]
        intro G2 e2
        rw [show (t : Int) + 1 = ((t + 1 : Nat) : Int) by omega]
        have c2 : Ch [110] [] G G2 := by rw [e2]; exact (Ch.rf G).up (by decide) (by decide)
        refine ih (t + 1) (by omega) G2 x3 (cG.tr (c2.sub (by decide) (fun f hf => by cases hf))) (mG.fr c2 (by decide) (by decide)) (fun x => by rw [c2.1 109 (by decide) (by decide)]; exact h109 x) (fun i => ?_) (fun i hi => by rw [c2.1 140 (by decide) (by decide)]; exact h140 i hi)
        rw [e2]
        by_cases e : i = y * 4 + t
        · rw [e, up_s, if_pos (by omega)]
        · rw [up_i e, h110]
          by_cases q : y * 4 ≤ i ∧ i < y * 4 + t
          · rw [if_pos q, if_pos (by omega)]
          · rw [if_neg q, if_neg (by omega)]
  -- words stop
  have one : ∀ n t : Nat, t + n = N → ∀ G, Ch [140] [] g G → (∀ i : Nat, i < t → G 140 i = if c 49 i = (y : Int) then stV c i y (c 1 0) else c 55 i) → (∀ i : Nat, t ≤ i → G 140 i = g 140 i) → aX12_fallen T (d + 4) Q X 10 [some (mx_R 99), some (mx_I (y : Int)), some (mx_I v), some (mx_I (c 10 y)), some (mx_I (t : Int))] [] G (0, 0) := by
    intro n
    induction n with
    | zero =>
      intro t ht G cG h1 h2
      refine zX12_fallen_10 ?_
      rw [cG.2 55 (by decide), rw'.1, eN]
      first | with_reducible refine c_lt ?_ ?_ (fun z => ?_) (fun z => ?_) | with_reducible refine c_le ?_ ?_ (fun z => ?_) (fun z => ?_) | with_reducible refine c_eq ?_ ?_ (fun z => ?_) (fun z => ?_) | with_reducible refine c_ne ?_ ?_ (fun z => ?_) (fun z => ?_)
      · omega
      · omega
      · refine s_inN ?_ (fun ea => ?_)
        · omega
        try simp only [ea]
        clear ea
        intro G2 e2
        have e91 : G 99 1 = c 1 0 := by rw [cG.2 1 (by decide)]; exact rl.1
        rw [e91] at e2
        have c2 : Ch [109] [] G G2 := by rw [e2]; exact (Ch.rf G).up (by decide) (by decide)
        have c3 : Ch [109, 140] [] g G2 := (cG.sub (by decide) (fun f hf => hf)).tr (c2.sub (by decide) (fun f hf => hf))
        rw [show (0 : Int) = ((0 : Nat) : Int) from rfl]
        refine two 4 0 (by omega) G2 _ (c3.sub (by decide) (fun f hf => by cases hf)) (mG.fr c3 (by decide) (by decide)) (fun x => ?_) (fun i => ?_) (fun i hi => by rw [c2.1 140 (by decide) (by decide)]; exact h1 i (by omega))
        · rw [e2]
          by_cases e : x = y
          · rw [e, up_s, if_pos rfl]
          · rw [up_i e, if_neg e, cG.1 109 (by decide) (by decide)]
        · rw [c3.1 110 (by decide) (by decide), if_neg (by omega)]
      · omega
    | succ n ih =>
      intro t ht G cG h1 h2
      have wd := ww.2.1 t (by omega)
      have rd := rw'.2 t (by omega)
      have p49 := wd.1
      have p56 := wd.2.2.2.2.2.2.2.1
      have e140 : G 140 t = c 55 t := by rw [h2 t (Nat.le_refl _)]; exact rd.2.2.2.2.2.2.1
      have skip : (¬ c 49 t = (y : Int) ∨ ¬ c 56 t = -1) → aX12_fallen T (d + 4) Q X 46 [some (mx_R 99), some (mx_I (y : Int)), some (mx_I v), some (mx_I (c 10 y)), some (mx_I (t : Int))] [] G (0, 0) := by
        intro hq
        refine zX12_fallen_46 ?_
        rw [show (t : Int) + 1 = ((t + 1 : Nat) : Int) by omega]
        refine ih (t + 1) (by omega) G cG (fun i hi => ?_) (fun i hi => h2 i (by omega))
        by_cases e : i = t
        · rw [e, e140]
          by_cases q : c 49 t = (y : Int)
          · rw [if_pos q]
            unfold stV
            rw [if_pos (Or.inr (hq.resolve_left (fun r => r q)))]
          · rw [if_neg q]
        · exact h1 i (by omega)
      refine zX12_fallen_10 ?_
      rw [cG.2 55 (by decide), rw'.1, eN]
      first | with_reducible refine c_lt ?_ ?_ (fun z => ?_) (fun z => ?_) | with_reducible refine c_le ?_ ?_ (fun z => ?_) (fun z => ?_) | with_reducible refine c_eq ?_ ?_ (fun z => ?_) (fun z => ?_) | with_reducible refine c_ne ?_ ?_ (fun z => ?_) (fun z => ?_)
      · omega
      · omega
      · omega
      · refine s_inN ?_ (fun ea => ?_)
        · omega
        try simp only [ea]
        clear ea
        rw [cG.1 134 (by decide) (by decide), show g 134 t = c 49 t from rd.1]
        first | with_reducible refine c_lt ?_ ?_ (fun q => ?_) (fun q => ?_) | with_reducible refine c_le ?_ ?_ (fun q => ?_) (fun q => ?_) | with_reducible refine c_eq ?_ ?_ (fun q => ?_) (fun q => ?_) | with_reducible refine c_ne ?_ ?_ (fun q => ?_) (fun q => ?_)
        · omega
        · omega
        · exact skip (Or.inl q)
        · refine sX12_isPaidH (d := d + 3) ww (fun i hi => by rw [cG.1 141 (by decide) (by decide)]; exact (rw'.2 i hi).2.2.2.2.2.2.2.1) (by omega) ?_
          rw [show ((t : Int)).toNat = t by omega]
          first | with_reducible refine b_eq (fun q2 => ?_) (fun q2 => ?_) | with_reducible refine b_ne (fun q2 => ?_) (fun q2 => ?_)
          · exact skip (Or.inr q2.2)
          · have hp : c 56 t = -1 := Classical.byContradiction (fun r => q2 ⟨by omega, r⟩)
            refine sX12_stops (d := d + 2) (c := c) (i := t) (b := y) wlc wb ww (rl.fr cG (by decide) (by decide)) (fun j hj => by rw [cG.1 106 (by decide) (by decide)]; exact e106 j hj) (by omega) (by omega) rfl (by rw [cG.1 135 (by decide) (by decide)]; exact rd.2.1) e140 hp ?_
            refine zX12_fallen_46 ?_
            rw [show (t : Int) + 1 = ((t + 1 : Nat) : Int) by omega]
            refine ih (t + 1) (by omega) _ (cG.up (by decide) (by decide)) (fun i hi => ?_) (fun i hi => ?_)
            · by_cases e : i = t
              · rw [e, up_s, if_pos (by omega)]
              · rw [up_i e]; exact h1 i (by omega)
            · rw [up_i (by omega)]; exact h2 i (by omega)
  rw [show (0 : Int) = ((0 : Nat) : Int) from rfl]
  exact one N 0 (by omega) g (Ch.rf g) (fun i hi => absurd hi (Nat.not_lt_zero i)) (fun _ _ => rfl)
