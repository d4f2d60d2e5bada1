/-! plans: the class goes through them -/
def nxB (n w q : Nat) : Bool :=
  ((List.range n).all (fun k => !((List.range n).all (fun d => decide (d ≤ k) || decide (wkV n w q d = w))) || !(decide (wkV n w q k < w)) || ((List.range n).all (fun d => if d < k then decide (wkV n w (q + 1) d = wkV n w q d) else if d = k then decide (wkV n w (q + 1) d = wkV n w q d + 1) else decide (wkV n w (q + 1) d = 1)))))
  && (!((List.range n).all (fun d => decide (wkV n w q d = w))) || (List.range n).all (fun d => decide (wkV n w (q + 1) d = 1)))
theorem nxAll : ((List.range 7).all (fun n => (List.range 5).all (fun w => decide (w = 0) || (List.range (w ^ n)).all (fun q => nxB n w q)))) = true := by decide +kernel
theorem nx_get {n w q : Nat} (hn : n ≤ 6) (hw : 1 ≤ w ∧ w ≤ 4) (hq : q < w ^ n) : nxB n w q = true := by
  have h := nxAll
  rw [List.all_eq_true] at h
  have h1 := h n (List.mem_range.mpr (by omega))
  rw [List.all_eq_true] at h1
  have h2 := h1 w (List.mem_range.mpr (by omega))
  rw [Bool.or_eq_true, decide_eq_true_iff] at h2
  rcases h2 with z | z
  · omega
  · rw [List.all_eq_true] at z
    exact z q (List.mem_range.mpr hq)
theorem nx_step {n w q k : Nat} (hn : n ≤ 6) (hw : 1 ≤ w ∧ w ≤ 4) (hq : q < w ^ n) (hk : k < n) (ht : ∀ d, k < d → d < n → wkV n w q d = w) (hl : wkV n w q k < w) : ∀ d, d < n → wkV n w (q + 1) d = if d < k then wkV n w q d else if d = k then wkV n w q d + 1 else 1 := by
  have h := nx_get hn hw hq
  unfold nxB at h
  rw [Bool.and_eq_true] at h
  have h1 := h.1
  rw [List.all_eq_true] at h1
  have h2 := h1 k (List.mem_range.mpr hk)
  have t : ((List.range n).all (fun d => decide (d ≤ k) || decide (wkV n w q d = w))) = true := by
    rw [List.all_eq_true]
    intro d hd
    rw [Bool.or_eq_true, decide_eq_true_iff, decide_eq_true_iff]
    by_cases y : d ≤ k
    · exact Or.inl y
    · exact Or.inr (ht d (by omega) (List.mem_range.mp hd))
  rw [t, decide_eq_true hl] at h2
  have h3 : ((List.range n).all (fun d => if d < k then decide (wkV n w (q + 1) d = wkV n w q d) else if d = k then decide (wkV n w (q + 1) d = wkV n w q d + 1) else decide (wkV n w (q + 1) d = 1))) = true := h2
  rw [List.all_eq_true] at h3
  intro d hd
  have h4 := h3 d (List.mem_range.mpr hd)
  by_cases y : d < k
  · rw [if_pos y] at h4 ⊢; exact of_decide_eq_true h4
  · rw [if_neg y] at h4 ⊢
    by_cases y2 : d = k
    · rw [if_pos y2] at h4 ⊢; exact of_decide_eq_true h4
    · rw [if_neg y2] at h4 ⊢; exact of_decide_eq_true h4
theorem nx_all {n w q : Nat} (hn : n ≤ 6) (hw : 1 ≤ w ∧ w ≤ 4) (hq : q < w ^ n) (ht : ∀ d, d < n → wkV n w q d = w) : ∀ d, d < n → wkV n w (q + 1) d = 1 := by
  have h := nx_get hn hw hq
  unfold nxB at h
  rw [Bool.and_eq_true] at h
  have h1 := h.2
  have t : ((List.range n).all (fun d => decide (wkV n w q d = w))) = true := by
    rw [List.all_eq_true]
    intro d hd
    exact decide_eq_true (ht d (List.mem_range.mp hd))
  rw [t] at h1
  have h3 : ((List.range n).all (fun d => decide (wkV n w (q + 1) d = 1))) = true := h1
  rw [List.all_eq_true] at h3
  intro d hd
  exact of_decide_eq_true (h3 d (List.mem_range.mpr hd))
def WkG (g : mz_S) (n : Nat) (W : Nat → Nat) : Prop := ∀ k, k < n → g 82 k = (W k : Nat)
theorem sX2_latestWeek {T : Nat × (Nat → Int32)} {d : Nat} {Q : mz_K} {X : mz_X} {g : mz_S} {n : Nat} {W : Nat → Nat} (hn : n ≤ 6) (h : WkG g n W) (hW : ∀ k, k < n → W k ≤ 4) (k : Q (mxN W n : Nat) g) : zC T (d + 2) 32 [mx_R 72, mx_I (n : Int)] g Q X := by
  refine zX2_latestWeek ?_
  have main : ∀ c i : Nat, i + c = n → aX2_latestWeek T (d + 1) Q X 4 [some (mx_R 72), some (mx_I (n : Int)), some (mx_I (mxN W i : Nat)), some (mx_I (i : Int))] [] g (0, 0) := by
    intro c
    induction c with
    | zero =>
      intro i hi
      refine zX2_latestWeek_4 ?_
      first | with_reducible refine c_lt ?_ ?_ (fun z => ?_) (fun z => ?_) | with_reducible refine c_le ?_ ?_ (fun z => ?_) (fun z => ?_) | with_reducible refine c_eq ?_ ?_ (fun z => ?_) (fun z => ?_) | with_reducible refine c_ne ?_ ?_ (fun z => ?_) (fun z => ?_)
      · omega
      · omega
      · have : i = n := by omega
        subst this; exact k
      · omega
    | succ c ih =>
      intro i hi
      have b := mxN_le (f := W) (B := 4) i (fun k hk => hW k (by omega))
      have b2 := hW i (by omega)
      refine zX2_latestWeek_4 ?_
      first | with_reducible refine c_lt ?_ ?_ (fun z => ?_) (fun z => ?_) | with_reducible refine c_le ?_ ?_ (fun z => ?_) (fun z => ?_) | with_reducible refine c_eq ?_ ?_ (fun z => ?_) (fun z => ?_) | with_reducible refine c_ne ?_ ?_ (fun z => ?_) (fun z => ?_)
      · omega
      · omega
      · omega
      · refine s_inN ?_ (fun ea => ?_)
        · omega
        try simp only [ea]
        clear ea
        rw [h i (by omega)]
        refine sJ9_max (by omega) (by omega) ?_
        rw [show max ((mxN W i : Nat) : Int) ((W i : Nat) : Int) = ((mxN W (i + 1) : Nat) : Int) by show _ = ((max (mxN W i) (W i) : Nat) : Int); omega, show (i : Int) + 1 = ((i + 1 : Nat) : Int) by omega]
        exact ih (i + 1) (by omega)
  exact main n 0 (by omega)
theorem sX2_sumOfWeeks {T : Nat × (Nat → Int32)} {d : Nat} {Q : mz_K} {X : mz_X} {g : mz_S} {n : Nat} {W : Nat → Nat} (hn : n ≤ 6) (h : WkG g n W) (k : Q (smN W n : Nat) g) : zC T (d + 1) 33 [mx_R 72, mx_I (n : Int)] g Q X := by
  refine zX2_sumOfWeeks ?_
  have main : ∀ c i : Nat, i + c = n → aX2_sumOfWeeks T d Q X 4 [some (mx_R 72), some (mx_I (n : Int)), some (mx_I (smN W i : Nat)), some (mx_I (i : Int))] [] g (0, 0) := by
    intro c
    induction c with
    | zero =>
      intro i hi
      refine zX2_sumOfWeeks_4 ?_
      first | with_reducible refine c_lt ?_ ?_ (fun z => ?_) (fun z => ?_) | with_reducible refine c_le ?_ ?_ (fun z => ?_) (fun z => ?_) | with_reducible refine c_eq ?_ ?_ (fun z => ?_) (fun z => ?_) | with_reducible refine c_ne ?_ ?_ (fun z => ?_) (fun z => ?_)
      · omega
      · omega
      · have : i = n := by omega
        subst this; exact k
      · omega
    | succ c ih =>
      intro i hi
      refine zX2_sumOfWeeks_4 ?_
      first | with_reducible refine c_lt ?_ ?_ (fun z => ?_) (fun z => ?_) | with_reducible refine c_le ?_ ?_ (fun z => ?_) (fun z => ?_) | with_reducible refine c_eq ?_ ?_ (fun z => ?_) (fun z => ?_) | with_reducible refine c_ne ?_ ?_ (fun z => ?_) (fun z => ?_)
      · omega
      · omega
      · omega
      · refine s_inN ?_ (fun ea => ?_)
        · omega
        try simp only [ea]
        clear ea
        rw [h i (by omega), show ((smN W i : Nat) : Int) + ((W i : Nat) : Int) = ((smN W (i + 1) : Nat) : Int) by show _ = ((smN W i + W i : Nat) : Int); omega, show (i : Int) + 1 = ((i + 1 : Nat) : Int) by omega]
        exact ih (i + 1) (by omega)
  exact main n 0 (by omega)
def ptN (W : Nat → Nat) (w : Nat) : Nat → Nat
  | 0 => 0
  | k + 1 => if W k ≤ w then ptN W w k ||| 2 ^ k else ptN W w k
theorem ptN_lt (W : Nat → Nat) (w : Nat) : ∀ k, ptN W w k < 2 ^ k := by
  intro k
  induction k with
  | zero => exact Nat.one_pos
  | succ k ih =>
    have h : 2 ^ k < 2 ^ (k + 1) := Nat.pow_lt_pow_right (by omega) (by omega)
    unfold ptN
    split
    · exact Nat.or_lt_two_pow (by omega) h
    · omega
theorem ptN_bit (W : Nat → Nat) (w : Nat) : ∀ k i, (ptN W w k).testBit i = (decide (i < k) && decide (W i ≤ w)) := by
  intro k
  induction k with
  | zero => intro i; show Nat.testBit 0 i = _; simp
  | succ k ih =>
    intro i
    unfold ptN
    split
    · rename_i h
      rw [Nat.testBit_or, ih, Nat.testBit_two_pow]
      by_cases e : k = i
      · subst e; simp [h]
      · simp [e]
        by_cases e2 : i < k
        · simp [e2, show i < k + 1 by omega]
        · simp [e2, show ¬ i < k + 1 by omega]
    · rename_i h
      rw [ih]
      by_cases e : i = k
      · subst e; simp [h]
      · by_cases e2 : i < k
        · simp [e2, show i < k + 1 by omega]
        · simp [e2, show ¬ i < k + 1 by omega]
theorem sX2_isRight {T : Nat × (Nat → Int32)} {d : Nat} {Q : mz_K} {X : mz_X} {g : mz_S} {c : mz_S} {co m n wks : Nat} {x : Int} {W : Nat → Nat} (hn : n ≤ 6) (hw : wks ≤ 4) (h : WkG g n W) (hW : ∀ k, k < n → W k ≤ 4) (hf : ∀ w, 1 ≤ w → w ≤ wks → FtG g c co x m n w) (k : Q (pI (rgtB c co x m n wks W = true)) g) : zC T (d + 1) 35 [mx_R 72, mx_I (n : Int), mx_I (wks : Int)] g Q X := by
  have hp2 := p2 n (by omega)
  refine zX2_isRight ?_
  have main : ∀ cc w : Nat, w + cc = wks + 1 → 1 ≤ w → (∀ v, v + 1 < w → fitB c co x m n (v + 1) (fun k => decide (W k ≤ v + 1)) = true) → ∀ o4 o5, aX2_isRight T d Q X 2 [some (mx_R 72), some (mx_I (n : Int)), some (mx_I (wks : Int)), some (mx_I (w : Int)), o4, o5] [] g (0, 0) := by
    intro cc
    induction cc with
    | zero =>
      intro w hw1 hw2 hv o4 o5
      refine zX2_isRight_2 ?_
      first | with_reducible refine c_lt ?_ ?_ (fun z => ?_) (fun z => ?_) | with_reducible refine c_le ?_ ?_ (fun z => ?_) (fun z => ?_) | with_reducible refine c_eq ?_ ?_ (fun z => ?_) (fun z => ?_) | with_reducible refine c_ne ?_ ?_ (fun z => ?_) (fun z => ?_)
      · omega
      · omega
      · refine ⟨zb1, ?_⟩
        rw [pI_t (rgtB_iff.mpr (fun v hv2 => hv v (by omega)))] at k
        exact k
      · omega
    | succ cc ih =>
      intro w hw1 hw2 hv o4 o5
      refine zX2_isRight_2 ?_
      first | with_reducible refine c_lt ?_ ?_ (fun z => ?_) (fun z => ?_) | with_reducible refine c_le ?_ ?_ (fun z => ?_) (fun z => ?_) | with_reducible refine c_eq ?_ ?_ (fun z => ?_) (fun z => ?_) | with_reducible refine c_ne ?_ ?_ (fun z => ?_) (fun z => ?_)
      · omega
      · omega
      · omega
      · have inner : ∀ c2 i : Nat, i + c2 = n → aX2_isRight T d Q X 13 [some (mx_R 72), some (mx_I (n : Int)), some (mx_I (wks : Int)), some (mx_I (w : Int)), some (mx_I (ptN W w i : Nat)), some (mx_I (i : Int))] [] g (0, 0) := by
          intro c2
          induction c2 with
          | zero =>
            intro i hi
            have e : i = n := by omega
            subst e
            have lt := ptN_lt W w i
            refine zX2_isRight_13 ?_
            first | with_reducible refine c_lt ?_ ?_ (fun z2 => ?_) (fun z2 => ?_) | with_reducible refine c_le ?_ ?_ (fun z2 => ?_) (fun z2 => ?_) | with_reducible refine c_eq ?_ ?_ (fun z2 => ?_) (fun z2 => ?_) | with_reducible refine c_ne ?_ ?_ (fun z2 => ?_) (fun z2 => ?_)
            · omega
            · omega
            · rw [show ((w : Int)) = ((w : Nat) : Int) from rfl, fitIx w (by omega) (ptN W w i) (by omega)]
              refine s_inN ?_ (fun ea => ?_)
              · omega
              try simp only [ea]
              clear ea
              rw [hf w (by omega) (by omega) (ptN W w i) lt]
              have e2 : fitB c co x m i w (ptN W w i).testBit = fitB c co x m i w (fun k => decide (W k ≤ w)) := fitB_cg (fun k hk => by rw [ptN_bit]; simp [hk])
              rw [e2]
              first | with_reducible refine b_eq (fun z3 => ?_) (fun z3 => ?_) | with_reducible refine b_ne (fun z3 => ?_) (fun z3 => ?_)
              · rw [show (w : Int) + 1 = ((w + 1 : Nat) : Int) by omega]
                refine ih (w + 1) (by omega) (by omega) (fun v hv2 => ?_) _ _
                by_cases y : v + 1 = w
                · rw [y]; exact z3
                · exact hv v (by omega)
              · refine ⟨zb0, ?_⟩
                rw [pI_f (fun q => by
                  have := rgtB_iff.mp q (w - 1) (by omega)
                  rw [show w - 1 + 1 = w by omega] at this
                  exact z3 this)] at k
                exact k
            · omega
          | succ c2 ih2 =>
            intro i hi
            have lt := ptN_lt W w i
            have l6 : 2 ^ i ≤ 2 ^ n := Nat.pow_le_pow_right (by omega) (by omega)
            have b2 := hW i (by omega)
            refine zX2_isRight_13 ?_
            first | with_reducible refine c_lt ?_ ?_ (fun z2 => ?_) (fun z2 => ?_) | with_reducible refine c_le ?_ ?_ (fun z2 => ?_) (fun z2 => ?_) | with_reducible refine c_eq ?_ ?_ (fun z2 => ?_) (fun z2 => ?_) | with_reducible refine c_ne ?_ ?_ (fun z2 => ?_) (fun z2 => ?_)
            · omega
            · omega
            · omega
            · refine s_inN ?_ (fun ea => ?_)
              · omega
              try simp only [ea]
              clear ea
              rw [h i (by omega)]
              first | with_reducible refine c_lt ?_ ?_ (fun z3 => ?_) (fun z3 => ?_) | with_reducible refine c_le ?_ ?_ (fun z3 => ?_) (fun z3 => ?_) | with_reducible refine c_eq ?_ ?_ (fun z3 => ?_) (fun z3 => ?_) | with_reducible refine c_ne ?_ ?_ (fun z3 => ?_) (fun z3 => ?_)
              · omega
              · omega
              · refine zX2_isRight_40 ?_
                rw [orZero _ (by omega), show (i : Int) + 1 = ((i + 1 : Nat) : Int) by omega]
                have := ih2 (i + 1) (by omega)
                rw [show ptN W w (i + 1) = ptN W w i by show (if W i ≤ w then _ else _) = _; rw [if_neg (by omega)]] at this
                exact this
              · refine zX2_isRight_40 ?_
                rw [orBit _ (by omega) i (by omega), show (i : Int) + 1 = ((i + 1 : Nat) : Int) by omega]
                have := ih2 (i + 1) (by omega)
                rw [show ptN W w (i + 1) = ptN W w i ||| 2 ^ i by show (if W i ≤ w then _ else _) = _; rw [if_pos (by omega)]] at this
                exact this
        exact inner n 0 (by omega)
  exact main wks 1 (by omega) (by omega) (fun v hv => by omega) none none
theorem sX2_nextPlan {T : Nat × (Nat → Int32)} {d : Nat} {Q : mz_K} {X : mz_X} {g : mz_S} {n wks q : Nat} (hn : n ≤ 6) (hw : 1 ≤ wks ∧ wks ≤ 4) (hq : q < wks ^ n) (h : WkG g n (wkV n wks q)) (k : ∀ g', Ch [82] [] g g' → WkG g' n (wkV n wks (q + 1)) → Q 0 g') : zC T (d + 1) 34 [mx_R 72, mx_I (n : Int), mx_I (wks : Int)] g Q X := by
  refine zX2_nextPlan ?_
  have main : ∀ t : Nat, t ≤ n → ∀ G, Ch [82] [] g G → (∀ d, t ≤ d → d < n → wkV n wks q d = wks ∧ G 82 d = 1) → (∀ d, d < t → G 82 d = (wkV n wks q d : Nat)) → aX2_nextPlan T d Q X 4 [some (mx_R 72), some (mx_I (n : Int)), some (mx_I (wks : Int)), some (mx_I ((t : Int) - 1))] [] G (0, 0) := by
    intro t
    induction t with
    | zero =>
      intro ht G cG h1 h2
      refine zX2_nextPlan_4 ?_
      first | with_reducible refine c_lt ?_ ?_ (fun z => ?_) (fun z => ?_) | with_reducible refine c_le ?_ ?_ (fun z => ?_) (fun z => ?_) | with_reducible refine c_eq ?_ ?_ (fun z => ?_) (fun z => ?_) | with_reducible refine c_ne ?_ ?_ (fun z => ?_) (fun z => ?_)
      · omega
      · omega
      · refine k G cG (fun d hd => ?_)
        rw [nx_all hn hw hq (fun d hd => (h1 d (by omega) hd).1) d hd]
        exact (h1 d (by omega) hd).2
      · omega
    | succ t ih =>
      intro ht G cG h1 h2
      have r := wkV_rng (n := n) (wks := wks) (q := q) (d := t) hw.1
      refine zX2_nextPlan_4 ?_
      rw [show ((t + 1 : Nat) : Int) - 1 = (t : Int) by omega]
      first | with_reducible refine c_lt ?_ ?_ (fun z => ?_) (fun z => ?_) | with_reducible refine c_le ?_ ?_ (fun z => ?_) (fun z => ?_) | with_reducible refine c_eq ?_ ?_ (fun z => ?_) (fun z => ?_) | with_reducible refine c_ne ?_ ?_ (fun z => ?_) (fun z => ?_)
      · omega
      · omega
      · omega
      · refine s_inN ?_ (fun ea => ?_)
        · omega
        try simp only [ea]
        clear ea
        rw [h2 t (by omega)]
        first | with_reducible refine c_lt ?_ ?_ (fun z2 => ?_) (fun z2 => ?_) | with_reducible refine c_le ?_ ?_ (fun z2 => ?_) (fun z2 => ?_) | with_reducible refine c_eq ?_ ?_ (fun z2 => ?_) (fun z2 => ?_) | with_reducible refine c_ne ?_ ?_ (fun z2 => ?_) (fun z2 => ?_)
        · omega
        · omega
        · refine s_inN ?_ (fun ea => ?_)
          · omega
          try simp only [ea]
          clear ea
          intro G2 e2
          rw [show (t : Int) + -1 = (t : Int) - 1 by omega]
          refine ih (by omega) G2 (by rw [e2]; exact cG.up (by decide) (by decide)) (fun d h3 h4 => ?_) (fun d hd => ?_)
          · rw [e2]
            by_cases y : d = t
            · subst y; rw [up_s]; exact ⟨by omega, rfl⟩
            · rw [up_i y]; exact h1 d (by omega) h4
          · rw [e2, up_i (by omega)]; exact h2 d (by omega)
        · refine s_inN ?_ (fun ea => ?_)
          · omega
          try simp only [ea]
          clear ea
          refine s_inN ?_ (fun ea => ?_)
          · omega
          try simp only [ea]
          clear ea
          intro G2 e2
          refine k G2 (by rw [e2]; exact cG.up (by decide) (by decide)) (fun d hd => ?_)
          rw [nx_step hn hw hq (show t < n by omega) (fun d h3 h4 => (h1 d (by omega) h4).1) (by omega) d hd, e2]
          by_cases y : d < t
          · rw [if_pos y, up_i (by omega)]; exact h2 d (by omega)
          · rw [if_neg y]
            by_cases y2 : d = t
            · subst y2; rw [if_pos rfl, up_s]; omega
            · rw [if_neg y2, up_i y2]; exact (h1 d (by omega) hd).2
  exact main n (Nat.le_refl _) g (Ch.rf g) (fun d h3 h4 => by omega) (fun d hd => h d hd)
