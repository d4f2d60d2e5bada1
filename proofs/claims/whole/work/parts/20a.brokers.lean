/-! Brokers -/
theorem idiv_of {x y : Int} (hx : 0 ≤ x ∧ x ≤ 2147483647) (hy : 0 < y ∧ y ≤ 2147483647) : mx_idiv x y = x / y := by
  unfold mx_idiv
  rw [Int32.toInt_div]
  have ex : (Int32.ofInt x).toInt = x := w32_of (by omega) (by omega)
  have ey : (Int32.ofInt y).toInt = y := w32_of (by omega) (by omega)
  rw [ex, ey, Int.tdiv_eq_ediv_of_nonneg hx.1]
  have h1 : x / y ≤ x := Int.ediv_le_self _ hx.1
  have h2 : 0 ≤ x / y := Int.ediv_nonneg hx.1 (by omega)
  rw [show ((2 : Nat) ^ 32) = 4294967296 from rfl, ← w32_bm]
  exact w32_of (by omega) (by omega)
def WfB (g : mz_S) : Prop := (0 ≤ g 9 1 ∧ g 9 1 ≤ 12) ∧ (∀ i, i < 12 → (0 ≤ g 10 i ∧ g 10 i < 8) ∧ (0 ≤ g 11 i ∧ g 11 i < 6) ∧ (0 ≤ g 12 i ∧ g 12 i ≤ g 1 0) ∧ (-1 ≤ g 13 i ∧ g 13 i ≤ 999)) ∧ (∀ i, i < 48 → 0 ≤ g 14 i ∧ g 14 i ≤ 10000000)
theorem Sm8.wfB {g g' : mz_S} (h : Sm8 g g') (w : WfB g) : WfB g' := by
  unfold WfB
  rw [h 1 (by decide), h 9 (by decide), h 10 (by decide), h 11 (by decide), h 12 (by decide), h 13 (by decide), h 14 (by decide)]
  exact w
theorem sX0_hasFallen {T : Nat × (Nat → Int32)} {d : Nat} {Q : mz_K} {X : mz_X} {g : mz_S} {b : Int} (hb : 0 ≤ b ∧ b < 12) (hr : -1 ≤ g 13 b.toNat ∧ g 13 b.toNat ≤ 999) (k : Q (pI (¬ g 13 b.toNat = -1)) g) : zC T (d + 1) 2 [mx_R 9, mx_I b] g Q X := by
  refine zX0_hasFallen ?_
  refine s_in ?_ (fun ea => ?_)
  · omega
  try simp only [ea]
  clear ea
  first | refine c_lt ?_ ?_ (fun h => ?_) (fun h => ?_) | refine c_le ?_ ?_ (fun h => ?_) (fun h => ?_) | refine c_eq ?_ ?_ (fun h => ?_) (fun h => ?_) | refine c_ne ?_ ?_ (fun h => ?_) (fun h => ?_)
  · omega
  · omega
  · refine zX0_hasFallen_15 ⟨zb0, ?_⟩
    rw [pI_f (fun z => z h)] at k; exact k
  · refine zX0_hasFallen_15 ⟨zb1, ?_⟩
    rw [pI_t h] at k; exact k
theorem sX0_fallenSet {T : Nat × (Nat → Int32)} {d : Nat} {Q : mz_K} {X : mz_X} {g : mz_S} (w : WfB g) (k : ∀ s, R32 s → w32 s = s → (∀ i, i < 32 → zb s i = decide ((i : Int) < g 9 1 ∧ ¬ g 13 i = -1)) → Q s g) : zC T (d + 2) 3 [mx_R 9] g Q X := by
  obtain ⟨h1, h2, h3⟩ := w
  have h : ∀ i : Nat, i ≤ (g 9 1).toNat → ∀ s, w32 s = s → (∀ j, j < 32 → zb s j = decide (j < i ∧ ¬ g 13 j = -1)) → aX0_fallenSet T (d + 1) Q X 4 [some (mx_R 9), some (mx_I s), some (mx_I (i : Int))] [] g (0, 0) := by
    refine upto ?_ (fun i hi ih => ?_)
    · intro s hs hb
      refine zX0_fallenSet_4 ?_
      first | refine c_lt ?_ ?_ (fun h => ?_) (fun h => ?_) | refine c_le ?_ ?_ (fun h => ?_) (fun h => ?_) | refine c_eq ?_ ?_ (fun h => ?_) (fun h => ?_) | refine c_ne ?_ ?_ (fun h => ?_) (fun h => ?_)
      · omega
      · omega
      · refine k s ⟨by rw [← hs]; exact w32_lo s, by rw [← hs]; exact w32_hi s⟩ hs (fun j hj => ?_)
        rw [hb j hj]
        exact decide_eq_decide.mpr ⟨fun z => ⟨by omega, z.2⟩, fun z => ⟨by omega, z.2⟩⟩
      · omega
    · intro s hs hb
      refine zX0_fallenSet_4 ?_
      first | refine c_lt ?_ ?_ (fun h => ?_) (fun h => ?_) | refine c_le ?_ ?_ (fun h => ?_) (fun h => ?_) | refine c_eq ?_ ?_ (fun h => ?_) (fun h => ?_) | refine c_ne ?_ ?_ (fun h => ?_) (fun h => ?_)
      · omega
      · omega
      · omega
      · refine sX0_hasFallen (by omega) ?_ ?_
        · have := (h2 i (by omega)).2.2.2
          simp only [Int.toNat_natCast]; omega
        · simp only [Int.toNat_natCast]
          first | refine b_eq (fun h4 => ?_) (fun h4 => ?_) | refine b_ne (fun h4 => ?_) (fun h4 => ?_)
          · refine zX0_fallenSet_28 (ih _ (w32_ior _ _) (fun j hj => ?_))
            rw [zb_ior, zb_0, hb j hj, Bool.or_false]
            refine decide_eq_decide.mpr ⟨fun z => ⟨by omega, z.2⟩, fun z => ⟨?_, z.2⟩⟩
            rcases Nat.lt_or_ge j i with z2 | z2
            · exact z2
            · have : j = i := by omega
              subst this
              exact absurd z.2 h4
          · refine zX0_fallenSet_28 (ih _ (w32_ior _ _) (fun j hj => ?_))
            rw [zb_ior, zb_bit (by omega) hj, hb j hj, ← Bool.decide_or]
            refine decide_eq_decide.mpr ⟨fun z => ?_, fun z => ?_⟩
            · rcases z with z | z
              · exact ⟨by omega, z.2⟩
              · subst z; exact ⟨by omega, h4⟩
            · rcases Nat.lt_or_ge j i with z2 | z2
              · exact Or.inl ⟨z2, z.2⟩
              · exact Or.inr (by omega)
  exact zX0_fallenSet (h 0 (by omega) 0 w32_0 (fun j _ => by rw [zb_0]; exact (decide_eq_false (by omega)).symm))
theorem sX0_has {T : Nat × (Nat → Int32)} {d : Nat} {Q : mz_K} {X : mz_X} {g : mz_S} {b c : Int} (hb : 0 ≤ b ∧ b < 12) (hc : 0 ≤ c ∧ c < 4) (k : Q (g 14 (b * 4 + c).toNat) g) : zC T (d + 1) 4 [mx_R 9, mx_I b, mx_I c] g Q X := by
  refine zX0_has ?_
  refine s_in ?_ (fun ea => ?_)
  · omega
  try simp only [ea]
  clear ea
  exact k
theorem sX0_gets {T : Nat × (Nat → Int32)} {d : Nat} {Q : mz_K} {X : mz_X} {g : mz_S} {b c n : Int} (w : WfB g) (hb : 0 ≤ b ∧ b < 12) (hc : 0 ≤ c ∧ c < 4) (hn : -9000000000000000 ≤ n ∧ n ≤ 9000000000000000) (k : Q 0 (mx_up g 14 (b * 4 + c).toNat (min 10000000 (g 14 (b * 4 + c).toNat + n)))) : zC T (d + 2) 5 [mx_R 9, mx_I b, mx_I c, mx_J n] g Q X := by
  have hr := w.2.2 (b * 4 + c).toNat (by omega)
  refine zX0_gets (sX0_has hb hc ?_)
  rw [w32_of (by omega) (by omega)]
  refine sJ9_minL (by omega) (by omega) ?_
  refine s_in ?_ (fun ea => ?_)
  · omega
  try simp only [ea]
  clear ea
  rintro _ rfl
  exact k
def emptyS (g : mz_S) (b n : Nat) : mz_S := fun q i => if q = 14 ∧ b * 4 ≤ i ∧ i < b * 4 + n then 0 else g q i
theorem sX0_empty {T : Nat × (Nat → Int32)} {d : Nat} {Q : mz_K} {X : mz_X} {g : mz_S} {b : Nat} (hb : b < 12) (k : Q 0 (emptyS g b 4)) : zC T (d + 1) 6 [mx_R 9, mx_I (b : Int)] g Q X := by
  have h : ∀ i : Nat, i ≤ 4 → aX0_empty T d Q X 2 [some (mx_R 9), some (mx_I (b : Int)), some (mx_I (i : Int))] [] (emptyS g b i) (0, 0) := by
    refine upto ?_ (fun i hi ih => ?_)
    · refine zX0_empty_2 ?_
      first | refine c_lt ?_ ?_ (fun h => ?_) (fun h => ?_) | refine c_le ?_ ?_ (fun h => ?_) (fun h => ?_) | refine c_eq ?_ ?_ (fun h => ?_) (fun h => ?_) | refine c_ne ?_ ?_ (fun h => ?_) (fun h => ?_)
      · omega
      · omega
      · exact k
      · omega
    · refine zX0_empty_2 ?_
      first | refine c_lt ?_ ?_ (fun h => ?_) (fun h => ?_) | refine c_le ?_ ?_ (fun h => ?_) (fun h => ?_) | refine c_eq ?_ ?_ (fun h => ?_) (fun h => ?_) | refine c_ne ?_ ?_ (fun h => ?_) (fun h => ?_)
      · omega
      · omega
      · omega
      · refine s_inE (b * 4 + i) ?_ ?_ (fun ea => ?_)
        · omega
        · omega
        try simp only [ea]
        clear ea
        rintro _ rfl
        have e : mx_up (emptyS g b i) 14 (b * 4 + i) 0 = emptyS g b (i + 1) := by
          funext q j; simp only [mx_up, emptyS]
          repeat' split
          all_goals first | rfl | omega
        rw [e]
        exact ih
  have h0 := h 0 (by omega)
  have e : emptyS g b 0 = g := by funext q j; simp only [emptyS]; rw [if_neg (by omega)]
  rw [e] at h0
  exact zX0_empty h0
theorem sX0_seasons {T : Nat × (Nat → Int32)} {d : Nat} {Q : mz_K} {X : mz_X} {g : mz_S} {b : Int} (w : WfL0 g) (wb : WfB g) (hb : 0 ≤ b ∧ b < 12) (k : Q ((g 1 0 - g 12 b.toNat) / 90) g) : zC T (d + 1) 7 [mx_R 9, mx_I b] g Q X := by
  have h1 := w.1
  have h2 := (wb.2.1 b.toNat (by omega)).2.2.1
  refine zX0_seasons ?_
  refine s_in ?_ (fun ea => ?_)
  · omega
  try simp only [ea]
  clear ea
  refine ⟨by decide, ?_⟩
  rw [idiv_of (by omega) (by omega)]
  exact k
theorem sX0_lagTo {T : Nat × (Nat → Int32)} {d : Nat} {Q : mz_K} {X : mz_X} {g : mz_S} {a b : Int} (w : WfB g) (ha : 0 ≤ a ∧ a < 12) (hb : 0 ≤ b ∧ b < 12) (k : Q (g 3 (g 10 a.toNat * 8 + g 10 b.toNat).toNat) g) : zC T (d + 2) 8 [mx_R 9, mx_I a, mx_I b] g Q X := by
  have h1 := (w.2.1 a.toNat (by omega)).1
  have h2 := (w.2.1 b.toNat (by omega)).1
  refine zX0_lagTo ?_
  refine s_in ?_ (fun ea => ?_)
  · omega
  try simp only [ea]
  clear ea
  refine s_in ?_ (fun ea => ?_)
  · omega
  try simp only [ea]
  clear ea
  exact sX5_lagOf h1 h2 k
/-- what a broker's drawer is worth -/
def dworthC (g : mz_S) (b : Nat) : Int := sumN (fun c => worthC g (g 14 (b * 4 + c)) c (g 10 b)) 4
theorem Sm8.dworth {g g' : mz_S} (h : Sm8 g g') (b : Nat) : dworthC g' b = dworthC g b := by
  unfold dworthC
  rw [h 14 (by decide), h 10 (by decide)]
  exact sumN_congr (fun c _ => h.worth _ _ _)
theorem sX0_drawerWorth {T : Nat × (Nat → Int32)} {d : Nat} {Q : mz_K} {X : mz_X} {g : mz_S} {b : Nat} (w : WfL g) (wb : WfB g) (hb : b < 12) (k : ∀ g', Sm8 g g' → WfL g' → Q (dworthC g b) g') : zC T (d + 3) 9 [mx_R 9, mx_I (b : Int)] g Q X := by
  have h1 := (wb.2.1 b hb).1
  have h : ∀ i : Nat, i ≤ 4 → ∀ g', Sm8 g g' → WfL g' → aX0_drawerWorth T (d + 2) Q X 5 [some (mx_R 9), some (mx_I (b : Int)), some (mx_J (sumN (fun c => worthC g (g 14 (b * 4 + c)) c (g 10 b)) i)), none, some (mx_I (i : Int))] [] g' (0, 0) := by
    refine upto ?_ (fun i hi ih => ?_)
    · intro g' s w'
      refine zX0_drawerWorth_5 ?_
      first | refine c_lt ?_ ?_ (fun h => ?_) (fun h => ?_) | refine c_le ?_ ?_ (fun h => ?_) (fun h => ?_) | refine c_eq ?_ ?_ (fun h => ?_) (fun h => ?_) | refine c_ne ?_ ?_ (fun h => ?_) (fun h => ?_)
      · omega
      · omega
      · exact k g' s w'
      · omega
    · intro g' s w'
      refine zX0_drawerWorth_5 ?_
      first | refine c_lt ?_ ?_ (fun h => ?_) (fun h => ?_) | refine c_le ?_ ?_ (fun h => ?_) (fun h => ?_) | refine c_eq ?_ ?_ (fun h => ?_) (fun h => ?_) | refine c_ne ?_ ?_ (fun h => ?_) (fun h => ?_)
      · omega
      · omega
      · omega
      · refine sX0_has (by omega) (by omega) ?_
        refine s_inN ?_ (fun ea => ?_)
        · omega
        try simp only [ea]
        clear ea
        have e1 : ((b : Int) * 4 + (i : Int)).toNat = b * 4 + i := by omega
        have hr := wb.2.2 (b * 4 + i) (by omega)
        rw [e1, s 14 (by decide), s 10 (by decide), w32_of (by omega) (by omega)]
        refine sX5_worthNow w' (by omega) (by omega) (by omega) (fun g2 s2 w2 => ?_)
        rw [s.worth]
        exact ih g2 (s.tr s2) w2
  exact zX0_drawerWorth (h 0 (by omega) g (Sm8.rf g) w)
theorem sX0_addBroker {T : Nat × (Nat → Int32)} {d : Nat} {Q : mz_K} {X : mz_X} {g : mz_S} {t kn : Int} (hm : 0 ≤ g 9 1 ∧ g 9 1 ≤ 12) (k : (g 9 1 = 12 → Q (-1) g) ∧ (g 9 1 < 12 → Q (g 9 1) (mx_up (mx_up (mx_up (mx_up g 10 (g 9 1).toNat t) 11 (g 9 1).toNat kn) 12 (g 9 1).toNat (g 1 0)) 9 1 (g 9 1 + 1)))) : zC T (d + 1) 1 [mx_R 9, mx_I t, mx_I kn] g Q X := by
  refine zX0_addBroker ?_
  first | refine c_lt ?_ ?_ (fun h => ?_) (fun h => ?_) | refine c_le ?_ ?_ (fun h => ?_) (fun h => ?_) | refine c_eq ?_ ?_ (fun h => ?_) (fun h => ?_) | refine c_ne ?_ ?_ (fun h => ?_) (fun h => ?_)
  · omega
  · omega
  · have k2 := k.2 h
    have e : mx_at (g 9 1) = (g 9 1).toNat := zat (by omega) (by omega)
    have i : mx_in (g 9 1) 12 := zin (by omega) (by omega) (by omega)
    rw [← e] at k2
    refine ⟨i, ?_⟩
    intro g1 e1
    have f1 : g1 9 1 = g 9 1 := by rw [e1, up_q (by decide)]
    rw [f1]
    refine ⟨i, ?_⟩
    intro g2 e2
    have f2 : g2 9 1 = g 9 1 := by rw [e2, up_q (by decide)]; exact f1
    have f3 : g2 1 0 = g 1 0 := by rw [e2, up_q (by decide), e1, up_q (by decide)]
    rw [f2, f3]
    refine ⟨i, ?_⟩
    intro g3 e3
    have f4 : g3 9 1 = g 9 1 := by rw [e3, up_q (by decide)]; exact f2
    rw [f4]
    intro g4 e4
    have f5 : g4 9 1 = g 9 1 + 1 := by rw [e4, up_s]
    rw [f5, e4, e3, e2, e1]
    have k3 : Q (g 9 1 + 1 - 1) (mx_up (mx_up (mx_up (mx_up g 10 (mx_at (g 9 1)) t) 11 (mx_at (g 9 1)) kn) 12 (mx_at (g 9 1)) (g 1 0)) 9 1 (g 9 1 + 1)) := by rw [show g 9 1 + 1 - 1 = g 9 1 by omega]; exact k2
    exact k3
  · exact k.1 (by omega)
