/-! Ledger -/
def WfG (g : mz_S) : Prop := (0 ≤ g 15 2 ∧ g 15 2 ≤ 400) ∧ (∀ k, k < 400 → (0 ≤ g 16 k ∧ g 16 k ≤ 999) ∧ (0 ≤ g 17 k ∧ g 17 k < 8) ∧ (0 ≤ g 18 k ∧ g 18 k < 12) ∧ (0 ≤ g 19 k ∧ g 19 k < 12) ∧ (0 ≤ g 20 k ∧ g 20 k < 4) ∧ (-2000000000 ≤ g 21 k ∧ g 21 k ≤ 2000000000)) ∧ (∀ i, i < 576 → -2000000000 ≤ g 23 i ∧ g 23 i ≤ 2000000000) ∧ (∀ i, i < 32 → 0 ≤ g 24 i ∧ g 24 i ≤ 10000)
theorem Sm8.wfG {g g' : mz_S} (h : Sm8 g g') (w : WfG g) : WfG g' := by
  unfold WfG
  rw [h 15 (by decide), h 16 (by decide), h 17 (by decide), h 18 (by decide), h 19 (by decide), h 20 (by decide), h 21 (by decide), h 23 (by decide), h 24 (by decide)]
  exact w
theorem sX6_hasRoom {T : Nat × (Nat → Int32)} {d : Nat} {Q : mz_K} {X : mz_X} {g : mz_S} {m : Int} (h1 : 0 ≤ g 15 2 ∧ g 15 2 ≤ 400) (hm : 0 ≤ m ∧ m ≤ 1000) (k : Q (pI (g 15 2 + m ≤ 400)) g) : zC T (d + 1) 82 [mx_R 15, mx_I m] g Q X := by
  refine zX6_hasRoom ?_
  first | refine c_lt ?_ ?_ (fun h => ?_) (fun h => ?_) | refine c_le ?_ ?_ (fun h => ?_) (fun h => ?_) | refine c_eq ?_ ?_ (fun h => ?_) (fun h => ?_) | refine c_ne ?_ ?_ (fun h => ?_) (fun h => ?_)
  · omega
  · omega
  · refine zX6_hasRoom_17 ⟨zb0, ?_⟩
    rw [pI_f (by omega)] at k; exact k
  · refine zX6_hasRoom_17 ⟨zb1, ?_⟩
    rw [pI_t (by omega)] at k; exact k
def netC (g : mz_S) (a b c : Nat) : Int := g 23 ((a * 12 + b) * 4 + c)
theorem sX6_net {T : Nat × (Nat → Int32)} {d : Nat} {Q : mz_K} {X : mz_X} {g : mz_S} {a b c : Nat} (ha : a < 12) (hb : b < 12) (hc : c < 4) (k : Q (netC g a b c) g) : zC T (d + 2) 86 [mx_R 15, mx_I (a : Int), mx_I (b : Int), mx_I (c : Int)] g Q X := by
  refine zX6_net (zX6_netPlace ?_)
  refine s_inE ((a * 12 + b) * 4 + c) ?_ ?_ (fun ea => ?_)
  · omega
  · omega
  try simp only [ea]
  clear ea
  exact k
def recS (g : mz_S) (t a b c n s : Int) : mz_S := mx_up (mx_up (mx_up (mx_up (mx_up (mx_up (mx_up (mx_up (mx_up (mx_up g 16 (g 15 2).toNat (g 1 0)) 17 (g 15 2).toNat t) 18 (g 15 2).toNat a) 19 (g 15 2).toNat b) 20 (g 15 2).toNat c) 21 (g 15 2).toNat n) 22 (g 15 2).toNat s) 15 2 (g 15 2 + 1)) 23 ((a * 12 + b) * 4 + c).toNat (g 23 ((a * 12 + b) * 4 + c).toNat + n)) 23 ((b * 12 + a) * 4 + c).toNat ((if a = b then g 23 ((a * 12 + b) * 4 + c).toNat + n else g 23 ((b * 12 + a) * 4 + c).toNat) - n)
theorem s_up {g : mz_S} {q i : Nat} {v : Int} {P : mz_S → Prop} (k : ∀ g1, g1 = mx_up g q i v → P g1) : let g1 := mx_up g q i v; P g1 := k _ rfl
theorem sX6_record {T : Nat × (Nat → Int32)} {d : Nat} {Q : mz_K} {X : mz_X} {g : mz_S} {t a b c n s : Int} (hm : 0 ≤ g 15 2 ∧ g 15 2 < 400) (ha : 0 ≤ a ∧ a < 12) (hb : 0 ≤ b ∧ b < 12) (hc : 0 ≤ c ∧ c < 4) (hn : R32 n) (k : Q 0 (recS g t a b c n s)) : zC T (d + 2) 83 [mx_R 15, mx_I t, mx_I a, mx_I b, mx_I c, mx_I n, mx_I s] g Q X := by
  refine zX6_record ?_
  first | refine c_lt ?_ ?_ (fun h => ?_) (fun h => ?_) | refine c_le ?_ ?_ (fun h => ?_) (fun h => ?_) | refine c_eq ?_ ?_ (fun h => ?_) (fun h => ?_) | refine c_ne ?_ ?_ (fun h => ?_) (fun h => ?_)
  · omega
  · omega
  · have e : mx_at (g 15 2) = (g 15 2).toNat := zat (by omega) (by omega)
    have i : mx_in (g 15 2) 400 := zin (by omega) (by omega) (by omega)
    refine ⟨i, ?_⟩
    intro g1 e1
    rw [show g1 15 2 = g 15 2 by rw [e1, up_q (by decide)]]
    have f1 : g1 15 2 = g 15 2 := by rw [e1, up_q (by decide)]
    refine ⟨i, ?_⟩
    intro g2 e2
    rw [show g2 15 2 = g 15 2 by rw [e2, up_q (by decide)]; exact f1]
    have f2 : g2 15 2 = g 15 2 := by rw [e2, up_q (by decide)]; exact f1
    refine ⟨i, ?_⟩
    intro g3 e3
    rw [show g3 15 2 = g 15 2 by rw [e3, up_q (by decide)]; exact f2]
    have f3 : g3 15 2 = g 15 2 := by rw [e3, up_q (by decide)]; exact f2
    refine ⟨i, ?_⟩
    intro g4 e4
    rw [show g4 15 2 = g 15 2 by rw [e4, up_q (by decide)]; exact f3]
    have f4 : g4 15 2 = g 15 2 := by rw [e4, up_q (by decide)]; exact f3
    refine ⟨i, ?_⟩
    intro g5 e5
    rw [show g5 15 2 = g 15 2 by rw [e5, up_q (by decide)]; exact f4]
    have f5 : g5 15 2 = g 15 2 := by rw [e5, up_q (by decide)]; exact f4
    refine ⟨i, ?_⟩
    intro g6 e6
    rw [show g6 15 2 = g 15 2 by rw [e6, up_q (by decide)]; exact f5]
    have f6 : g6 15 2 = g 15 2 := by rw [e6, up_q (by decide)]; exact f5
    refine ⟨i, ?_⟩
    intro g7 e7
    rw [show g7 15 2 = g 15 2 by rw [e7, up_q (by decide)]; exact f6]
    have f7 : g7 15 2 = g 15 2 := by rw [e7, up_q (by decide)]; exact f6
    intro g8 e8
    refine zX6_netPlace ?_
    have i1 : mx_in ((a * 12 + b) * 4 + c) 576 := zin (by omega) (by omega) (by omega)
    have m1 : mx_at ((a * 12 + b) * 4 + c) = ((a * 12 + b) * 4 + c).toNat := zat (by omega) (by omega)
    have i2 : mx_in ((b * 12 + a) * 4 + c) 576 := zin (by omega) (by omega) (by omega)
    have m2 : mx_at ((b * 12 + a) * 4 + c) = ((b * 12 + a) * 4 + c).toNat := zat (by omega) (by omega)
    refine ⟨i1, i1, ?_⟩
    intro g9 e9
    refine zX6_netPlace ⟨i2, i2, ?_⟩
    intro g10 e10
    have n8 : g8 23 = g 23 := by
      funext j
      rw [e8, up_q (by decide), e7, up_q (by decide), e6, up_q (by decide), e5, up_q (by decide), e4, up_q (by decide), e3, up_q (by decide), e2, up_q (by decide), e1, up_q (by decide)]
    have v : g9 23 (mx_at ((b * 12 + a) * 4 + c)) = (if a = b then g 23 ((a * 12 + b) * 4 + c).toNat + n else g 23 ((b * 12 + a) * 4 + c).toNat) := by
      rw [e9, n8, m1, m2, w32_of hn.1 hn.2]
      by_cases hab : a = b
      · subst hab; rw [if_pos rfl, up_s]
      · rw [if_neg hab, up_i (by omega), n8]
    have fin : g10 = recS g t a b c n s := by
      rw [e10, v, e9, n8, m1, m2, w32_of hn.1 hn.2, e8, e7, e6, e5, e4, e3, e2, e1, e]
      rfl
    rw [fin]; exact k
  · omega
/-- an entry's part in what a owes b, as a town hears it on a day -/
def partC (g : mz_S) (a b c : Int) (e : Nat) : Int := if g 20 e = c then (if g 18 e = a ∧ g 19 e = b then g 21 e else if g 18 e = b ∧ g 19 e = a then - g 21 e else 0) else 0
def heardC (g : mz_S) (t dy : Int) (e : Nat) : Prop := ¬ g 3 (g 17 e * 8 + t).toNat = -1 ∧ g 16 e + g 3 (g 17 e * 8 + t).toNat ≤ dy
theorem sX6_netHeard {T : Nat × (Nat → Int32)} {d : Nat} {Q : mz_K} {X : mz_X} {g : mz_S} {a b c t dy : Int} (wl : WfL0 g) (w : WfG g) (ha : 0 ≤ a ∧ a < 12) (hb : 0 ≤ b ∧ b < 12) (hc : 0 ≤ c ∧ c < 4) (ht : 0 ≤ t ∧ t < 8) (hd : 0 ≤ dy ∧ dy ≤ 999) (f : Nat → Int) (hf : ∀ e, e < 400 → (heardC g t dy e → f e = partC g a b c e) ∧ (¬ heardC g t dy e → f e = 0)) (k : Q (sumN f (g 15 2).toNat) g) : zC T (d + 3) 87 [mx_R 15, mx_I a, mx_I b, mx_I c, mx_I t, mx_I dy] g Q X := by
  have h : ∀ i : Nat, i ≤ (g 15 2).toNat → aX6_netHeard T (d + 2) Q X 6 [some (mx_R 15), some (mx_I a), some (mx_I b), some (mx_I c), some (mx_I t), some (mx_I dy), some (mx_J (sumN f i)), none, some (mx_I (i : Int))] [] g (0, 0) := by
    have hm := w.1
    refine upto ?_ (fun i hi ih => ?_)
    · refine zX6_netHeard_6 ?_
      first | refine c_lt ?_ ?_ (fun h => ?_) (fun h => ?_) | refine c_le ?_ ?_ (fun h => ?_) (fun h => ?_) | refine c_eq ?_ ?_ (fun h => ?_) (fun h => ?_) | refine c_ne ?_ ?_ (fun h => ?_) (fun h => ?_)
      · omega
      · omega
      · exact k
      · omega
    · have hw := w.2.1 i (by omega)
      have hfi := hf i (by omega)
      have hl := wl.2.2.2.1 (g 17 i * 8 + t).toNat (by omega)
      have fin : ∀ v, f i = v → aX6_netHeard T (d + 2) Q X 130 [some (mx_R 15), some (mx_I a), some (mx_I b), some (mx_I c), some (mx_I t), some (mx_I dy), some (mx_J (sumN f i + v)), none, some (mx_I (i : Int))] [] g (0, 0) := by
        intro v hv
        refine zX6_netHeard_130 ?_
        rw [← hv]
        exact ih
      have zero : f i = 0 → aX6_netHeard T (d + 2) Q X 130 [some (mx_R 15), some (mx_I a), some (mx_I b), some (mx_I c), some (mx_I t), some (mx_I dy), some (mx_J (sumN f i)), none, some (mx_I (i : Int))] [] g (0, 0) := by
        intro hv
        have := fin 0 hv
        rw [Int.add_zero] at this
        exact this
      unfold heardC partC at hfi
      refine zX6_netHeard_6 ?_
      first | refine c_lt ?_ ?_ (fun h => ?_) (fun h => ?_) | refine c_le ?_ ?_ (fun h => ?_) (fun h => ?_) | refine c_eq ?_ ?_ (fun h => ?_) (fun h => ?_) | refine c_ne ?_ ?_ (fun h => ?_) (fun h => ?_)
      · omega
      · omega
      · omega
      · refine s_inN ?_ (fun ea => ?_)
        · omega
        try simp only [ea]
        clear ea
        first | refine c_lt ?_ ?_ (fun h1 => ?_) (fun h1 => ?_) | refine c_le ?_ ?_ (fun h1 => ?_) (fun h1 => ?_) | refine c_eq ?_ ?_ (fun h1 => ?_) (fun h1 => ?_) | refine c_ne ?_ ?_ (fun h1 => ?_) (fun h1 => ?_)
        · omega
        · omega
        · refine zero ?_
          rcases Decidable.em (¬ g 3 (g 17 i * 8 + t).toNat = -1 ∧ g 16 i + g 3 (g 17 i * 8 + t).toNat ≤ dy) with z | z
          · rw [hfi.1 z, if_neg h1]
          · exact hfi.2 z
        · refine s_inN ?_ (fun ea => ?_)
          · omega
          try simp only [ea]
          clear ea
          refine s_inN ?_ (fun ea => ?_)
          · omega
          try simp only [ea]
          clear ea
          refine sX5_isHeard (by omega) (by omega) rfl (by omega) (by omega) (by omega) ?_
          rw [if_pos h1] at hfi
          first | refine b_eq (fun h2 => ?_) (fun h2 => ?_) | refine b_ne (fun h2 => ?_) (fun h2 => ?_)
          · have hv := hfi.1 h2
            have other : (¬ (g 18 i = a ∧ g 19 i = b)) → aX6_netHeard T (d + 2) Q X 95 [some (mx_R 15), some (mx_I a), some (mx_I b), some (mx_I c), some (mx_I t), some (mx_I dy), some (mx_J (sumN f i)), none, some (mx_I (i : Int))] [] g (0, 0) := by
              intro hno
              rw [if_neg hno] at hv
              refine zX6_netHeard_95 ?_
              refine s_inN ?_ (fun ea => ?_)
              · omega
              try simp only [ea]
              clear ea
              first | refine c_lt ?_ ?_ (fun h3 => ?_) (fun h3 => ?_) | refine c_le ?_ ?_ (fun h3 => ?_) (fun h3 => ?_) | refine c_eq ?_ ?_ (fun h3 => ?_) (fun h3 => ?_) | refine c_ne ?_ ?_ (fun h3 => ?_) (fun h3 => ?_)
              · omega
              · omega
              · exact zero (by rw [hv, if_neg (fun z => h3 z.1)])
              · refine s_inN ?_ (fun ea => ?_)
                · omega
                try simp only [ea]
                clear ea
                first | refine c_lt ?_ ?_ (fun h4 => ?_) (fun h4 => ?_) | refine c_le ?_ ?_ (fun h4 => ?_) (fun h4 => ?_) | refine c_eq ?_ ?_ (fun h4 => ?_) (fun h4 => ?_) | refine c_ne ?_ ?_ (fun h4 => ?_) (fun h4 => ?_)
                · omega
                · omega
                · exact zero (by rw [hv, if_neg (fun z => h4 z.2)])
                · refine s_inN ?_ (fun ea => ?_)
                  · omega
                  try simp only [ea]
                  clear ea
                  rw [if_pos ⟨h3, h4⟩] at hv
                  have := fin _ hv
                  rw [w32_of (by omega) (by omega), Int.sub_eq_add_neg]
                  exact this
            refine s_inN ?_ (fun ea => ?_)
            · omega
            try simp only [ea]
            clear ea
            first | refine c_lt ?_ ?_ (fun h3 => ?_) (fun h3 => ?_) | refine c_le ?_ ?_ (fun h3 => ?_) (fun h3 => ?_) | refine c_eq ?_ ?_ (fun h3 => ?_) (fun h3 => ?_) | refine c_ne ?_ ?_ (fun h3 => ?_) (fun h3 => ?_)
            · omega
            · omega
            · exact other (fun z => h3 z.1)
            · refine s_inN ?_ (fun ea => ?_)
              · omega
              try simp only [ea]
              clear ea
              first | refine c_lt ?_ ?_ (fun h4 => ?_) (fun h4 => ?_) | refine c_le ?_ ?_ (fun h4 => ?_) (fun h4 => ?_) | refine c_eq ?_ ?_ (fun h4 => ?_) (fun h4 => ?_) | refine c_ne ?_ ?_ (fun h4 => ?_) (fun h4 => ?_)
              · omega
              · omega
              · exact other (fun z => h4 z.2)
              · refine s_inN ?_ (fun ea => ?_)
                · omega
                try simp only [ea]
                clear ea
                rw [if_pos ⟨h3, h4⟩] at hv
                rw [w32_of (by omega) (by omega)]
                exact fin _ hv
          · exact zero (hfi.2 h2)
  exact zX6_netHeard (h 0 (by omega))
/-- what a owes b, as a town reckons it today -/
def debtC (g : mz_S) (a b : Nat) (t : Int) : Int := sumN (fun c => worthC g (netC g a b c) c t) 4
theorem Sm8.debt {g g' : mz_S} (h : Sm8 g g') (a b : Nat) (t : Int) : debtC g' a b t = debtC g a b t := by
  unfold debtC netC
  rw [h 23 (by decide)]
  exact sumN_congr (fun c _ => h.worth _ _ _)
theorem sX6_netWorth {T : Nat × (Nat → Int32)} {d : Nat} {Q : mz_K} {X : mz_X} {g : mz_S} {a b : Nat} {t : Int} (wl : WfL g) (w : WfG g) (ha : a < 12) (hb : b < 12) (ht : 0 ≤ t ∧ t < 8) (k : ∀ g', Sm8 g g' → WfL g' → Q (debtC g a b t) g') : zC T (d + 3) 88 [mx_R 15, mx_I (a : Int), mx_I (b : Int), mx_I t] g Q X := by
  have h : ∀ i : Nat, i ≤ 4 → ∀ g', Sm8 g g' → WfL g' → aX6_netWorth T (d + 2) Q X 6 [some (mx_R 15), some (mx_I (a : Int)), some (mx_I (b : Int)), some (mx_I t), some (mx_J (sumN (fun c => worthC g (netC g a b c) c t) i)), none, some (mx_I (i : Int))] [] g' (0, 0) := by
    refine upto ?_ (fun i hi ih => ?_)
    · intro g' s w'
      refine zX6_netWorth_6 ?_
      first | refine c_lt ?_ ?_ (fun h => ?_) (fun h => ?_) | refine c_le ?_ ?_ (fun h => ?_) (fun h => ?_) | refine c_eq ?_ ?_ (fun h => ?_) (fun h => ?_) | refine c_ne ?_ ?_ (fun h => ?_) (fun h => ?_)
      · omega
      · omega
      · exact k g' s w'
      · omega
    · intro g' s w'
      refine zX6_netWorth_6 ?_
      first | refine c_lt ?_ ?_ (fun h => ?_) (fun h => ?_) | refine c_le ?_ ?_ (fun h => ?_) (fun h => ?_) | refine c_eq ?_ ?_ (fun h => ?_) (fun h => ?_) | refine c_ne ?_ ?_ (fun h => ?_) (fun h => ?_)
      · omega
      · omega
      · omega
      · refine sX6_net ha hb hi ?_
        have hr := w.2.2.1 ((a * 12 + b) * 4 + i) (by omega)
        have e : netC g' a b i = netC g a b i := by unfold netC; rw [s 23 (by decide)]
        rw [e]
        refine sX5_worthNow w' (by unfold netC; omega) (by omega) ht (fun g2 s2 w2 => ?_)
        rw [s.worth]
        exact ih g2 (s.tr s2) w2
  exact zX6_netWorth (h 0 (by omega) g (Sm8.rf g) wl)
