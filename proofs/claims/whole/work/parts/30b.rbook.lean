/-! the reference: brokers, entries, nets, debts, claims -/
def ReB (c r : mz_S) : Prop := r 99 10 = c 9 1 ∧ (∀ i, i < 12 → r 106 i = c 10 i ∧ r 107 i = c 11 i ∧ r 108 i = c 12 i ∧ ((i : Int) < c 9 1 → r 109 i = c 13 i)) ∧ (∀ i, i < 48 → w32 (r 110 i) = w32 (c 14 i))
theorem sX12_hasFallen {T : Nat × (Nat → Int32)} {d : Nat} {Q : mz_K} {X : mz_X} {g : mz_S} {c : mz_S} {b : Int} (w : WfB c) (h : ReB c g) (hb : 0 ≤ b ∧ b < c 9 1) (k : Q (pI (¬ c 13 b.toNat = -1)) g) : zC T (d + 1) 227 [mx_R 99, mx_I b] g Q X := by
  have h1 := w.1
  have e := (h.2.1 b.toNat (by omega)).2.2.2 (by omega)
  have hr := (w.2.1 b.toNat (by omega)).2.2.2
  refine zX12_hasFallen ?_
  refine s_in ?_ (fun ea => ?_)
  · omega
  try simp only [ea]
  clear ea
  rw [e]
  first | with_reducible refine c_lt ?_ ?_ (fun h => ?_) (fun h => ?_) | with_reducible refine c_le ?_ ?_ (fun h => ?_) (fun h => ?_) | with_reducible refine c_eq ?_ ?_ (fun h => ?_) (fun h => ?_) | with_reducible refine c_ne ?_ ?_ (fun h => ?_) (fun h => ?_)
  · omega
  · omega
  · refine zX12_hasFallen_15 ⟨zb0, ?_⟩
    rw [pI_f (fun z => z h)] at k; exact k
  · refine zX12_hasFallen_15 ⟨zb1, ?_⟩
    rw [pI_t h] at k; exact k
theorem w64_add {x n n' : Int} (h : w64 n = w64 n') : w64 (x + n) = w64 (x + n') := by
  rw [w64_bm, w64_bm] at h ⊢
  rw [← Int.add_bmod_bmod, h, Int.add_bmod_bmod]
theorem sX12_gets {T : Nat × (Nat → Int32)} {d : Nat} {Q : mz_K} {X : mz_X} {g : mz_S} {b co n n' o : Int} (hb : 0 ≤ b ∧ b < 12) (hc : 0 ≤ co ∧ co < 4) (ho : w32 (g 110 (b * 4 + co).toNat) = o) (hr : 0 ≤ o ∧ o ≤ 10000000) (hn : w64 n = w64 n') (hn' : -1000000000 ≤ n' ∧ n' ≤ 9000000000000000) (k : ∀ v, w32 v = min 10000000 (o + n') → Q 0 (mx_up g 110 (b * 4 + co).toNat v)) : zC T (d + 2) 228 [mx_R 99, mx_I b, mx_I co, mx_J n] g Q X := by
  have e : 4 * b + co = b * 4 + co := by omega
  have ew : w64 (o + n) = o + n' := by rw [w64_add hn]; exact w64_of (by omega) (by omega)
  refine zX12_gets ?_
  rw [e]
  refine s_in ?_ (fun ea => ?_)
  · omega
  try simp only [ea]
  clear ea
  rw [ho]
  have fin : ∀ v, w32 v = min 10000000 (o + n') → mx_in (b * 4 + co) 48 ∧ ∀ g1 : mz_S, g1 = mx_up g 110 (b * 4 + co).toNat v → Q 0 g1 := by
    intro v hv
    refine ⟨zin (by omega) (by omega) (by omega), ?_⟩
    rintro _ rfl
    exact k v hv
  refine zJ9_min_f86c9 ?_
  rw [lc_gt, ew, show w64 10000000 = 10000000 from by decide]
  refine ⟨fun z => zJ9_min_f86c9_11 (fin _ ?_), fun z => zJ9_min_f86c9_11 (fin _ ?_)⟩
  · rw [← w32_w64, ew, w32_of (by omega) (by omega)]; omega
  · rw [show w32 10000000 = 10000000 from by decide]; omega
/-- entries -/
def ReE (c r : mz_S) : Prop := r 99 16 = c 15 2 ∧ ∀ e, e < 400 → r 111 e = c 16 e ∧ r 112 e = c 17 e ∧ r 113 e = c 18 e ∧ r 114 e = c 19 e ∧ r 115 e = c 20 e ∧ r 116 e = c 21 e ∧ r 117 e = c 22 e
/-- the nets are what the entries say -/
def WfN (c : mz_S) : Prop := ∀ a b co : Nat, a < 12 → b < 12 → co < 4 → netC c a b co = sumN (partC c a b co) (c 15 2).toNat
theorem sX12_part {T : Nat × (Nat → Int32)} {d : Nat} {Q : mz_K} {X : mz_X} {g : mz_S} {c : mz_S} {e : Nat} {a b co : Int} (w : WfG c) (h : ReE c g) (he : e < 400) (ha : 0 ≤ a ∧ a < 12) (hb : 0 ≤ b ∧ b < 12) (hc : 0 ≤ co ∧ co < 4) (k : Q (partC c a b co e) g) : zC T (d + 1) 232 [mx_R 99, mx_I (e : Int), mx_I a, mx_I b, mx_I co] g Q X := by
  obtain ⟨-, w2, -, -⟩ := w
  have we := w2 e he
  have re := h.2 e he
  unfold partC at k
  refine zX12_part ?_
  refine s_inN ?_ (fun ea => ?_)
  · omega
  try simp only [ea]
  clear ea
  rw [re.2.2.2.2.1]
  first | with_reducible refine c_lt ?_ ?_ (fun h1 => ?_) (fun h1 => ?_) | with_reducible refine c_le ?_ ?_ (fun h1 => ?_) (fun h1 => ?_) | with_reducible refine c_eq ?_ ?_ (fun h1 => ?_) (fun h1 => ?_) | with_reducible refine c_ne ?_ ?_ (fun h1 => ?_) (fun h1 => ?_)
  · omega
  · omega
  · rw [if_pos h1] at k
    have other : ¬ (c 18 e = a ∧ c 19 e = b) → aX12_part T d Q X 43 [some (mx_R 99), some (mx_I (e : Int)), some (mx_I a), some (mx_I b), some (mx_I co)] [] g (0, 0) := by
      intro hno
      rw [if_neg hno] at k
      refine zX12_part_43 ?_
      refine s_inN ?_ (fun ea => ?_)
      · omega
      try simp only [ea]
      clear ea
      rw [re.2.2.1]
      first | with_reducible refine c_lt ?_ ?_ (fun h2 => ?_) (fun h2 => ?_) | with_reducible refine c_le ?_ ?_ (fun h2 => ?_) (fun h2 => ?_) | with_reducible refine c_eq ?_ ?_ (fun h2 => ?_) (fun h2 => ?_) | with_reducible refine c_ne ?_ ?_ (fun h2 => ?_) (fun h2 => ?_)
      · omega
      · omega
      · refine zX12_part_74 (zX12_part_75 ?_)
        rw [if_neg (fun z => h2 z.1)] at k; exact k
      · refine s_inN ?_ (fun ea => ?_)
        · omega
        try simp only [ea]
        clear ea
        rw [re.2.2.2.1]
        first | with_reducible refine c_lt ?_ ?_ (fun h3 => ?_) (fun h3 => ?_) | with_reducible refine c_le ?_ ?_ (fun h3 => ?_) (fun h3 => ?_) | with_reducible refine c_eq ?_ ?_ (fun h3 => ?_) (fun h3 => ?_) | with_reducible refine c_ne ?_ ?_ (fun h3 => ?_) (fun h3 => ?_)
        · omega
        · omega
        · refine zX12_part_74 (zX12_part_75 ?_)
          rw [if_neg (fun z => h3 z.2)] at k; exact k
        · refine s_inN ?_ (fun ea => ?_)
          · omega
          try simp only [ea]
          clear ea
          refine zX12_part_75 ?_
          rw [if_pos ⟨h2, h3⟩] at k
          rw [re.2.2.2.2.2.1, w32_of (by omega) (by omega)]; exact k
    refine s_inN ?_ (fun ea => ?_)
    · omega
    try simp only [ea]
    clear ea
    rw [re.2.2.1]
    first | with_reducible refine c_lt ?_ ?_ (fun h2 => ?_) (fun h2 => ?_) | with_reducible refine c_le ?_ ?_ (fun h2 => ?_) (fun h2 => ?_) | with_reducible refine c_eq ?_ ?_ (fun h2 => ?_) (fun h2 => ?_) | with_reducible refine c_ne ?_ ?_ (fun h2 => ?_) (fun h2 => ?_)
    · omega
    · omega
    · exact other (fun z => h2 z.1)
    · refine s_inN ?_ (fun ea => ?_)
      · omega
      try simp only [ea]
      clear ea
      rw [re.2.2.2.1]
      first | with_reducible refine c_lt ?_ ?_ (fun h3 => ?_) (fun h3 => ?_) | with_reducible refine c_le ?_ ?_ (fun h3 => ?_) (fun h3 => ?_) | with_reducible refine c_eq ?_ ?_ (fun h3 => ?_) (fun h3 => ?_) | with_reducible refine c_ne ?_ ?_ (fun h3 => ?_) (fun h3 => ?_)
      · omega
      · omega
      · exact other (fun z => h3 z.2)
      · refine s_inN ?_ (fun ea => ?_)
        · omega
        try simp only [ea]
        clear ea
        refine zX12_part_75 ?_
        rw [if_pos ⟨h2, h3⟩] at k
        rw [re.2.2.2.2.2.1, w32_of (by omega) (by omega)]; exact k
  · rw [if_neg h1] at k; exact k
theorem sX12_net {T : Nat × (Nat → Int32)} {d : Nat} {Q : mz_K} {X : mz_X} {g : mz_S} {c : mz_S} {a b co : Nat} (w : WfG c) (wn : WfN c) (h : ReE c g) (ha : a < 12) (hb : b < 12) (hc : co < 4) (k : Q (netC c a b co) g) : zC T (d + 2) 233 [mx_R 99, mx_I (a : Int), mx_I (b : Int), mx_I (co : Int)] g Q X := by
  rw [wn a b co ha hb hc] at k
  have w1 := w.1
  have hh : ∀ i : Nat, i ≤ (c 15 2).toNat → aX12_net T (d + 1) Q X 6 [some (mx_R 99), some (mx_I (a : Int)), some (mx_I (b : Int)), some (mx_I (co : Int)), some (mx_J (sumN (partC c a b co) i)), none, some (mx_I (i : Int))] [] g (0, 0) := by
    refine upto ?_ (fun i hi ih => ?_)
    · refine zX12_net_6 ?_
      rw [h.1]
      first | with_reducible refine c_lt ?_ ?_ (fun hi2 => ?_) (fun hi2 => ?_) | with_reducible refine c_le ?_ ?_ (fun hi2 => ?_) (fun hi2 => ?_) | with_reducible refine c_eq ?_ ?_ (fun hi2 => ?_) (fun hi2 => ?_) | with_reducible refine c_ne ?_ ?_ (fun hi2 => ?_) (fun hi2 => ?_)
      · omega
      · omega
      · exact k
      · omega
    · refine zX12_net_6 ?_
      rw [h.1]
      first | with_reducible refine c_lt ?_ ?_ (fun hi2 => ?_) (fun hi2 => ?_) | with_reducible refine c_le ?_ ?_ (fun hi2 => ?_) (fun hi2 => ?_) | with_reducible refine c_eq ?_ ?_ (fun hi2 => ?_) (fun hi2 => ?_) | with_reducible refine c_ne ?_ ?_ (fun hi2 => ?_) (fun hi2 => ?_)
      · omega
      · omega
      · omega
      · exact sX12_part w h (by omega) (by omega) (by omega) (by omega) ih
  exact zX12_net (hh 0 (by omega))
theorem sX12_debt {T : Nat × (Nat → Int32)} {d : Nat} {Q : mz_K} {X : mz_X} {g : mz_S} {c : mz_S} {a b : Nat} {t : Int} (wl : WfL0 c) (w : WfG c) (wn : WfN c) (hl : ReL c g) (h : ReE c g) (ha : a < 12) (hb : b < 12) (ht : 0 ≤ t ∧ t < 8) (k : Q (debtC c a b t) g) : zC T (d + 4) 234 [mx_R 99, mx_I (a : Int), mx_I (b : Int), mx_I t] g Q X := by
  have hh : ∀ i : Nat, i ≤ 4 → aX12_debt T (d + 3) Q X 6 [some (mx_R 99), some (mx_I (a : Int)), some (mx_I (b : Int)), some (mx_I t), some (mx_J (sumN (fun x => worthC c (netC c a b x) x t) i)), none, some (mx_I (i : Int))] [] g (0, 0) := by
    refine upto ?_ (fun i hi ih => ?_)
    · refine zX12_debt_6 ?_
      first | with_reducible refine c_lt ?_ ?_ (fun hi2 => ?_) (fun hi2 => ?_) | with_reducible refine c_le ?_ ?_ (fun hi2 => ?_) (fun hi2 => ?_) | with_reducible refine c_eq ?_ ?_ (fun hi2 => ?_) (fun hi2 => ?_) | with_reducible refine c_ne ?_ ?_ (fun hi2 => ?_) (fun hi2 => ?_)
      · omega
      · omega
      · exact k
      · omega
    · refine zX12_debt_6 ?_
      first | with_reducible refine c_lt ?_ ?_ (fun hi2 => ?_) (fun hi2 => ?_) | with_reducible refine c_le ?_ ?_ (fun hi2 => ?_) (fun hi2 => ?_) | with_reducible refine c_eq ?_ ?_ (fun hi2 => ?_) (fun hi2 => ?_) | with_reducible refine c_ne ?_ ?_ (fun hi2 => ?_) (fun hi2 => ?_)
      · omega
      · omega
      · omega
      · refine sX12_net (d := d + 1) w wn h ha hb hi ?_
        have hr := w.2.2.1 ((a * 12 + b) * 4 + i) (by omega)
        rw [hl.1]
        exact sX12_worth wl hl (by unfold netC; omega) (by omega) ht ih
  exact zX12_debt (hh 0 (by omega))
theorem sX12_claimOf {T : Nat × (Nat → Int32)} {d : Nat} {Q : mz_K} {X : mz_X} {g : mz_S} {c : mz_S} {a b : Nat} (wl : WfL0 c) (wb : WfB c) (w : WfG c) (wn : WfN c) (hl : ReL c g) (hb' : ReB c g) (h : ReE c g) (ha : a < 12) (hb : b < 12) (k : Q (claimC c a b) g) : zC T (d + 5) 235 [mx_R 99, mx_I (a : Int), mx_I (b : Int)] g Q X := by
  have h1 := (wb.2.1 a ha).1
  have e := (hb'.2.1 a ha).1
  have := debtC_bnd wl w (t := c 10 a) ha hb
  refine zX12_claimOf ?_
  refine s_inN ?_ (fun ea => ?_)
  · omega
  try simp only [ea]
  clear ea
  rw [e]
  refine sX12_debt wl w wn hl h ha hb h1 ?_
  exact sJ9_maxL (by omega) (by omega) k
theorem sX12_estateOf {T : Nat × (Nat → Int32)} {d : Nat} {Q : mz_K} {X : mz_X} {g : mz_S} {c : mz_S} {b : Nat} (wl : WfL0 c) (wb : WfB c) (hl : ReL c g) (hb' : ReB c g) (hb : b < 12) (k : Q (dworthC c b) g) : zC T (d + 4) 310 [mx_R 99, mx_I (b : Int)] g Q X := by
  have h1 := (wb.2.1 b hb).1
  have hh : ∀ i : Nat, i ≤ 4 → aX12_estateOf T (d + 3) Q X 5 [some (mx_R 99), some (mx_I (b : Int)), some (mx_J (sumN (fun x => worthC c (c 14 (b * 4 + x)) x (c 10 b)) i)), none, some (mx_I (i : Int))] [] g (0, 0) := by
    refine upto ?_ (fun i hi ih => ?_)
    · refine zX12_estateOf_5 ?_
      first | with_reducible refine c_lt ?_ ?_ (fun hi2 => ?_) (fun hi2 => ?_) | with_reducible refine c_le ?_ ?_ (fun hi2 => ?_) (fun hi2 => ?_) | with_reducible refine c_eq ?_ ?_ (fun hi2 => ?_) (fun hi2 => ?_) | with_reducible refine c_ne ?_ ?_ (fun hi2 => ?_) (fun hi2 => ?_)
      · omega
      · omega
      · exact k
      · omega
    · refine zX12_estateOf_5 ?_
      first | with_reducible refine c_lt ?_ ?_ (fun hi2 => ?_) (fun hi2 => ?_) | with_reducible refine c_le ?_ ?_ (fun hi2 => ?_) (fun hi2 => ?_) | with_reducible refine c_eq ?_ ?_ (fun hi2 => ?_) (fun hi2 => ?_) | with_reducible refine c_ne ?_ ?_ (fun hi2 => ?_) (fun hi2 => ?_)
      · omega
      · omega
      · omega
      · have hr := wb.2.2 (b * 4 + i) (by omega)
        rw [show 4 * (b : Int) + (i : Int) = ((b * 4 + i : Nat) : Int) by omega]
        refine s_inN ?_ (fun ea => ?_)
        · omega
        try simp only [ea]
        clear ea
        refine s_inN ?_ (fun ea => ?_)
        · omega
        try simp only [ea]
        clear ea
        rw [hb'.2.2 (b * 4 + i) (by omega), (hb'.2.1 b hb).1, hl.1, w32_of (by omega) (by omega)]
        exact sX12_worth wl hl (by omega) (by omega) h1 ih
  exact zX12_estateOf (hh 0 (by omega))
/-- an entry more -/
def entS (g : mz_S) (t a b co n s : Int) : mz_S := mx_up (mx_up (mx_up (mx_up (mx_up (mx_up (mx_up (mx_up (mx_up g 111 (g 99 16).toNat (g 99 1)) 112 (g 99 16).toNat t) 113 (g 99 16).toNat a) 114 (g 99 16).toNat b) 115 (g 99 16).toNat co) 116 (g 99 16).toNat n) 117 (g 99 16).toNat s) 118 (g 99 16).toNat 0) 99 16 (g 99 16 + 1)
theorem sX12_enter {T : Nat × (Nat → Int32)} {d : Nat} {Q : mz_K} {X : mz_X} {g : mz_S} {t a b co n s : Int} (hm : 0 ≤ g 99 16 ∧ g 99 16 < 400) (k : Q 0 (entS g t a b co n s)) : zC T (d + 1) 231 [mx_R 99, mx_I t, mx_I a, mx_I b, mx_I co, mx_J n, mx_I s] g Q X := by
  have e : mx_at (g 99 16) = (g 99 16).toNat := zat (by omega) (by omega)
  have i : mx_in (g 99 16) 400 := zin (by omega) (by omega) (by omega)
  refine zX12_enter ⟨i, ?_⟩
  intro g1 e1
  have f1 : g1 99 16 = g 99 16 := by rw [e1, up_q (by decide)]
  rw [f1]
  refine ⟨i, ?_⟩
  intro g2 e2
  have f2 : g2 99 16 = g 99 16 := by rw [e2, up_q (by decide)]; exact f1
  rw [f2]
  refine ⟨i, ?_⟩
  intro g3 e3
  have f3 : g3 99 16 = g 99 16 := by rw [e3, up_q (by decide)]; exact f2
  rw [f3]
  refine ⟨i, ?_⟩
  intro g4 e4
  have f4 : g4 99 16 = g 99 16 := by rw [e4, up_q (by decide)]; exact f3
  rw [f4]
  refine ⟨i, ?_⟩
  intro g5 e5
  have f5 : g5 99 16 = g 99 16 := by rw [e5, up_q (by decide)]; exact f4
  rw [f5]
  refine ⟨i, ?_⟩
  intro g6 e6
  have f6 : g6 99 16 = g 99 16 := by rw [e6, up_q (by decide)]; exact f5
  rw [f6]
  refine ⟨i, ?_⟩
  intro g7 e7
  have f7 : g7 99 16 = g 99 16 := by rw [e7, up_q (by decide)]; exact f6
  rw [f7]
  refine ⟨i, ?_⟩
  intro g8 e8
  have f8 : g8 99 16 = g 99 16 := by rw [e8, up_q (by decide)]; exact f7
  rw [f8]
  intro g9 e9
  have fin : g9 = entS g t a b co n s := by
    rw [e9, e8, e7, e6, e5, e4, e3, e2, e1, e]
    rfl
  rw [fin]; exact k
