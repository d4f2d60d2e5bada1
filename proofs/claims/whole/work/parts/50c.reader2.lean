/-! emit, leadHere, take, opens -/
theorem sX7_take {T : Nat × (Nat → Int32)} {d : Nat} {Q : mz_K} {X : mz_X} {g : mz_S} {c : mz_S} {N b : Nat} {s : pS} {w : Int} (hW : TkW c N) (h : RdC c N b s g) (hw : 0 ≤ w ∧ w ≤ 154) (k : ∀ g', RdC c N b (ptake (tokC c N) w s) g' → Q 0 g') : zC T (d + 2) 96 [mx_R 31, mx_I w] g Q X := by
  have hr := pk_rng hW h.2.2.2.2.2.2.2.2.2
  refine zX7_take (sX7_kind hW h ?_)
  unfold ptake at k
  first | with_reducible refine c_lt ?_ ?_ (fun z => ?_) (fun z => ?_) | with_reducible refine c_le ?_ ?_ (fun z => ?_) (fun z => ?_) | with_reducible refine c_eq ?_ ?_ (fun z => ?_) (fun z => ?_) | with_reducible refine c_ne ?_ ?_ (fun z => ?_) (fun z => ?_)
  · omega
  · omega
  · rw [if_neg z] at k
    exact sX7_fail hW h (by omega) (fun g' hg' => zX7_take_26 (k g' hg'))
  · rw [if_pos z] at k
    rintro _ rfl
    exact zX7_take_26 (k _ (h.adv (pk_n hW.pN (s := s) (by omega)).2.1))
theorem RdC.emit {c : mz_S} {N b : Nat} {s : pS} {g : mz_S} {k v : Int} (h : RdC c N b s g) (h0 : s.2.1 = 0) (hk : 0 ≤ k ∧ k ≤ 155) (hv : 0 ≤ v ∧ v ≤ 999999) (hg : (k = 150 ∨ k = 151) → v = 0) : RdC c N b (pemit k v s) (mx_up (mx_up g 38 (b + s.2.2.2.length) (k + 256 * v)) 31 11 ((b : Int) + s.2.2.2.length + 1)) := by
  obtain ⟨h1, h2, h3, h4, h5, h6, h7, h8, h9, h10⟩ := h
  unfold pemit
  rw [if_pos h0]
  obtain ⟨g1, eg1⟩ : ∃ g1, g1 = mx_up (mx_up g 38 (b + s.2.2.2.length) (k + 256 * v)) 31 11 ((b : Int) + s.2.2.2.length + 1) := ⟨_, rfl⟩
  rw [← eg1]
  have e31 : ∀ p, p ≠ 11 → g1 31 p = g 31 p := by intro p hp; rw [eg1, up_i hp, up_q (by decide)]
  have e38 : g1 38 = lset (g 38) (b + s.2.2.2.length) (k + 256 * v) := by rw [eg1]; simp [up_at]
  refine ⟨?_, fun p a1 a2 a3 a4 => ?_, ?_, ?_, ?_, ?_, ?_, ?_, h9, h10⟩
  · rw [eg1]; exact (h1.up (by decide) (by decide)).up (by decide) (by decide)
  · rw [e31 p a4]; exact h2 p a1 a2 a3 a4
  · rw [e31 _ (by decide)]; exact h3
  · rw [e31 _ (by decide)]; exact h4
  · rw [e31 _ (by decide)]; exact h5
  · rw [eg1, up_s]
    show _ = (b : Int) + ((s.2.2.2 ++ [(k, v)]).length : Nat)
    rw [List.length_append]; show _ = (b : Int) + ((s.2.2.2.length + 1 : Nat) : Int); omega
  · intro i hi
    rw [e38, lset_n (by omega)]; exact h7 i hi
  · intro i hi
    show g1 38 (b + i) = encG b ((s.2.2.2 ++ [(k, v)]).getD i (0, 0))
    have hi' : i < s.2.2.2.length + 1 := by
      have : i < (s.2.2.2 ++ [(k, v)]).length := hi
      rw [List.length_append] at this; exact this
    rw [e38]
    rcases Nat.lt_or_ge i s.2.2.2.length with z | z
    · rw [lset_n (by omega), h8 i z, List.getD_eq_getElem?_getD, List.getD_eq_getElem?_getD, List.getElem?_append_left z]
    · have : i = s.2.2.2.length := by omega
      subst this
      rw [lset_s, List.getD_eq_getElem?_getD, List.getElem?_append_right (Nat.le_refl _), Nat.sub_self]
      show k + 256 * v = k + 256 * (if k = 150 ∨ k = 151 then (if v = 0 then 0 else (b : Int) + v) else v)
      split
      · next z2 => rw [hg z2]; rfl
      · rfl
theorem sX7_emit {T : Nat × (Nat → Int32)} {d : Nat} {Q : mz_K} {X : mz_X} {g : mz_S} {c : mz_S} {N b : Nat} {s : pS} {k v : Int} (h : RdC c N b s g) (hb : s.2.1 = 0 → b + s.2.2.2.length < 2400) (hk : 0 ≤ k ∧ k ≤ 155) (hv : 0 ≤ v ∧ v ≤ 999999) (hg : (k = 150 ∨ k = 151) → v = 0) (kk : ∀ g', RdC c N b (pemit k v s) g' → Q (if s.2.1 = 0 then ((b + s.2.2.2.length : Nat) : Int) else -1) g') : zC T (d + 1) 109 [mx_R 31, mx_I k, mx_I v] g Q X := by
  have h' := h
  obtain ⟨h1, h2, h3, h4, h5, h6, h7, h8, h9, h10⟩ := h
  refine zX7_emit ?_
  rw [h4, h6]
  first | with_reducible refine c_lt ?_ ?_ (fun z1 => ?_) (fun z1 => ?_) | with_reducible refine c_le ?_ ?_ (fun z1 => ?_) (fun z1 => ?_) | with_reducible refine c_eq ?_ ?_ (fun z1 => ?_) (fun z1 => ?_) | with_reducible refine c_ne ?_ ?_ (fun z1 => ?_) (fun z1 => ?_)
  · omega
  · omega
  · rw [pemit_bad z1] at kk
    rw [if_neg z1] at kk
    exact zX7_emit_19 (kk g h')
  · have hb := hb z1
    rw [if_pos z1] at kk
    first | with_reducible refine c_lt ?_ ?_ (fun z2 => ?_) (fun z2 => ?_) | with_reducible refine c_le ?_ ?_ (fun z2 => ?_) (fun z2 => ?_) | with_reducible refine c_eq ?_ ?_ (fun z2 => ?_) (fun z2 => ?_) | with_reducible refine c_ne ?_ ?_ (fun z2 => ?_) (fun z2 => ?_)
    · omega
    · omega
    · obtain ⟨k', rfl⟩ := Int.eq_ofNat_of_zero_le hk.1
      obtain ⟨v', rfl⟩ := Int.eq_ofNat_of_zero_le hv.1
      rw [ior_sh (by omega) (by omega)]
      refine s_inE (b + s.2.2.2.length) ?_ ?_ (fun ea => ?_)
      · omega
      · omega
      try simp only [ea]
      clear ea
      intro g1 e1
      have f1 : g1 31 11 = (b : Int) + s.2.2.2.length := by rw [e1, up_q (by decide)]; exact h6
      rw [f1]
      intro g2 e2
      have f2 : g2 31 11 = (b : Int) + s.2.2.2.length + 1 := by rw [e2, up_s]
      rw [f2, show (b : Int) + s.2.2.2.length + 1 - 1 = ((b + s.2.2.2.length : Nat) : Int) by omega]
      refine kk g2 ?_
      rw [e2, e1]
      have := h'.emit (k := (k' : Int)) (v := (v' : Int)) z1 hk hv hg
      rw [show ((k' + 256 * v' : Nat) : Int) = (k' : Int) + 256 * (v' : Int) by omega]
      exact this
    · omega
theorem sX7_leadHere {T : Nat × (Nat → Int32)} {d : Nat} {Q : mz_K} {X : mz_X} {g : mz_S} {c : mz_S} {N b i : Nat} {s : pS} {kk : Int} (h : RdC c N b s g) (hi : i < s.2.2.2.length) (hb : b + s.2.2.2.length ≤ 2400) (e : s.2.2.2.getD i (0, 0) = (kk, 0)) (hk : kk = 150 ∨ kk = 151) (k : ∀ g', RdC c N b (ppatch i s) g' → Q 0 g') : zC T (d + 1) 110 [mx_R 31, mx_I ((b + i : Nat) : Int)] g Q X := by
  have h' := h
  obtain ⟨h1, h2, h3, h4, h5, h6, h7, h8, h9, h10⟩ := h
  refine zX7_leadHere ?_
  have eg : g 38 (b + i) = kk := by
    rw [h8 i hi, e]
    show kk + 256 * (if kk = 150 ∨ kk = 151 then (if (0 : Int) = 0 then 0 else (b : Int) + 0) else 0) = kk
    rw [if_pos hk, if_pos rfl]; omega
  first | with_reducible refine c_lt ?_ ?_ (fun z => ?_) (fun z => ?_) | with_reducible refine c_le ?_ ?_ (fun z => ?_) (fun z => ?_) | with_reducible refine c_eq ?_ ?_ (fun z => ?_) (fun z => ?_) | with_reducible refine c_ne ?_ ?_ (fun z => ?_) (fun z => ?_)
  · omega
  · omega
  · omega
  · refine s_inN ?_ (fun ea => ?_)
    · omega
    try simp only [ea]
    clear ea
    refine s_inN ?_ (fun ea => ?_)
    · omega
    try simp only [ea]
    clear ea
    rw [eg, h6]
    obtain ⟨k', rfl⟩ : ∃ k' : Nat, kk = (k' : Int) := ⟨kk.toNat, by omega⟩
    rw [show (b : Int) + (s.2.2.2.length : Int) = ((b + s.2.2.2.length : Nat) : Int) by omega, ior_sh (by omega) (by omega)]
    intro g1 eg1
    refine zX7_leadHere_21 (k g1 ?_)
    have e31 : g1 31 = g 31 := by rw [eg1]; simp [up_at]
    have e38 : g1 38 = lset (g 38) (b + i) ((k' + 256 * (b + s.2.2.2.length) : Nat) : Int) := by rw [eg1]; simp [up_at]
    refine ⟨?_, ?_, ?_, ?_, ?_, ?_, ?_, ?_, h9, h10⟩
    · rw [eg1]; exact h1.up (by decide) (by decide)
    · rw [e31]; exact h2
    · rw [e31]; exact h3
    · rw [e31]; exact h4
    · rw [e31]; exact h5
    · rw [e31, h6]
      show _ = (b : Int) + ((s.2.2.2.set i _).length : Nat)
      rw [List.length_set]
    · intro j hj
      rw [e38, lset_n (by omega)]; exact h7 j hj
    · intro j hj
      have hj' : j < s.2.2.2.length := by
        have : j < (s.2.2.2.set i ((s.2.2.2.getD i (0, 0)).1, (s.2.2.2.length : Int))).length := hj
        rw [List.length_set] at this; exact this
      show g1 38 (b + j) = encG b ((s.2.2.2.set i ((s.2.2.2.getD i (0, 0)).1, (s.2.2.2.length : Int))).getD j (0, 0))
      rw [e38]
      by_cases z2 : j = i
      · subst z2
        rw [lset_s, List.getD_eq_getElem?_getD, List.getElem?_set_self (by omega), e]
        show _ = (k' : Int) + 256 * (if (k' : Int) = 150 ∨ (k' : Int) = 151 then (if (s.2.2.2.length : Int) = 0 then 0 else (b : Int) + s.2.2.2.length) else (s.2.2.2.length : Int))
        rw [if_pos hk, if_neg (by omega)]; omega
      · rw [lset_n (by omega), h8 j hj', List.getD_eq_getElem?_getD, List.getD_eq_getElem?_getD, List.getElem?_set_ne (fun z => z2 z.symm)]
theorem sX7_opens {T : Nat × (Nat → Int32)} {d : Nat} {Q : mz_K} {X : mz_X} {g : mz_S} {c : mz_S} {N b n : Nat} {s : pS} (hW : TkW c N) (h : RdC c N b s g) (hn : n ≤ 5) (hs : s.1 + 1 < N) (k1 : 5 ≤ n → ∀ g', RdC c N b (pfail (tokC c N) 5 s) g' → Q 0 g') (k2 : n < 5 → ∀ g', RdC c N b (padv s) g' → Q 1 g') : zC T (d + 2) 105 [mx_R 31, mx_I (n : Int)] g Q X := by
  refine zX7_opens ?_
  first | with_reducible refine c_lt ?_ ?_ (fun z => ?_) (fun z => ?_) | with_reducible refine c_le ?_ ?_ (fun z => ?_) (fun z => ?_) | with_reducible refine c_eq ?_ ?_ (fun z => ?_) (fun z => ?_) | with_reducible refine c_ne ?_ ?_ (fun z => ?_) (fun z => ?_)
  · omega
  · omega
  · rintro _ rfl
    exact ⟨zb1, k2 (by omega) _ (h.adv hs)⟩
  · exact sX7_fail hW h (by omega) (fun g' hg' => ⟨zb0, k1 (by omega) g' hg'⟩)
