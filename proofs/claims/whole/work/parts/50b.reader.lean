/-! a reader's state and its small members -/
theorem toI32 {n : Nat} (_h : n < 2147483648) : (Int32.ofInt (n : Int)).toBitVec = BitVec.ofNat 32 n := by
  show BitVec.ofInt 32 (n : Int) = _
  exact BitVec.ofInt_natCast 32 n
theorem i32_of {v : Int32} {n : Nat} (h : n < 2147483648) (e : v.toBitVec = BitVec.ofNat 32 n) : v.toInt = n := by
  rw [← Int32.toInt_toBitVec, e, BitVec.toInt_eq_toNat_of_lt (by rw [BitVec.toNat_ofNat]; omega), BitVec.toNat_ofNat]; omega
theorem ishl8 {n : Nat} (h : n < 4194304) : mx_ishl (n : Int) 8 = ((256 * n : Nat) : Int) := by
  unfold mx_ishl
  refine i32_of (by omega) ?_
  rw [Int32.toBitVec_shiftLeft]
  show (Int32.ofInt (n : Int)).toBitVec <<< ((Int32.ofInt 8 &&& 31).toBitVec.smod 32).toNat = _
  rw [show ((Int32.ofInt 8 &&& 31).toBitVec.smod 32).toNat = 8 from by decide, toI32 (by omega)]
  apply BitVec.eq_of_toNat_eq
  rw [BitVec.toNat_shiftLeft, BitVec.toNat_ofNat, BitVec.toNat_ofNat, Nat.shiftLeft_eq]
  omega
theorem ior_sh {k n : Nat} (hk : k < 256) (hn : n < 4194304) : mx_ior (k : Int) (mx_ishl (n : Int) 8) = ((k + 256 * n : Nat) : Int) := by
  rw [ishl8 hn]
  unfold mx_ior
  refine i32_of (by omega) ?_
  rw [Int32.toBitVec_or, toI32 (by omega), toI32 (by omega)]
  apply BitVec.eq_of_toNat_eq
  rw [BitVec.toNat_or, BitVec.toNat_ofNat, BitVec.toNat_ofNat, BitVec.toNat_ofNat, Nat.mod_eq_of_lt (by omega), Nat.mod_eq_of_lt (by omega), Nat.mod_eq_of_lt (by omega), Nat.or_comm]
  have := Nat.shiftLeft_add_eq_or_of_lt (b := k) (i := 8) (by omega) n
  rw [Nat.shiftLeft_eq] at this
  rw [show 256 * n = n * 2 ^ 8 by omega, ← this]; omega
theorem iand255 {n : Nat} (h : n < 2147483648) : mx_iand (n : Int) 255 = ((n % 256 : Nat) : Int) := by
  unfold mx_iand
  refine i32_of (by omega) ?_
  rw [Int32.toBitVec_and, toI32 h, show (Int32.ofInt 255).toBitVec = BitVec.ofNat 32 255 from rfl]
  apply BitVec.eq_of_toNat_eq
  rw [BitVec.toNat_and, BitVec.toNat_ofNat, BitVec.toNat_ofNat, BitVec.toNat_ofNat, Nat.mod_eq_of_lt (a := n) (by omega)]
  rw [show (255 % 2 ^ 32) = 2 ^ 8 - 1 from rfl, Nat.and_two_pow_sub_one_eq_mod]; omega
theorem ishr8 {n : Nat} (h : n < 2147483648) : mx_ishr (n : Int) 8 = ((n / 256 : Nat) : Int) := by
  unfold mx_ishr
  refine i32_of (by omega) ?_
  rw [Int32.toBitVec_shiftRight]
  show (Int32.ofInt (n : Int)).toBitVec.sshiftRight ((Int32.ofInt 8 &&& 31).toBitVec.smod 32).toNat = _
  rw [show ((Int32.ofInt 8 &&& 31).toBitVec.smod 32).toNat = 8 from by decide, toI32 h]
  rw [BitVec.sshiftRight_eq_of_msb_false (by rw [BitVec.msb_eq_decide]; rw [BitVec.toNat_ofNat]; simp; omega)]
  apply BitVec.eq_of_toNat_eq
  rw [BitVec.toNat_ushiftRight, BitVec.toNat_ofNat, BitVec.toNat_ofNat, Nat.shiftRight_eq_div_pow]; omega
/-- no more steps than tokens -/
def pL (k : Nat) (s s' : pS) : Prop := s'.2.2.2.length + s.1 + k ≤ s.2.2.2.length + s'.1
theorem pL.tr {k k' : Nat} {s s1 s2 : pS} (h : pL k s s1) (h2 : pL k' s1 s2) : pL (k + k') s s2 := by unfold pL at *; omega
theorem pL.fail {t : pT} {w : Int} {s : pS} : pL 0 s (pfail t w s) := by
  unfold pfail pL
  split <;> exact Nat.le_refl _
theorem pL.adv {s : pS} : pL 1 s (padv s) := by unfold padv pL; show s.2.2.2.length + s.1 + 1 ≤ s.2.2.2.length + (s.1 + 1); omega
theorem pL.emit {k : Nat} {s s' : pS} {x y : Int} (h : pL (k + 1) s s') : pL k s (pemit x y s') := by
  unfold pemit
  split
  · unfold pL at *
    show (s'.2.2.2 ++ [(x, y)]).length + s.1 + k ≤ s.2.2.2.length + s'.1
    rw [List.length_append]
    show s'.2.2.2.length + 1 + s.1 + k ≤ _
    omega
  · unfold pL at *; omega
theorem pL.weak {k : Nat} {s s' : pS} (h : pL k s s') : pL 0 s s' := by unfold pL at *; omega
theorem pL.take {t : pT} {k : Int} {s : pS} : pL 0 s (ptake t k s) := by
  unfold ptake
  split
  · exact pL.adv.weak
  · exact pL.fail
theorem pL.patch {k i : Nat} {s s' : pS} (h : pL k s s') : pL k s (ppatch i s') := by
  unfold pL at *
  show (s'.2.2.2.set i _).length + s.1 + k ≤ _
  rw [List.length_set]; exact h
theorem pL.emadv {s : pS} {x y : Int} : pL 0 s (padv (pemit x y s)) := by
  unfold pemit
  split
  · unfold padv pL
    show (s.2.2.2 ++ [(x, y)]).length + s.1 + 0 ≤ s.2.2.2.length + (s.1 + 1)
    rw [List.length_append]
    show s.2.2.2.length + 1 + s.1 + 0 ≤ _
    omega
  · exact pL.adv.weak
theorem prs_L (t : pT) (f : Nat) : ∀ sel, sel ≤ 9 → ∀ n s, pL 0 s (prs t f sel n s) := by
  induction f with
  | zero => intro sel _ n s; exact Nat.le_refl _
  | succ f ih =>
    have rf : ∀ s : pS, pL 0 s s := fun s => Nat.le_refl _
    have J := fun sel (h : sel ≤ 9) n s => ih sel h n s
    refine sel10 ?_ ?_ ?_ ?_ ?_ ?_ ?_ ?_ ?_ ?_ <;> intro n s
    · rw [prs_0]
      split
      · exact pL.emadv
      · split
        · exact pL.emadv
        · split
          · split
            · exact pL.fail
            · exact ((pL.adv.tr (J 4 (by decide) _ _)).tr pL.take).weak
          · exact pL.fail
    · rw [prs_1]
      split
      · exact ((pL.adv.tr (J 0 (by decide) n _)).emit).tr (J 1 (by decide) n _)
      · exact rf s
    · rw [prs_2]; exact (J 0 (by decide) _ _).tr (J 1 (by decide) _ _)
    · rw [prs_3]
      split
      · exact ((pL.adv.tr (J 2 (by decide) n _)).emit).tr (J 3 (by decide) n _)
      · exact rf s
    · rw [prs_4]; exact (J 2 (by decide) _ _).tr (J 3 (by decide) _ _)
    · rw [prs_5]
      split
      · exact (((pL.adv (s := s)).emit (k := 0)).tr (J 6 (by decide) n _)).patch.tr (J 5 (by decide) n _)
      · exact rf s
    · rw [prs_6]
      split
      · split
        · exact pL.fail
        · exact (pL.adv.tr (J 6 (by decide) _ _)).emit
      · split
        · split
          · exact pL.fail
          · exact ((pL.adv.tr (J 9 (by decide) _ _)).tr pL.take).weak
        · split
          · exact (((J 4 (by decide) n s).tr pL.adv).tr (J 4 (by decide) _ _)).emit
          · exact (J 4 (by decide) n s).tr pL.fail
    · rw [prs_7]; exact (J 6 (by decide) _ _).tr (J 5 (by decide) _ _)
    · rw [prs_8]
      split
      · exact (((pL.adv (s := s)).emit (k := 0)).tr (J 7 (by decide) n _)).patch.tr (J 8 (by decide) n _)
      · exact rf s
    · rw [prs_9]; exact (J 7 (by decide) _ _).tr (J 8 (by decide) _ _)
def tokC (c : mz_S) (N : Nat) : pT := (fun i => if i < N then c 28 i else 155, fun i => if i < N then c 29 i else 0, fun i => if i < N then c 30 i else 0)
def TkW (c : mz_S) (N : Nat) : Prop := (1 ≤ N ∧ N ≤ 401) ∧ c 26 5 = N ∧ (∀ i, i < N → (0 ≤ c 28 i ∧ c 28 i ≤ 156) ∧ (0 ≤ c 30 i ∧ c 30 i ≤ 999999)) ∧ (c 28 (N - 1) = 155 ∨ c 28 (N - 1) = 156)
theorem TkW.pN {c : mz_S} {N : Nat} (h : TkW c N) : pN (tokC c N) N := by
  intro i hi
  show (if i < N then c 28 i else 155) = 155 ∨ (if i < N then c 28 i else 155) = 156
  split
  · have : i = N - 1 := by omega
    rw [this]; exact h.2.2.2
  · exact Or.inl rfl
def encG (b : Nat) (e : Int × Int) : Int := e.1 + 256 * (if e.1 = 150 ∨ e.1 = 151 then (if e.2 = 0 then 0 else b + e.2) else e.2)
def RdC (c : mz_S) (N b : Nat) (s : pS) (g : mz_S) : Prop :=
  Ch [31, 38] [] c g ∧ (∀ p, p ≠ 1 → p ≠ 2 → p ≠ 3 → p ≠ 11 → g 31 p = c 31 p) ∧ g 31 1 = s.1 ∧ g 31 2 = s.2.1 ∧ g 31 3 = s.2.2.1 ∧ g 31 11 = b + s.2.2.2.length
  ∧ (∀ i, i < b → g 38 i = c 38 i) ∧ (∀ i, i < s.2.2.2.length → g 38 (b + i) = encG b (s.2.2.2.getD i (0, 0))) ∧ (0 ≤ s.2.1 ∧ s.2.1 ≤ 5) ∧ s.1 < N
theorem pk_rng {c : mz_S} {N : Nat} (hW : TkW c N) {s : pS} (hs : s.1 < N) : 0 ≤ pk (tokC c N) s ∧ pk (tokC c N) s ≤ 156 := by
  unfold pk
  split
  · show 0 ≤ (if s.1 < N then c 28 s.1 else 155) ∧ (if s.1 < N then c 28 s.1 else 155) ≤ 156
    rw [if_pos hs]; exact (hW.2.2.1 s.1 hs).1
  · omega
theorem sX7_kind {T : Nat × (Nat → Int32)} {d : Nat} {Q : mz_K} {X : mz_X} {g : mz_S} {c : mz_S} {N b : Nat} {s : pS} (hW : TkW c N) (h : RdC c N b s g) (k : Q (pk (tokC c N) s) g) : zC T (d + 1) 94 [mx_R 31] g Q X := by
  obtain ⟨h1, h2, h3, h4, h5, h6, h7, h8, h9, h10⟩ := h
  obtain ⟨w1, w2, w3, w4⟩ := hW
  have e26 : g 26 5 = N := by rw [h1.1 26 (by decide) (by decide)]; exact w2
  have e28 : g 28 = c 28 := h1.1 28 (by decide) (by decide)
  unfold pk at k
  refine zX7_kind ?_
  rw [h3, h4, e26]
  first | with_reducible refine c_lt ?_ ?_ (fun z1 => ?_) (fun z1 => ?_) | with_reducible refine c_le ?_ ?_ (fun z1 => ?_) (fun z1 => ?_) | with_reducible refine c_eq ?_ ?_ (fun z1 => ?_) (fun z1 => ?_) | with_reducible refine c_ne ?_ ?_ (fun z1 => ?_) (fun z1 => ?_)
  · omega
  · omega
  · rw [if_neg z1] at k
    exact zX7_kind_36 (zX7_kind_39 k)
  · rw [if_pos z1] at k
    have e : (tokC c N).1 s.1 = c 28 s.1 := by
      show (if s.1 < N then c 28 s.1 else 155) = _
      rw [if_pos h10]
    rw [e] at k
    first | with_reducible refine c_lt ?_ ?_ (fun z2 => ?_) (fun z2 => ?_) | with_reducible refine c_le ?_ ?_ (fun z2 => ?_) (fun z2 => ?_) | with_reducible refine c_eq ?_ ?_ (fun z2 => ?_) (fun z2 => ?_) | with_reducible refine c_ne ?_ ?_ (fun z2 => ?_) (fun z2 => ?_)
    · omega
    · omega
    · omega
    · refine s_inN ?_ (fun ea => ?_)
      · omega
      try simp only [ea]
      clear ea
      rw [e28]
      exact zX7_kind_39 k
theorem RdC.fail {c : mz_S} {N b : Nat} {s : pS} {g : mz_S} {w : Int} (h : RdC c N b s g) (h0 : s.2.1 = 0) (hw : 1 ≤ w ∧ w ≤ 5) {v : Int} (ev : v = if (tokC c N).1 s.1 = 156 then 1 else w) : RdC c N b (pfail (tokC c N) w s) (mx_up (mx_up g 31 2 v) 31 3 (c 29 s.1)) := by
  obtain ⟨h1, h2, h3, h4, h5, h6, h7, h8, h9, h10⟩ := h
  unfold pfail
  rw [if_pos h0]
  have e31 : ∀ p, mx_up (mx_up g 31 2 v) 31 3 (c 29 s.1) 31 p = if p = 3 then c 29 s.1 else if p = 2 then v else g 31 p := by
    intro p
    simp only [up_at, if_true]; rfl
  have e38 : mx_up (mx_up g 31 2 v) 31 3 (c 29 s.1) 38 = g 38 := by simp [up_at]
  refine ⟨(h1.up (by decide) (by decide)).up (by decide) (by decide), fun p a1 a2 a3 a4 => ?_, ?_, ?_, ?_, ?_, ?_, ?_, ?_, h10⟩
  · rw [e31, if_neg a3, if_neg a2]; exact h2 p a1 a2 a3 a4
  · rw [e31]; exact h3
  · rw [e31]; exact ev
  · rw [e31]; exact (if_pos h10).symm
  · rw [e31]; exact h6
  · rw [e38]; exact h7
  · rw [e38]; exact h8
  · show 0 ≤ (if (tokC c N).1 s.1 = 156 then 1 else w) ∧ (if (tokC c N).1 s.1 = 156 then 1 else w) ≤ 5
    split <;> omega
theorem sX7_fail {T : Nat × (Nat → Int32)} {d : Nat} {Q : mz_K} {X : mz_X} {g : mz_S} {c : mz_S} {N b : Nat} {s : pS} {w : Int} (hW : TkW c N) (h : RdC c N b s g) (hw : 1 ≤ w ∧ w ≤ 5) (k : ∀ g', RdC c N b (pfail (tokC c N) w s) g' → Q 0 g') : zC T (d + 1) 95 [mx_R 31, mx_I w] g Q X := by
  have h' := h
  obtain ⟨h1, h2, h3, h4, h5, h6, h7, h8, h9, h10⟩ := h
  have e26 : g 26 5 = N := by rw [h1.1 26 (by decide) (by decide)]; exact hW.2.1
  have e28 : g 28 = c 28 := h1.1 28 (by decide) (by decide)
  have e29 : g 29 = c 29 := h1.1 29 (by decide) (by decide)
  have w1 := hW.1
  have wk := (hW.2.2.1 s.1 h10).1
  have ek : (tokC c N).1 s.1 = c 28 s.1 := by
    show (if s.1 < N then c 28 s.1 else 155) = _
    rw [if_pos h10]
  refine zX7_fail ?_
  rw [h3, h4, e26, e28]
  first | with_reducible refine c_lt ?_ ?_ (fun z1 => ?_) (fun z1 => ?_) | with_reducible refine c_le ?_ ?_ (fun z1 => ?_) (fun z1 => ?_) | with_reducible refine c_eq ?_ ?_ (fun z1 => ?_) (fun z1 => ?_) | with_reducible refine c_ne ?_ ?_ (fun z1 => ?_) (fun z1 => ?_)
  · omega
  · omega
  · rw [pfail_bad z1] at k
    exact zX7_fail_64 (k g h')
  · have fin : ∀ v, v = (if (tokC c N).1 s.1 = 156 then 1 else w) → aX7_fail T d Q X 45 [some (mx_R 31), some (mx_I w)] [mx_I v, mx_R 31] g (0, 0) := by
      intro v hv
      refine zX7_fail_45 ?_
      intro g1 e1
      have f1 : g1 31 1 = s.1 := by rw [e1, up_i (by decide)]; exact h3
      have f2 : g1 29 = c 29 := by rw [e1, up_at, if_neg (by decide)]; exact e29
      rw [f1, f2]
      refine s_inN ?_ (fun ea => ?_)
      · omega
      try simp only [ea]
      clear ea
      rintro _ rfl
      refine zX7_fail_64 (k _ ?_)
      rw [e1]
      exact h'.fail z1 hw hv
    first | with_reducible refine c_lt ?_ ?_ (fun z2 => ?_) (fun z2 => ?_) | with_reducible refine c_le ?_ ?_ (fun z2 => ?_) (fun z2 => ?_) | with_reducible refine c_eq ?_ ?_ (fun z2 => ?_) (fun z2 => ?_) | with_reducible refine c_ne ?_ ?_ (fun z2 => ?_) (fun z2 => ?_)
    · omega
    · omega
    · omega
    · refine s_inN ?_ (fun ea => ?_)
      · omega
      try simp only [ea]
      clear ea
      first | with_reducible refine c_lt ?_ ?_ (fun z3 => ?_) (fun z3 => ?_) | with_reducible refine c_le ?_ ?_ (fun z3 => ?_) (fun z3 => ?_) | with_reducible refine c_eq ?_ ?_ (fun z3 => ?_) (fun z3 => ?_) | with_reducible refine c_ne ?_ ?_ (fun z3 => ?_) (fun z3 => ?_)
      · omega
      · omega
      · exact fin _ (by rw [ek, if_neg z3])
      · exact fin _ (by rw [ek, if_pos z3])
theorem RdC.adv {c : mz_S} {N b : Nat} {s : pS} {g : mz_S} (h : RdC c N b s g) (hs : s.1 + 1 < N) : RdC c N b (padv s) (mx_up g 31 1 (g 31 1 + 1)) := by
  obtain ⟨h1, h2, h3, h4, h5, h6, h7, h8, h9, h10⟩ := h
  have e31 : ∀ p, p ≠ 1 → mx_up g 31 1 (g 31 1 + 1) 31 p = g 31 p := fun p hp => up_i hp
  have e38 : mx_up g 31 1 (g 31 1 + 1) 38 = g 38 := by simp [up_at]
  refine ⟨h1.up (by decide) (by decide), fun p a1 a2 a3 a4 => ?_, ?_, ?_, ?_, ?_, ?_, ?_, h9, hs⟩
  · rw [e31 p a1]; exact h2 p a1 a2 a3 a4
  · rw [up_s, h3]; show (s.1 : Int) + 1 = ((s.1 + 1 : Nat) : Int); omega
  · rw [e31 _ (by decide)]; exact h4
  · rw [e31 _ (by decide)]; exact h5
  · rw [e31 _ (by decide)]; exact h6
  · rw [e38]; exact h7
  · rw [e38]; exact h8
