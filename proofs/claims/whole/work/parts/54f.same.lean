/-! the same bytes give the same tokens; the place of a fault -/
theorem rnE_congr {p : Int → Bool} {b b' : Nat → Int} {n : Nat} (h : ∀ i, i < n → b i = b' i) : ∀ i, i ≤ n → rnE p b n i = rnE p b' n i := by
  refine upto (P := fun i => rnE p b n i = rnE p b' n i) ?_ (fun i hi ih => ?_)
  · rw [rnE_e (fun z => absurd z.1 (Nat.lt_irrefl _)), rnE_e (fun z => absurd z.1 (Nat.lt_irrefl _))]
  · by_cases hp : p (b i) = true
    · rw [rnE_s hi hp, rnE_s hi (by rw [← h i hi]; exact hp)]; exact ih
    · rw [rnE_e (fun z => hp z.2), rnE_e (fun z => hp (by rw [h i hi]; exact z.2))]
theorem wdE_congr {b b' : Nat → Int} {n q e : Nat} {w : List Int} (h : ∀ i, i < n → b i = b' i) (he : e ≤ n) (hq : q ≤ e) : wdE b q e w = wdE b' q e w := by
  have : wdE b q e w = true ↔ wdE b' q e w = true := by
    rw [wdE_iff, wdE_iff]
    constructor
    · rintro ⟨a, c⟩; exact ⟨a, fun i hi => by rw [← h _ (by omega)]; exact c i hi⟩
    · rintro ⟨a, c⟩; exact ⟨a, fun i hi => by rw [h _ (by omega)]; exact c i hi⟩
  cases h1 : wdE b q e w <;> cases h2 : wdE b' q e w
  · rfl
  · rw [h1, h2] at this; exact absurd (this.mpr rfl) (by decide)
  · rw [h1, h2] at this; exact absurd (this.mp rfl) (by decide)
  · rfl
theorem wkL_congr {b b' : Nat → Int} {n q e : Nat} (h : ∀ i, i < n → b i = b' i) (he : e ≤ n) (hq : q ≤ e) (ws : List (List Int)) : ∀ k, wkL b q e ws k = wkL b' q e ws k := by
  induction ws with
  | nil => intro k; rfl
  | cons w r ih =>
    intro k
    show (if wdE b q e w = true then k else wkL b q e r (k + 1)) = (if wdE b' q e w = true then k else wkL b' q e r (k + 1))
    rw [wdE_congr h he hq, ih]
theorem vlF_congr {b b' : Nat → Int} {n q : Nat} (h : ∀ i, i < n → b i = b' i) : ∀ m, q + m ≤ n → vlF b q m = vlF b' q m := by
  intro m
  induction m with
  | zero => intro _; rfl
  | succ m ih =>
    intro hm
    show vlF b q m * 10 + b (q + m) - 48 = vlF b' q m * 10 + b' (q + m) - 48
    rw [ih (by omega), h _ (by omega)]
theorem lexT_congr {b b' : Nat → Int} {n p : Nat} (h : ∀ i, i < n → b i = b' i) (hp : p ≤ n) : lexT b n p = lexT b' n p := by
  rw [lexT_q hp, lexT_q (b := b') hp, ← rnE_congr (p := cBl) h p hp]
  have Q0 := rnE_p (p := cBl) (b := b) (n := n) p hp
  generalize rnE cBl b n p = q at Q0
  rcases Nat.lt_or_ge q n with z | z
  · have hb : ¬ cBl (b q) = true := fun y => Q0.2.2.2 ⟨z, y⟩
    have L := rnE_p (p := cLt) (b := b) (n := n) (q + 1) (by omega)
    have D := rnE_p (p := cDg) (b := b) (n := n) (q + 1) (by omega)
    rw [lexT_at z hb, lexT_at (b := b') z (by rw [← h q z]; exact hb), ← h q z, ← rnE_congr (p := cLt) h (q + 1) (by omega), ← rnE_congr (p := cDg) h (q + 1) (by omega), ← wkL_congr h L.2.1 (by omega) wds 128, ← vlF_congr h (rnE cDg b n (q + 1) - q) (by omega)]
  · rw [lexT_end z Q0.2.1, lexT_end z Q0.2.1]
theorem tk_congr {b b' : Nat → Int} {n : Nat} (h : ∀ i, i < n → b i = b' i) : ∀ i p, p ≤ n → tk b n i p = tk b' n i p := by
  intro i
  induction i with
  | zero => intro p hp; exact lexT_congr h hp
  | succ i ih =>
    intro p hp
    show tk b n i (lexT b n p).2.2.1 = tk b' n i (lexT b' n p).2.2.1
    rw [← lexT_congr h hp]
    exact ih _ (lexT_ok (b := b) hp).2.2.2.1
/-- where no fault is, none was, and its place is as it was -/
def pZ (s s' : pS) : Prop := s'.2.1 = 0 → s.2.1 = 0 ∧ s'.2.2.1 = s.2.2.1
theorem pZ.rf (s : pS) : pZ s s := fun z => ⟨z, rfl⟩
theorem pZ.tr {s s1 s2 : pS} (h : pZ s s1) (h2 : pZ s1 s2) : pZ s s2 := fun z => by
  have a := h2 z
  have b := h a.1
  exact ⟨b.1, by rw [a.2, b.2]⟩
theorem pZ.fail {t : pT} {w : Int} {s : pS} (hw : ¬ w = 0) : pZ s (pfail t w s) := fun z => absurd z (ft_fail hw)
theorem pZ.adv {s : pS} : pZ s (padv s) := fun z => ⟨z, rfl⟩
theorem pZ.emit {k v : Int} {s : pS} : pZ s (pemit k v s) := fun z => by rw [ft_emit] at z; refine ⟨z, ?_⟩; unfold pemit; rw [if_pos z]
theorem pZ.patch {i : Nat} {s : pS} : pZ s (ppatch i s) := fun z => ⟨z, rfl⟩
theorem pZ.take {t : pT} {k : Int} {s : pS} : pZ s (ptake t k s) := by
  unfold ptake
  split
  · exact pZ.adv
  · exact pZ.fail (by decide)
theorem pZ.num {t : pT} {s : pS} : pZ s (pnum t s).2 := by
  unfold pnum
  split
  · split
    · exact pZ.adv
    · exact pZ.fail (by decide)
  · exact pZ.fail (by decide)
theorem pZ.cho {t : pT} {a b c : Int} {s : pS} : pZ s (pcho t a b c s).2 := by
  unfold pcho
  split
  · exact pZ.adv
  · split
    · exact pZ.adv
    · split
      · exact pZ.adv
      · exact pZ.fail (by decide)
theorem prs_Z (t : pT) (f : Nat) : ∀ sel, sel ≤ 9 → ∀ n s, pZ s (prs t f sel n s) := by
  induction f with
  | zero => intro sel _ n s; exact pZ.rf s
  | succ f ih =>
    have J := fun sel (h : sel ≤ 9) n s => ih sel h n s
    refine sel10 ?_ ?_ ?_ ?_ ?_ ?_ ?_ ?_ ?_ ?_ <;> intro n s
    · rw [prs_0]
      split
      · exact pZ.emit.tr pZ.adv
      · split
        · exact pZ.emit.tr pZ.adv
        · split
          · split
            · exact pZ.fail (by decide)
            · exact (pZ.adv.tr (J 4 (by decide) _ _)).tr pZ.take
          · exact pZ.fail (by decide)
    · rw [prs_1]
      split
      · exact ((pZ.adv.tr (J 0 (by decide) n _)).tr pZ.emit).tr (J 1 (by decide) n _)
      · exact pZ.rf s
    · rw [prs_2]; exact (J 0 (by decide) _ _).tr (J 1 (by decide) _ _)
    · rw [prs_3]
      split
      · exact ((pZ.adv.tr (J 2 (by decide) n _)).tr pZ.emit).tr (J 3 (by decide) n _)
      · exact pZ.rf s
    · rw [prs_4]; exact (J 2 (by decide) _ _).tr (J 3 (by decide) _ _)
    · rw [prs_5]
      split
      · exact (((pZ.adv.tr pZ.emit).tr (J 6 (by decide) n _)).tr pZ.patch).tr (J 5 (by decide) n _)
      · exact pZ.rf s
    · rw [prs_6]
      split
      · split
        · exact pZ.fail (by decide)
        · exact (pZ.adv.tr (J 6 (by decide) _ _)).tr pZ.emit
      · split
        · split
          · exact pZ.fail (by decide)
          · exact (pZ.adv.tr (J 9 (by decide) _ _)).tr pZ.take
        · split
          · exact (((J 4 (by decide) n s).tr pZ.adv).tr (J 4 (by decide) _ _)).tr pZ.emit
          · exact (J 4 (by decide) n s).tr (pZ.fail (by decide))
    · rw [prs_7]; exact (J 6 (by decide) _ _).tr (J 5 (by decide) _ _)
    · rw [prs_8]
      split
      · exact (((pZ.adv.tr pZ.emit).tr (J 7 (by decide) n _)).tr pZ.patch).tr (J 8 (by decide) n _)
      · exact pZ.rf s
    · rw [prs_9]; exact (J 7 (by decide) _ _).tr (J 8 (by decide) _ _)
theorem body_Z {t : pT} {s : pS} : pZ s (pbody t s).2 := by
  have A : pZ s (pnumb t s).2 := by
    unfold pnumb
    split
    · exact pZ.num.tr pZ.take
    · exact pZ.rf s
  have S : ∀ s : pS, pZ s (psay t s).2.2 := by
    intro s
    unfold psay
    split
    · split
      · exact pZ.adv.tr pZ.num
      · split
        · exact pZ.adv.tr pZ.emit
        · split
          · exact (pZ.adv.tr pZ.cho).tr pZ.emit
          · split
            · exact (pZ.adv.tr pZ.cho).tr (prs_Z t pF 4 (by decide) 0 _)
            · exact pZ.adv.tr (prs_Z t pF 4 (by decide) 0 _)
    · exact pZ.fail (by decide)
  have E : ∀ s : pS, pZ s (ptest t (pre0 s)) := by
    intro s
    have p : pZ s (pre0 s) := fun z => ⟨z, rfl⟩
    unfold ptest
    split
    · exact (p.tr pZ.adv).tr (prs_Z t pF 9 (by decide) 0 _)
    · exact p
  exact ((A.tr (S _)).tr (E _)).tr pZ.take
theorem pgo_Z {t : pT} (f : Nat) : ∀ k s ls, pZ s (pgo t f k s ls).1 := by
  induction f with
  | zero => intro k s ls; exact pZ.rf s
  | succ f ih =>
    intro k s ls
    show pZ s (if pk t s = 155 then (s, ls) else if (phead t k s).2.1 = 0 then pgo t f (k + 1) (pre0 (pbody t s).2) (ls ++ [(pbody t s).1]) else (phead t k s, ls)).1
    split
    · exact pZ.rf s
    · split
      · have p : pZ (pbody t s).2 (pre0 (pbody t s).2) := fun z => ⟨z, rfl⟩
        exact (body_Z.tr p).tr (ih _ _ _)
      · next y => exact fun z => absurd z y
theorem ptext_pl {t : pT} (h : (ptext t).1.2.1 = 0) : (ptext t).1.2.2.1 = -1 := (pgo_Z 26 0 (0, 0, -1, []) [] h).2
