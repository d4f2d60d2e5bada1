/-! what a line says, as the class reads it -/
def SayF (G G' : mz_S) (l b : Nat) : Prop := Ch [31, 32, 34, 38] [] G G' ∧ (∀ i, i ≠ l → G' 32 i = G 32 i ∧ G' 34 i = G 34 i) ∧ (∀ p, p ≠ 1 → p ≠ 2 → p ≠ 3 → G' 31 p = G 31 p) ∧ ∀ i, i < b → G' 38 i = G 38 i
theorem SayF.rf (G : mz_S) (l b : Nat) : SayF G G l b := ⟨Ch.rf G, fun _ _ => ⟨rfl, rfl⟩, fun _ _ _ _ => rfl, fun _ _ => rfl⟩
theorem SayF.up {G G' : mz_S} {l b : Nat} (h : SayF G G' l b) {q : Nat} (hq : q = 32 ∨ q = 34) (v : Int) : SayF G (mx_up G' q l v) l b := by
  refine ⟨h.1.up (by rcases hq with z | z <;> subst z <;> decide) (by rcases hq with z | z <;> subst z <;> decide), fun i hi => ?_, fun p a b c => ?_, fun i hi => ?_⟩
  · rw [up_i hi, up_i hi]; exact h.2.1 i hi
  · rw [up_q (by rcases hq with z | z <;> subst z <;> decide)]; exact h.2.2.1 p a b c
  · rw [up_q (by rcases hq with z | z <;> subst z <;> decide)]; exact h.2.2.2 i hi
/-- a member that writes no step -/
theorem SayF.mem {G G' g : mz_S} {N b l : Nat} {s : pS} (h : SayF G G' l b) (hr : RdC G' N b s g) (h0 : s.2.2.2 = []) (e11 : G' 31 11 = b) : SayF G g l b := by
  obtain ⟨h1, h2, h3, h4, h5, h6, h7, h8, h9, h10⟩ := hr
  refine ⟨h.1.tr (h1.sub (by decide) (by decide)), fun i hi => ?_, fun p a b c => ?_, fun i hi => ?_⟩
  · rw [h1.1 32 (by decide) (by decide), h1.1 34 (by decide) (by decide)]; exact h.2.1 i hi
  · by_cases z : p = 11
    · subst z
      rw [h6, h0, ← h.2.2.1 11 a b c, e11]; simp
    · rw [h2 p a b c z]; exact h.2.2.1 p a b c
  · rw [h7 i hi]; exact h.2.2.2 i hi
theorem SayF.tk {G G' : mz_S} {N b l : Nat} (h : SayF G G' l b) (hW : TkW G N) : TkW G' N ∧ tokC G' N = tokC G N :=
  ⟨hW.same (fun q hq => h.1.1 q (by revert hq; revert q; decide) (by intro z; subst z; revert hq; decide)), tokC_same (fun q hq => h.1.1 q (by revert hq; revert q; decide) (by intro z; subst z; revert hq; decide))⟩
theorem RdC.re {c c' : mz_S} {N b : Nat} {s : pS} {g : mz_S} (h : RdC c N b s g) (h0 : s.2.2.2 = []) (e1 : c' 31 = g 31) : RdC c' N b s c' := by
  have := h.here (c' := c') e1
  rw [h0] at this
  have e : pre0 s = s := by unfold pre0; rw [← h0]
  rw [e] at this
  exact this
theorem pr_adv {s : pS} : (padv s).2.2.2 = s.2.2.2 := rfl
theorem pr_fail {t : pT} {w : Int} {s : pS} : (pfail t w s).2.2.2 = s.2.2.2 := by unfold pfail; split <;> rfl
theorem pr_num {t : pT} {s : pS} : (pnum t s).2.2.2.2 = s.2.2.2 := by
  unfold pnum
  split
  · split
    · rfl
    · exact pr_fail
  · exact pr_fail
theorem pr_cho {t : pT} {a b c : Int} {s : pS} : (pcho t a b c s).2.2.2.2 = s.2.2.2 := by
  unfold pcho
  split
  · rfl
  · split
    · rfl
    · split
      · rfl
      · exact pr_fail
theorem ft_emit {k v : Int} {s : pS} : (pemit k v s).2.1 = s.2.1 := by unfold pemit; split <;> rfl
theorem ft_prs {t : pT} {f sel n : Nat} {s : pS} (hs : sel ≤ 9) (h : (prs t f sel n s).2.1 = 0) : s.2.1 = 0 := by
  refine Decidable.byContradiction (fun z => ?_)
  rw [prs_bad t f sel hs n s z] at h
  exact z h
theorem ft_fail {t : pT} {w : Int} {s : pS} (hw : ¬ w = 0) : ¬ (pfail t w s).2.1 = 0 := by
  unfold pfail
  split
  · show ¬ (if t.1 s.1 = 156 then 1 else w) = 0
    split
    · decide
    · exact hw
  · assumption
theorem sX7_readSaying {T : Nat × (Nat → Int32)} {d : Nat} {Q : mz_K} {X : mz_X} {g : mz_S} {N b b0 l : Nat} {s : pS} (hW : TkW g N) (h : RdC g N b s g) (h0 : s.2.2.2 = []) (hl : l < 144) (hb0 : b0 ≤ 2000) (hb : b ≤ b0 + s.1) (hd : 150 ≤ d)
    (k : ∀ G' g', SayF g G' l b → ((psay (tokC g N) s).2.2.2.1 = 0 → G' 32 l = (psay (tokC g N) s).1 ∧ G' 34 l = (psay (tokC g N) s).2.1) → RdC G' N b (psay (tokC g N) s).2.2 g' → Q 0 g') : zC T (d + 1) 100 [mx_R 31, mx_I (l : Int)] g Q X := by
  have hN := hW.pN
  have hsN := h.2.2.2.2.2.2.2.2.2
  have hr := pk_rng hW hsN
  have hn1 := hW.1
  obtain ⟨d, rfl⟩ : ∃ d', d = d' + 3 := ⟨d - 3, by omega⟩
  have e11 : g 31 11 = b := by rw [h.2.2.2.2.2.1, h0]; simp
  unfold psay at k
  refine zX7_readSaying (sX7_kind hW h (sX7_isSaying (by omega) ?_))
  first | with_reducible refine b_eq (fun z1 => ?_) (fun z1 => ?_) | with_reducible refine b_ne (fun z1 => ?_) (fun z1 => ?_)
  · rw [if_pos z1] at k
    have hs := pM_adv hN (s := s) (by omega)
    intro g1 e1
    have r1 : RdC g N b (padv s) g1 := by rw [e1]; exact h.adv hs.2.2
    have f1 : SayF g g1 l b := (SayF.rf g l b).mem r1 h0 e11
    have ea : (padv s).1 = s.1 + 1 := rfl
    have next : ∀ v, (v = if pk (tokC g N) s ≤ 131 then pk (tokC g N) s - 128 else pk (tokC g N) s - 128 + 6 - 3 - 1) → aX7_readSaying T (d + 3) Q X 60 [some (mx_R 31), some (mx_I (l : Int)), some (mx_I (pk (tokC g N) s))] [mx_I v, mx_I (l : Int), mx_R 32] g1 (0, 0) := by
      intro v hv
      refine zX7_readSaying_60 ?_
      refine s_inN ?_ (fun ea => ?_)
      · omega
      try simp only [ea]
      clear ea
      intro g2 e2
      refine s_inN ?_ (fun ea => ?_)
      · omega
      try simp only [ea]
      clear ea
      intro g3 e3
      have f3 : SayF g g3 l b := by rw [e3, e2]; exact (f1.up (Or.inl rfl) v).up (Or.inr rfl) 0
      have e31 : g3 31 = g1 31 := by rw [e3, e2]; simp [up_at]
      have v32 : g3 32 l = v := by rw [e3, up_q (by decide), e2, up_s]
      have v34 : g3 34 l = 0 := by rw [e3, up_s]
      have r3 : RdC g3 N b (padv s) g3 := r1.re h0 e31
      obtain ⟨hW3, t3⟩ := f3.tk hW
      have b3 : g3 31 11 = b := by rw [r3.2.2.2.2.2.1, pr_adv, h0]; simp
      have sum : ∀ (G' : mz_S) (s2 : pS) (so : Int), SayF g G' l b → (s2.2.1 = 0 → G' 32 l = so ∧ G' 34 l = 0) → RdC G' N b s2 G' → s2.2.2.2 = [] → s.1 ≤ s2.1 → (∀ G' g', SayF g G' l b → ((prs (tokC g N) pF 4 0 s2).2.1 = 0 → G' 32 l = so ∧ G' 34 l = 0) → RdC G' N b (prs (tokC g N) pF 4 0 s2) g' → Q 0 g') → aX7_readSaying T (d + 3) Q X 167 [some (mx_R 31), some (mx_I (l : Int)), some (mx_I (pk (tokC g N) s))] [] G' (0, 0) := by
        intro G' s2 so fG v0 rG p0 hs2 kk
        obtain ⟨hWG, tG⟩ := fG.tk hW
        refine zX7_readSaying_167 ((SC_all hWG hb0 pF).1.2.2.1 0 s2 (d + 3) _ _ G' ⟨by omega, ?_, rG, by rw [p0]; show b + 0 ≤ _; omega⟩ (by unfold dep; omega) (fun g4 hg4 => zX7_readSaying_172 ?_))
        · have : pM N s2 ≤ 16 * N := by unfold pM; split <;> omega
          show pM N s2 + 4 < 7000
          omega
        · rw [tG] at hg4
          exact kk G' g4 fG (fun z => v0 (ft_prs (by decide) z)) hg4
      first | with_reducible refine c_lt ?_ ?_ (fun z2 => ?_) (fun z2 => ?_) | with_reducible refine c_le ?_ ?_ (fun z2 => ?_) (fun z2 => ?_) | with_reducible refine c_eq ?_ ?_ (fun z2 => ?_) (fun z2 => ?_) | with_reducible refine c_ne ?_ ?_ (fun z2 => ?_) (fun z2 => ?_)
      · omega
      · omega
      · rw [if_neg z2] at k
        first | with_reducible refine c_lt ?_ ?_ (fun z3 => ?_) (fun z3 => ?_) | with_reducible refine c_le ?_ ?_ (fun z3 => ?_) (fun z3 => ?_) | with_reducible refine c_eq ?_ ?_ (fun z3 => ?_) (fun z3 => ?_) | with_reducible refine c_ne ?_ ?_ (fun z3 => ?_) (fun z3 => ?_)
        · omega
        · omega
        · rw [if_neg z3] at k
          first | with_reducible refine c_lt ?_ ?_ (fun z4 => ?_) (fun z4 => ?_) | with_reducible refine c_le ?_ ?_ (fun z4 => ?_) (fun z4 => ?_) | with_reducible refine c_eq ?_ ?_ (fun z4 => ?_) (fun z4 => ?_) | with_reducible refine c_ne ?_ ?_ (fun z4 => ?_) (fun z4 => ?_)
          · omega
          · omega
          · rw [if_neg z4] at k
            first | with_reducible refine c_lt ?_ ?_ (fun z5 => ?_) (fun z5 => ?_) | with_reducible refine c_le ?_ ?_ (fun z5 => ?_) (fun z5 => ?_) | with_reducible refine c_eq ?_ ?_ (fun z5 => ?_) (fun z5 => ?_) | with_reducible refine c_ne ?_ ?_ (fun z5 => ?_) (fun z5 => ?_)
            · omega
            · omega
            · rw [if_neg z5] at k
              refine sum g3 (padv s) v f3 (fun _ => ⟨v32, v34⟩) r3 h0 (Nat.le_succ _) (fun G' g' a1 a2 a4 => k G' g' a1 (fun z => ?_) a4)
              rw [← hv]; exact a2 z
            · rw [if_pos z5] at k
              have hv3 : v = 3 := by rw [hv, if_pos (by omega)]; omega
              refine s_inN ?_ (fun ea => ?_)
              · omega
              try simp only [ea]
              clear ea
              refine sX7_readChoice hW3 r3 (by omega) (by omega) (by omega) (fun g4 hg4 => ?_)
              rw [t3] at hg4 ⊢
              have f4 : SayF g g4 l b := f3.mem hg4 (by rw [pr_cho]; exact h0) b3
              have q32 : g4 32 = g3 32 := hg4.1.1 32 (by decide) (by decide)
              have q34 : g4 34 = g3 34 := hg4.1.1 34 (by decide) (by decide)
              rw [v32, hv3]
              refine s_inN ?_ (fun ea => ?_)
              · omega
              try simp only [ea]
              clear ea
              intro g5 e5
              have f5 : SayF g g5 l b := by rw [e5]; exact f4.up (Or.inl rfl) _
              have e51 : g5 31 = g4 31 := by rw [e5]; simp [up_at]
              have cG := (pG.cho hN (a := 140) (b := 145) (c := 146) (by omega) (by omega) (by omega) (s := padv s)).1.1
              refine sum g5 _ _ f5 (fun _ => ⟨by rw [e5, up_s], by rw [e5, up_q (by decide), q34, v34]⟩) (hg4.re (by rw [pr_cho]; exact h0) e51) (by rw [pr_cho]; exact h0) (by rw [ea] at cG; omega) k
          · rw [if_pos z4] at k
            have hv7 : v = 7 := by rw [hv, if_neg (by omega)]; omega
            refine sX7_readChoice hW3 r3 (by omega) (by omega) (by omega) (fun g4 hg4 => ?_)
            rw [t3] at hg4 ⊢
            have cG := (pG.cho hN (a := 148) (b := 147) (c := 147) (by omega) (by omega) (by omega) (s := padv s))
            have hN4 := hg4.2.2.2.2.2.2.2.2.2
            refine sX7_emit hg4 (fun _ => by rw [pr_cho, pr_adv, h0]; show b + 0 < 2400; omega) (by omega) (by omega) (fun z => by omega) (fun g5 hg5 => zX7_readSaying_172 (k g3 g5 f3 (fun _ => ⟨by rw [v32, hv7], v34⟩) hg5))
        · rw [if_pos z3] at k
          have hv8 : v = 8 := by rw [hv, if_neg (by omega)]; omega
          refine sX7_emit r3 (fun _ => by rw [pr_adv, h0]; show b + 0 < 2400; omega) (by omega) (by omega) (fun z => by omega) (fun g5 hg5 => zX7_readSaying_172 (k g3 g5 f3 (fun _ => ⟨by rw [v32, hv8], v34⟩) hg5))
      · rw [if_pos z2] at k
        have hv9 : v = 9 := by rw [hv, if_neg (by omega)]; omega
        refine sX7_readNumber hW3 r3 (fun g4 hg4 => ?_)
        rw [t3] at hg4 ⊢
        have f4 : SayF g g4 l b := f3.mem hg4 (by rw [pr_num]; exact h0) b3
        have q32 : g4 32 = g3 32 := hg4.1.1 32 (by decide) (by decide)
        refine s_inN ?_ (fun ea => ?_)
        · omega
        try simp only [ea]
        clear ea
        intro g5 e5
        have f5 : SayF g g5 l b := by rw [e5]; exact f4.up (Or.inr rfl) _
        have e51 : g5 31 = g4 31 := by rw [e5]; simp [up_at]
        exact zX7_readSaying_172 (k g5 g5 f5 (fun _ => ⟨by rw [e5, up_q (by decide), q32, v32, hv9], by rw [e5, up_s]⟩) (hg4.re (by rw [pr_num]; exact h0) e51))
    first | with_reducible refine c_lt ?_ ?_ (fun y1 => ?_) (fun y1 => ?_) | with_reducible refine c_le ?_ ?_ (fun y1 => ?_) (fun y1 => ?_) | with_reducible refine c_eq ?_ ?_ (fun y1 => ?_) (fun y1 => ?_) | with_reducible refine c_ne ?_ ?_ (fun y1 => ?_) (fun y1 => ?_)
    · omega
    · omega
    · exact next _ (by rw [if_neg (by omega)])
    · exact next _ (by rw [if_pos (by omega)])
  · rw [if_neg z1] at k
    exact sX7_fail hW h (by omega) (fun g' hg' => k g g' (SayF.rf g l b) (fun z => absurd z (ft_fail (by decide))) hg')
