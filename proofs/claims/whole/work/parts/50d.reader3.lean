/-! the reader's members compute the grammar -/
def pM (N : Nat) (s : pS) : Nat := if s.2.1 = 0 then 16 * (N - s.1) else 0
def dep (sel n : Nat) : Nat := sel + 20 * (6 - n) + 5
/-- what holds before a member is called -/
def PreC (c : mz_S) (N b b0 f sel n : Nat) (s : pS) (g : mz_S) : Prop := n ≤ 5 ∧ pM N s + sel < f ∧ RdC c N b s g ∧ b + s.2.2.2.length ≤ b0 + s.1
def metC (T : Nat × (Nat → Int32)) (c : mz_S) (N b b0 f sel m : Nat) : Prop := ∀ (n : Nat) (s : pS) (d : Nat) (Q : mz_K) (X : mz_X) (g : mz_S), PreC c N b b0 f sel n s g → dep sel n ≤ d → (∀ g', RdC c N b (prs (tokC c N) f sel n s) g' → Q 0 g') → zC T d m [mx_R 31, mx_I (n : Int)] g Q X
def SCa (T : Nat × (Nat → Int32)) (c : mz_S) (N b b0 f : Nat) : Prop := metC T c N b b0 f 0 108 ∧ metC T c N b b0 f 2 107 ∧ metC T c N b b0 f 4 106 ∧ metC T c N b b0 f 6 104 ∧ metC T c N b b0 f 7 103 ∧ metC T c N b b0 f 9 102
def SCl (T : Nat × (Nat → Int32)) (c : mz_S) (N b b0 f : Nat) : Prop :=
  (∀ (n k : Nat) (s : pS) (d : Nat) (Q : mz_K) (X : mz_X) (g : mz_S) (u : Nat × Nat) (o : Option mx_v), PreC c N b b0 f 1 n s g → dep 1 n ≤ d → k ≤ s.1 → (∀ g', RdC c N b (prs (tokC c N) f 1 n s) g' → Q 0 g') → aX7_readItem T d Q X 7 [some (mx_R 31), some (mx_I (n : Int)), some (mx_I (k : Int)), o] [] g u)
  ∧ (∀ (n k : Nat) (s : pS) (d : Nat) (Q : mz_K) (X : mz_X) (g : mz_S) (u : Nat × Nat) (o : Option mx_v), PreC c N b b0 f 3 n s g → dep 3 n ≤ d → k ≤ s.1 → (∀ g', RdC c N b (prs (tokC c N) f 3 n s) g' → Q 0 g') → aX7_readSum T d Q X 7 [some (mx_R 31), some (mx_I (n : Int)), some (mx_I (k : Int)), o] [] g u)
  ∧ (∀ (n k : Nat) (s : pS) (d : Nat) (Q : mz_K) (X : mz_X) (g : mz_S) (u : Nat × Nat) (o : Option mx_v), PreC c N b b0 f 5 n s g → dep 6 n ≤ d → k ≤ s.1 → (∀ g', RdC c N b (prs (tokC c N) f 5 n s) g' → Q 0 g') → aX7_readPart T d Q X 7 [some (mx_R 31), some (mx_I (n : Int)), some (mx_I (k : Int)), o] [] g u)
  ∧ (∀ (n k : Nat) (s : pS) (d : Nat) (Q : mz_K) (X : mz_X) (g : mz_S) (u : Nat × Nat) (o : Option mx_v), PreC c N b b0 f 8 n s g → dep 8 n ≤ d → k ≤ s.1 → (∀ g', RdC c N b (prs (tokC c N) f 8 n s) g' → Q 0 g') → aX7_readTest T d Q X 7 [some (mx_R 31), some (mx_I (n : Int)), some (mx_I (k : Int)), o] [] g u)
theorem pM_adv {t : pT} {N : Nat} (hN : pN t N) {s : pS} (hk : ¬ pk t s = 155 ∧ ¬ pk t s = 156) : pM N (padv s) + 16 = pM N s ∧ s.2.1 = 0 ∧ s.1 + 1 < N := by
  have h := pk_n hN hk
  unfold pM padv
  show (if s.2.1 = 0 then 16 * (N - (s.1 + 1)) else 0) + 16 = (if s.2.1 = 0 then 16 * (N - s.1) else 0) ∧ _
  rw [if_pos h.1, if_pos h.1]
  exact ⟨by omega, h.1, h.2.1⟩
theorem pM_le {t : pT} {N : Nat} (hN : pN t N) {f sel n : Nat} {s : pS} (hs : sel ≤ 9) : pM N (prs t f sel n s) ≤ pM N s := by
  have h := (prs_G hN f sel hs n s).1
  unfold pM
  by_cases z : s.2.1 = 0
  · rw [if_pos z]
    split <;> omega
  · rw [prs_bad t f sel hs n s z]; exact Nat.le_refl _
theorem pM_emit {N : Nat} {s : pS} {k v : Int} : pM N (pemit k v s) = pM N s := by
  unfold pemit
  split
  · rfl
  · rfl
theorem pM_patch {N i : Nat} {s : pS} : pM N (ppatch i s) = pM N s := rfl
theorem len_emit {k v : Int} {s : pS} (h : s.2.1 = 0) : (pemit k v s).2.2.2 = s.2.2.2 ++ [(k, v)] ∧ (pemit k v s).1 = s.1 ∧ (pemit k v s).2.1 = 0 := by
  unfold pemit
  rw [if_pos h]
  exact ⟨rfl, rfl, h⟩
theorem nx_emit {k v : Int} {s : pS} : (pemit k v s).1 = s.1 ∧ (pemit k v s).2.2.2.length ≤ s.2.2.2.length + 1 := by
  unfold pemit
  split
  · refine ⟨rfl, ?_⟩
    show (s.2.2.2 ++ [(k, v)]).length ≤ _
    rw [List.length_append]; exact Nat.le_refl _
  · exact ⟨rfl, Nat.le_succ _⟩
/-- atom -/
theorem SC_atom {T : Nat × (Nat → Int32)} {c : mz_S} {N b b0 f : Nat} (hW : TkW c N) (hb0 : b0 ≤ 2000) (ih : SCa T c N b b0 f) : metC T c N b b0 (f + 1) 0 108 := by
  intro n s d Q X g hp hd k
  obtain ⟨p1, p2, p3, p4⟩ := hp
  have hN := hW.pN
  have hr := pk_rng hW p3.2.2.2.2.2.2.2.2.2
  have hn1 := hW.1
  unfold dep at hd
  obtain ⟨d, rfl⟩ : ∃ d', d = d' + 3 := ⟨d - 3, by omega⟩
  refine zX7_readAtom (sX7_kind hW p3 ?_)
  rw [prs_0] at k
  first | with_reducible refine c_lt ?_ ?_ (fun z1 => ?_) (fun z1 => ?_) | with_reducible refine c_le ?_ ?_ (fun z1 => ?_) (fun z1 => ?_) | with_reducible refine c_eq ?_ ?_ (fun z1 => ?_) (fun z1 => ?_) | with_reducible refine c_ne ?_ ?_ (fun z1 => ?_) (fun z1 => ?_)
  · omega
  · omega
  · rw [if_neg z1] at k
    refine sX11_within (by omega) (by omega) (by omega) ?_
    first | with_reducible refine b_eq (fun z2 => ?_) (fun z2 => ?_) | with_reducible refine b_ne (fun z2 => ?_) (fun z2 => ?_)
    · rw [if_neg z2] at k
      first | with_reducible refine c_lt ?_ ?_ (fun z3 => ?_) (fun z3 => ?_) | with_reducible refine c_le ?_ ?_ (fun z3 => ?_) (fun z3 => ?_) | with_reducible refine c_eq ?_ ?_ (fun z3 => ?_) (fun z3 => ?_) | with_reducible refine c_ne ?_ ?_ (fun z3 => ?_) (fun z3 => ?_)
      · omega
      · omega
      · rw [if_neg z3] at k
        exact sX7_fail hW p3 (by omega) (fun g' hg' => zX7_readAtom_113 (k g' hg'))
      · rw [if_pos z3] at k
        have hs := pM_adv hN (s := s) (by omega)
        refine sX7_opens hW p3 p1 hs.2.2 (fun h5 g' hg' => ?_) (fun h5 g' hg' => ?_)
        · rw [if_pos h5] at k
          exact ⟨fun _ => zX7_readAtom_113 (k g' hg'), fun z => absurd w32_0 (by rw [w32_0] at z; exact absurd rfl z)⟩
        · rw [if_neg (by omega)] at k
          refine ⟨fun z => absurd z (by decide), fun _ => ?_⟩
          rw [show (n : Int) + 1 = ((n + 1 : Nat) : Int) by omega]
          refine ih.2.2.1 (n + 1) (padv s) (d + 2) _ _ g' ⟨by omega, by omega, hg', by show b + s.2.2.2.length ≤ b0 + (s.1 + 1); omega⟩ (by unfold dep; omega) (fun g2 hg2 => ?_)
          exact sX7_take hW hg2 (by omega) (fun g3 hg3 => zX7_readAtom_113 (k g3 hg3))
    · rw [if_pos z2] at k
      have hs := pM_adv hN (s := s) (by omega)
      refine sX7_emit p3 (fun _ => by omega) (by omega) (by omega) (fun _ => rfl) (fun g' hg' => ?_)
      rintro _ rfl
      exact zX7_readAtom_113 (k _ (hg'.adv (by rw [nx_emit.1]; exact hs.2.2)))
  · rw [if_pos z1] at k
    have hs := pM_adv hN (s := s) (by omega)
    have h1 : g 31 1 = s.1 := p3.2.2.1
    have e30 : g 30 = c 30 := p3.1.1 30 (by decide) (by decide)
    have hv := (hW.2.2.1 s.1 (by omega)).2
    have et : (tokC c N).2.2 s.1 = c 30 s.1 := if_pos (by omega)
    rw [et] at k
    rw [h1, e30]
    refine s_inN ?_ (fun ea => ?_)
    · omega
    try simp only [ea]
    clear ea
    refine sX7_emit p3 (fun _ => by omega) (by omega) hv (fun z => by omega) (fun g' hg' => ?_)
    rintro _ rfl
    exact zX7_readAtom_113 (k _ (hg'.adv (by rw [nx_emit.1]; exact hs.2.2)))
