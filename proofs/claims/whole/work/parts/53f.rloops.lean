/-! the reference's members compute the grammar -/
def depR (sel n : Nat) : Nat := sel + 20 * (6 - n) + 10
def plcT (c : mz_S) (n i : Nat) : Nat := (tk (c 119) n i 0).2.1
theorem plcT_le {c : mz_S} {n : Nat} (i : Nat) : plcT c n i ≤ n := by
  have := tk_ok (b := c 119) (n := n) i 0 (Nat.zero_le _)
  unfold plcT; omega
theorem lexT_wd {b : Nat → Int} {n p : Nat} (hp : p ≤ n) (h : 128 ≤ (lexT b n p).1 ∧ (lexT b n p).1 ≤ 153) : (lexT b n p).1 = wkL b (lexT b n p).2.1 (lexT b n p).2.2.1 wds 128 := by
  rw [lexT_q hp] at h ⊢
  have Q0 := rnE_p (p := cBl) (b := b) (n := n) p hp
  generalize rnE cBl b n p = q at Q0 h
  rcases Nat.lt_or_ge q n with z | z
  · rw [lexT_at z (fun y => Q0.2.2.2 ⟨z, y⟩)] at h ⊢
    by_cases h1 : cLt (b q) = true
    · rw [if_pos h1]
    · rw [if_neg h1] at h ⊢
      by_cases h2 : cDg (b q) = true
      · rw [if_pos h2] at h
        split at h <;> dsimp only at h <;> omega
      · rw [if_neg h2] at h
        by_cases h3 : cSg (b q) = true
        · rw [if_pos h3] at h; have := cSg_rng h3; dsimp only at h; omega
        · rw [if_neg h3] at h; dsimp only at h; omega
  · rw [lexT_end z Q0.2.1] at h; dsimp only at h; omega
theorem tk_wd {b : Nat → Int} {n : Nat} : ∀ (i p : Nat), p ≤ n → 128 ≤ (tk b n i p).1 ∧ (tk b n i p).1 ≤ 153 → (tk b n i p).1 = wkL b (tk b n i p).2.1 (tk b n i p).2.2.1 wds 128 := by
  intro i
  induction i with
  | zero => intro p hp h; exact lexT_wd hp h
  | succ i ih => intro p hp h; exact ih _ (lexT_ok (b := b) hp).2.2.2.1 h
theorem plcH_R {c : mz_S} {n N tt : Nat} (hW : RdW c n N tt) : plcH (tokR (c 119) n N) (plcT c n) := by
  intro i h1 h2
  have hi : i < N := by
    refine Decidable.byContradiction (fun z => h1 ?_)
    exact if_neg z
  have e : (tokR (c 119) n N).1 i = (tk (c 119) n i 0).1 := if_pos hi
  rw [e] at h1 h2 ⊢
  have ok := tk_ok (b := c 119) (n := n) i 0 (Nat.zero_le _)
  have nx := lexT_ok (b := c 119) (n := n) (p := (tk (c 119) n i 0).2.2.1) ok.2.2.1
  rw [← tk_s] at nx
  have l := ok.2.2.2.1 h1
  unfold plcT
  refine ⟨by omega, fun z => ?_⟩
  have w := tk_wd (b := c 119) (n := n) i 0 (Nat.zero_le _) (by omega)
  rcases z with z | z
  · have := (wkL_iff (b := c 119) (q := (tk (c 119) n i 0).2.1) (e := (tk (c 119) n i 0).2.2.1) wds 128 22 (by decide) (by decide) (by decide)).mp (by rw [← w, z]; rfl)
    have := (wdE_iff.mp this).1
    have hl : (wds.getD 22 []).length = 2 := by decide
    omega
  · have := (wkL_iff (b := c 119) (q := (tk (c 119) n i 0).2.1) (e := (tk (c 119) n i 0).2.2.1) wds 128 23 (by decide) (by decide) (by decide)).mp (by rw [← w, z]; rfl)
    have := (wdE_iff.mp this).1
    have hl : (wds.getD 23 []).length = 3 := by decide
    omega
def PreR (c : mz_S) (n N tt B K f sel op : Nat) (s : pS) (g : mz_S) : Prop := op ≤ 5 ∧ pM N s + sel < f ∧ RdR c n N tt B op s g ∧ 2 * (B + lenR s.2.2.2) ≤ 3 * plcT c n s.1 + K
def metR (T : Nat × (Nat → Int32)) (c : mz_S) (n N tt B f sel m : Nat) : Prop := ∀ (op : Nat) (s : pS) (d : Nat) (Q : mz_K) (X : mz_X) (g : mz_S), PreR c n N tt B 10 f sel op s g → depR sel op ≤ d → (∀ g', RdR c n N tt B op (prs (tokR (c 119) n N) f sel op s) g' → Q 0 g') → zC T d m [mx_R 99] g Q X
def SRa (T : Nat × (Nat → Int32)) (c : mz_S) (n N tt B f : Nat) : Prop := metR T c n N tt B f 0 255 ∧ metR T c n N tt B f 2 256 ∧ metR T c n N tt B f 4 257 ∧ metR T c n N tt B f 6 258 ∧ metR T c n N tt B f 7 259 ∧ metR T c n N tt B f 9 260
def SRl (T : Nat × (Nat → Int32)) (c : mz_S) (n N tt B f : Nat) : Prop := (∀ (op : Nat) (s : pS) (d : Nat) (Q : mz_K) (X : mz_X) (g : mz_S) (u : Nat × Nat) (o : Option mx_v), PreR c n N tt B 11 f 1 op s g → depR 1 op ≤ d → (∀ g', RdR c n N tt B op (prs (tokR (c 119) n N) f 1 op s) g' → Q 0 g') → aX12_readItem T d Q X 4 [some (mx_R 99), o] [] g u) ∧ (∀ (op : Nat) (s : pS) (d : Nat) (Q : mz_K) (X : mz_X) (g : mz_S) (u : Nat × Nat) (o : Option mx_v), PreR c n N tt B 11 f 3 op s g → depR 3 op ≤ d → (∀ g', RdR c n N tt B op (prs (tokR (c 119) n N) f 3 op s) g' → Q 0 g') → aX12_readSum T d Q X 4 [some (mx_R 99), o] [] g u) ∧ (∀ (op : Nat) (s : pS) (d : Nat) (Q : mz_K) (X : mz_X) (g : mz_S) (u : Nat × Nat) (o : Option mx_v), PreR c n N tt B 11 f 5 op s g → depR 6 op ≤ d → (∀ g', RdR c n N tt B op (prs (tokR (c 119) n N) f 5 op s) g' → Q 0 g') → aX12_readPart T d Q X 4 [some (mx_R 99), o] [] g u) ∧ (∀ (op : Nat) (s : pS) (d : Nat) (Q : mz_K) (X : mz_X) (g : mz_S) (u : Nat × Nat) (o : Option mx_v), PreR c n N tt B 11 f 8 op s g → depR 8 op ≤ d → (∀ g', RdR c n N tt B op (prs (tokR (c 119) n N) f 8 op s) g' → Q 0 g') → aX12_readTest T d Q X 4 [some (mx_R 99), o] [] g u)
theorem SR_l1 {T : Nat × (Nat → Int32)} {c : mz_S} {n N tt B f : Nat} (hW : RdW c n N tt) (iha : SRa T c n N tt B f) (ihl : SRl T c n N tt B f) (op : Nat) (s : pS) (d : Nat) (Q : mz_K) (X : mz_X) (g : mz_S) (u : Nat × Nat) (o : Option mx_v) (hp : PreR c n N tt B 11 (f + 1) 1 op s g) (hd : depR 1 op ≤ d) (kk : ∀ g', RdR c n N tt B op (prs (tokR (c 119) n N) (f + 1) 1 op s) g' → Q 0 g') : aX12_readItem T d Q X 4 [some (mx_R 99), o] [] g u := by
  obtain ⟨p1, p2, p3, p4⟩ := hp
  have hN := hW.pN
  have hn1 := hW.2.1
  have hr := pkR_rng (c := c) (n := n) p3.2.2.2.2.2.1
  unfold depR at hd
  obtain ⟨d, rfl⟩ : ∃ d', d = d' + 6 := ⟨d - 6, by omega⟩
  rw [prs_1] at kk
  have stop : ¬ (pk (tokR (c 119) n N) s = 42 ∨ pk (tokR (c 119) n N) s = 47 ∨ pk (tokR (c 119) n N) s = 37) → Q 0 g := by
    intro z
    rw [if_neg z] at kk
    exact kk g p3
  have go : ∀ x : Int, x = opcR (pk (tokR (c 119) n N) s) → (pk (tokR (c 119) n N) s = 42 ∨ pk (tokR (c 119) n N) s = 47 ∨ pk (tokR (c 119) n N) s = 37) → aX12_readItem T (d + 6) Q X 61 [some (mx_R 99), o] [mx_I x] g u := by
    intro x hx z
    rw [if_pos z] at kk
    have hs := pM_adv hN (s := s) (by omega)
    have PH := plcH_R hW
    have pa := (plc_adv PH (s := s) (by omega)).1
    refine zX12_readItem_61 (sX12_next hW p3 (by omega) (fun g1 r1 => ?_))
    have M := pM_le hN (f := f) (sel := 0) (n := op) (s := padv s) (by decide)
    have P := prs_Ph PH f 0 (by decide) op (padv s)
    have P' : pPh (plcT c n) 1 (padv s) (prs (tokR (c 119) n N) f 0 op (padv s)) := P
    have e2 : (padv s).2.2.2 = s.2.2.2 := rfl
    unfold pPh at P'
    rw [e2] at P'
    refine iha.1 op (padv s) (d + 6) _ _ g1 ⟨p1, by omega, r1, by rw [e2]; omega⟩ (by unfold depR; omega) (fun g2 r2 => ?_)
    have pl := plcT_le (c := c) (n := n) (prs (tokR (c 119) n N) f 0 op (padv s)).1
    have hn4 := hW.1
    refine sX12_emit1 (k := pk (tokR (c 119) n N) s) hW r2 (fun _ => by omega) hx (by omega) (fun g3 r3 => ?_)
    have ne := nx_emit (k := pk (tokR (c 119) n N) s) (v := 0) (s := prs (tokR (c 119) n N) f 0 op (padv s))
    have le := lenR_emit (k := pk (tokR (c 119) n N) s) (v := 0) (s := prs (tokR (c 119) n N) f 0 op (padv s))
    have sz : szR (pk (tokR (c 119) n N) s, (0 : Int)) = 1 := if_neg (by omega)
    refine ihl.1 op _ (d + 6) Q X g3 u _ ⟨p1, by rw [pM_emit]; omega, r3, by rw [ne.1]; omega⟩ (by unfold depR; omega) kk
  have pick : (pk (tokR (c 119) n N) s = 42 ∨ pk (tokR (c 119) n N) s = 47 ∨ pk (tokR (c 119) n N) s = 37) → aX12_readItem T (d + 6) Q X 31 [some (mx_R 99), o] [] g u := by
    intro z
    refine zX12_readItem_31 ?_
    refine sX12_isSign p3 (by omega) ?_
    first | with_reducible refine b_eq (fun y0 => ?_) (fun y0 => ?_) | with_reducible refine b_ne (fun y0 => ?_) (fun y0 => ?_)
    · skip
      refine sX12_isSign p3 (by omega) ?_
      first | with_reducible refine b_eq (fun y1 => ?_) (fun y1 => ?_) | with_reducible refine b_ne (fun y1 => ?_) (fun y1 => ?_)
      · exact go 8 (by rw [show pk (tokR (c 119) n N) s = 37 by omega]; rfl) z
      · exact go 7 (by rw [y1]; rfl) z
    · exact go 6 (by rw [y0]; rfl) z
  refine zX12_readItem_4 ?_
  refine sX12_isSign p3 (by omega) ?_
  first | with_reducible refine b_eq (fun w0 => ?_) (fun w0 => ?_) | with_reducible refine b_ne (fun w0 => ?_) (fun w0 => ?_)
  · exact pick (by omega)
  · skip
    refine sX12_isSign p3 (by omega) ?_
    first | with_reducible refine b_eq (fun w1 => ?_) (fun w1 => ?_) | with_reducible refine b_ne (fun w1 => ?_) (fun w1 => ?_)
    · exact pick (by omega)
    · skip
      refine sX12_isSign p3 (by omega) ?_
      first | with_reducible refine b_eq (fun w2 => ?_) (fun w2 => ?_) | with_reducible refine b_ne (fun w2 => ?_) (fun w2 => ?_)
      · exact stop (by omega)
      · exact pick (by omega)
theorem SR_l3 {T : Nat × (Nat → Int32)} {c : mz_S} {n N tt B f : Nat} (hW : RdW c n N tt) (iha : SRa T c n N tt B f) (ihl : SRl T c n N tt B f) (op : Nat) (s : pS) (d : Nat) (Q : mz_K) (X : mz_X) (g : mz_S) (u : Nat × Nat) (o : Option mx_v) (hp : PreR c n N tt B 11 (f + 1) 3 op s g) (hd : depR 3 op ≤ d) (kk : ∀ g', RdR c n N tt B op (prs (tokR (c 119) n N) (f + 1) 3 op s) g' → Q 0 g') : aX12_readSum T d Q X 4 [some (mx_R 99), o] [] g u := by
  obtain ⟨p1, p2, p3, p4⟩ := hp
  have hN := hW.pN
  have hn1 := hW.2.1
  have hr := pkR_rng (c := c) (n := n) p3.2.2.2.2.2.1
  unfold depR at hd
  obtain ⟨d, rfl⟩ : ∃ d', d = d' + 6 := ⟨d - 6, by omega⟩
  rw [prs_3] at kk
  have stop : ¬ (pk (tokR (c 119) n N) s = 43 ∨ pk (tokR (c 119) n N) s = 45) → Q 0 g := by
    intro z
    rw [if_neg z] at kk
    exact kk g p3
  have go : ∀ x : Int, x = opcR (pk (tokR (c 119) n N) s) → (pk (tokR (c 119) n N) s = 43 ∨ pk (tokR (c 119) n N) s = 45) → aX12_readSum T (d + 6) Q X 36 [some (mx_R 99), o] [mx_I x] g u := by
    intro x hx z
    rw [if_pos z] at kk
    have hs := pM_adv hN (s := s) (by omega)
    have PH := plcH_R hW
    have pa := (plc_adv PH (s := s) (by omega)).1
    refine zX12_readSum_36 (sX12_next hW p3 (by omega) (fun g1 r1 => ?_))
    have M := pM_le hN (f := f) (sel := 2) (n := op) (s := padv s) (by decide)
    have P := prs_Ph PH f 2 (by decide) op (padv s)
    have P' : pPh (plcT c n) 1 (padv s) (prs (tokR (c 119) n N) f 2 op (padv s)) := P
    have e2 : (padv s).2.2.2 = s.2.2.2 := rfl
    unfold pPh at P'
    rw [e2] at P'
    refine iha.2.1 op (padv s) (d + 6) _ _ g1 ⟨p1, by omega, r1, by rw [e2]; omega⟩ (by unfold depR; omega) (fun g2 r2 => ?_)
    have pl := plcT_le (c := c) (n := n) (prs (tokR (c 119) n N) f 2 op (padv s)).1
    have hn4 := hW.1
    refine sX12_emit1 (k := pk (tokR (c 119) n N) s) hW r2 (fun _ => by omega) hx (by omega) (fun g3 r3 => ?_)
    have ne := nx_emit (k := pk (tokR (c 119) n N) s) (v := 0) (s := prs (tokR (c 119) n N) f 2 op (padv s))
    have le := lenR_emit (k := pk (tokR (c 119) n N) s) (v := 0) (s := prs (tokR (c 119) n N) f 2 op (padv s))
    have sz : szR (pk (tokR (c 119) n N) s, (0 : Int)) = 1 := if_neg (by omega)
    refine ihl.2.1 op _ (d + 6) Q X g3 u _ ⟨p1, by rw [pM_emit]; omega, r3, by rw [ne.1]; omega⟩ (by unfold depR; omega) kk
  have pick : (pk (tokR (c 119) n N) s = 43 ∨ pk (tokR (c 119) n N) s = 45) → aX12_readSum T (d + 6) Q X 22 [some (mx_R 99), o] [] g u := by
    intro z
    refine zX12_readSum_22 ?_
    refine sX12_isSign p3 (by omega) ?_
    first | with_reducible refine b_eq (fun y0 => ?_) (fun y0 => ?_) | with_reducible refine b_ne (fun y0 => ?_) (fun y0 => ?_)
    · exact go 5 (by rw [show pk (tokR (c 119) n N) s = 45 by omega]; rfl) z
    · exact go 4 (by rw [y0]; rfl) z
  refine zX12_readSum_4 ?_
  refine sX12_isSign p3 (by omega) ?_
  first | with_reducible refine b_eq (fun w0 => ?_) (fun w0 => ?_) | with_reducible refine b_ne (fun w0 => ?_) (fun w0 => ?_)
  · exact pick (by omega)
  · skip
    refine sX12_isSign p3 (by omega) ?_
    first | with_reducible refine b_eq (fun w1 => ?_) (fun w1 => ?_) | with_reducible refine b_ne (fun w1 => ?_) (fun w1 => ?_)
    · exact stop (by omega)
    · exact pick (by omega)
theorem SR_m2 {T : Nat × (Nat → Int32)} {c : mz_S} {n N tt B f : Nat} (hW : RdW c n N tt) (iha : SRa T c n N tt B f) (ihl : SRl T c n N tt B f) : metR T c n N tt B (f + 1) 2 256 := by
  intro op s d Q X g hp hd k
  obtain ⟨p1, p2, p3, p4⟩ := hp
  have hN := hW.pN
  unfold depR at hd
  obtain ⟨d, rfl⟩ : ∃ d', d = d' + 1 := ⟨d - 1, by omega⟩
  rw [prs_2] at k
  have M := pM_le hN (f := f) (sel := 0) (n := op) (s := s) (by decide)
  have P : pPh (plcT c n) 1 s (prs (tokR (c 119) n N) f 0 op s) := prs_Ph (plcH_R hW) f 0 (by decide) op s
  unfold pPh at P
  refine zX12_readItem (iha.1 op s d _ _ g ⟨p1, by omega, p3, p4⟩ (by unfold depR; omega) (fun g2 r2 => ?_))
  exact ihl.1 op _ d Q X g2 _ _ ⟨p1, by omega, r2, by omega⟩ (by unfold depR; omega) k
theorem SR_m4 {T : Nat × (Nat → Int32)} {c : mz_S} {n N tt B f : Nat} (hW : RdW c n N tt) (iha : SRa T c n N tt B f) (ihl : SRl T c n N tt B f) : metR T c n N tt B (f + 1) 4 257 := by
  intro op s d Q X g hp hd k
  obtain ⟨p1, p2, p3, p4⟩ := hp
  have hN := hW.pN
  unfold depR at hd
  obtain ⟨d, rfl⟩ : ∃ d', d = d' + 1 := ⟨d - 1, by omega⟩
  rw [prs_4] at k
  have M := pM_le hN (f := f) (sel := 2) (n := op) (s := s) (by decide)
  have P : pPh (plcT c n) 1 s (prs (tokR (c 119) n N) f 2 op s) := prs_Ph (plcH_R hW) f 2 (by decide) op s
  unfold pPh at P
  refine zX12_readSum (iha.2.1 op s d _ _ g ⟨p1, by omega, p3, p4⟩ (by unfold depR; omega) (fun g2 r2 => ?_))
  exact ihl.2.1 op _ d Q X g2 _ _ ⟨p1, by omega, r2, by omega⟩ (by unfold depR; omega) k
theorem SR_m7 {T : Nat × (Nat → Int32)} {c : mz_S} {n N tt B f : Nat} (hW : RdW c n N tt) (iha : SRa T c n N tt B f) (ihl : SRl T c n N tt B f) : metR T c n N tt B (f + 1) 7 259 := by
  intro op s d Q X g hp hd k
  obtain ⟨p1, p2, p3, p4⟩ := hp
  have hN := hW.pN
  unfold depR at hd
  obtain ⟨d, rfl⟩ : ∃ d', d = d' + 1 := ⟨d - 1, by omega⟩
  rw [prs_7] at k
  have M := pM_le hN (f := f) (sel := 6) (n := op) (s := s) (by decide)
  have P : pPh (plcT c n) 1 s (prs (tokR (c 119) n N) f 6 op s) := prs_Ph (plcH_R hW) f 6 (by decide) op s
  unfold pPh at P
  refine zX12_readPart (iha.2.2.2.1 op s d _ _ g ⟨p1, by omega, p3, p4⟩ (by unfold depR; omega) (fun g2 r2 => ?_))
  exact ihl.2.2.1 op _ d Q X g2 _ _ ⟨p1, by omega, r2, by omega⟩ (by unfold depR; omega) k
theorem SR_m9 {T : Nat × (Nat → Int32)} {c : mz_S} {n N tt B f : Nat} (hW : RdW c n N tt) (iha : SRa T c n N tt B f) (ihl : SRl T c n N tt B f) : metR T c n N tt B (f + 1) 9 260 := by
  intro op s d Q X g hp hd k
  obtain ⟨p1, p2, p3, p4⟩ := hp
  have hN := hW.pN
  unfold depR at hd
  obtain ⟨d, rfl⟩ : ∃ d', d = d' + 1 := ⟨d - 1, by omega⟩
  rw [prs_9] at k
  have M := pM_le hN (f := f) (sel := 7) (n := op) (s := s) (by decide)
  have P : pPh (plcT c n) 1 s (prs (tokR (c 119) n N) f 7 op s) := prs_Ph (plcH_R hW) f 7 (by decide) op s
  unfold pPh at P
  refine zX12_readTest (iha.2.2.2.2.1 op s d _ _ g ⟨p1, by omega, p3, p4⟩ (by unfold depR; omega) (fun g2 r2 => ?_))
  exact ihl.2.2.2 op _ d Q X g2 _ _ ⟨p1, by omega, r2, by omega⟩ (by unfold depR; omega) k
