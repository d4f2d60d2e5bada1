/-! the reference's reader: its state and its small members -/
theorem pI_congr {p q : Prop} [Decidable p] [Decidable q] (h : p ↔ q) : pI p = pI q := by
  unfold pI
  by_cases z : p
  · rw [if_pos z, if_pos (h.mp z)]
  · rw [if_neg z, if_neg (fun y => z (h.mpr y))]
def tokR (b : Nat → Int) (n N : Nat) : pT := (fun i => if i < N then (tk b n i 0).1 else 155, fun i => if i < N then ((tk b n i 0).2.1 : Int) else 0, fun i => if i < N then (tk b n i 0).2.2.2 else 0)
def opcR (k : Int) : Int := if k = 154 then 0 else if k = 150 then 1 else if k = 151 then 2 else if k = 152 then 3 else if k = 43 then 4 else if k = 45 then 5 else if k = 42 then 6 else if k = 47 then 7 else if k = 37 then 8 else if k = 60 then 9 else if k = 62 then 10 else if k = 61 then 11 else 20 + (k - 136)
/-- a list of steps in the code from A on; jumps count from the text's begin, B ahead of the list -/
def CodR (g : mz_S) (A B : Nat) (l : List (Int × Int)) : Prop := ∀ i, i < l.length → g 123 (A + B + offR l i) = opcR (l.getD i (0, 0)).1 ∧ ((l.getD i (0, 0)).1 = 154 → g 123 (A + B + offR l i + 1) = (l.getD i (0, 0)).2) ∧ ((l.getD i (0, 0)).1 = 150 ∨ (l.getD i (0, 0)).1 = 151 → ¬ (l.getD i (0, 0)).2 = 0 → (0 ≤ (l.getD i (0, 0)).2 ∧ (l.getD i (0, 0)).2.toNat ≤ l.length) ∧ g 123 (A + B + offR l i + 1) = ((B + offR l (l.getD i (0, 0)).2.toNat : Nat) : Int))
def RdW (c : mz_S) (n N tt : Nat) : Prop := n ≤ 400 ∧ (1 ≤ N ∧ N ≤ 401) ∧ c 99 27 = n ∧ c 99 36 = tt ∧ tt < 6 ∧ (∀ i, i < 400 → 0 ≤ c 119 i ∧ c 119 i ≤ 255) ∧ ((tk (c 119) n (N - 1) 0).1 = 155 ∨ (tk (c 119) n (N - 1) 0).1 = 156) ∧ ∀ i, i + 1 < N → ¬ (tk (c 119) n i 0).1 = 155 ∧ ¬ (tk (c 119) n i 0).1 = 156
def RdR (c : mz_S) (n N tt B op : Nat) (s : pS) (g : mz_S) : Prop :=
  Ch [123] [28, 29, 30, 31, 32, 33, 37, 38] c g ∧ (∀ i, i < 700 * tt + B → g 123 i = c 123 i) ∧ g 99 32 = s.2.1 ∧ (0 ≤ s.2.1 ∧ s.2.1 ≤ 5) ∧ (¬ s.2.1 = 0 → g 99 33 = s.2.2.1) ∧ s.1 < N
  ∧ (s.2.1 = 0 → TokR g (tk (c 119) n s.1 0) ∧ g 99 38 = op ∧ g 99 37 = ((B + lenR s.2.2.2 : Nat) : Int) ∧ CodR g (700 * tt) B s.2.2.2)
theorem RdW.pN {c : mz_S} {n N tt : Nat} (h : RdW c n N tt) : pN (tokR (c 119) n N) N := by
  intro i hi
  show (if i < N then (tk (c 119) n i 0).1 else 155) = 155 ∨ (if i < N then (tk (c 119) n i 0).1 else 155) = 156
  split
  · have : i = N - 1 := by omega
    rw [this]; exact h.2.2.2.2.2.2.1
  · exact Or.inl rfl
theorem tk_s {b : Nat → Int} {n : Nat} : ∀ (i p : Nat), tk b n (i + 1) p = lexT b n (tk b n i p).2.2.1 := by
  intro i
  induction i with
  | zero => intro p; rfl
  | succ i ih => intro p; show tk b n (i + 1) (lexT b n p).2.2.1 = lexT b n (tk b n i (lexT b n p).2.2.1).2.2.1; exact ih _
theorem tk_ok {b : Nat → Int} {n : Nat} : ∀ (i p : Nat), p ≤ n → (0 ≤ (tk b n i p).1 ∧ (tk b n i p).1 ≤ 156) ∧ (tk b n i p).2.1 ≤ (tk b n i p).2.2.1 ∧ (tk b n i p).2.2.1 ≤ n ∧ (¬ (tk b n i p).1 = 155 → (tk b n i p).2.1 < (tk b n i p).2.2.1) ∧ (0 ≤ (tk b n i p).2.2.2 ∧ (tk b n i p).2.2.2 ≤ 999999) := by
  intro i
  induction i with
  | zero => intro p hp; have h := lexT_ok (b := b) hp; exact ⟨h.1, h.2.2.1, h.2.2.2.1, h.2.2.2.2.1, h.2.2.2.2.2⟩
  | succ i ih => intro p hp; have h := lexT_ok (b := b) hp; exact ih _ h.2.2.2.1
theorem pkR {c : mz_S} {n N tt B op : Nat} {s : pS} {g : mz_S} (h : RdR c n N tt B op s g) (kk : Int) (hk : ¬ kk = 155) : (g 99 32 = 0 ∧ (tk (c 119) n s.1 0).1 = kk) ↔ pk (tokR (c 119) n N) s = kk := by
  rw [h.2.2.1]
  unfold pk
  have e : (tokR (c 119) n N).1 s.1 = (tk (c 119) n s.1 0).1 := if_pos h.2.2.2.2.2.1
  by_cases z : s.2.1 = 0
  · rw [if_pos z, e]; exact ⟨fun y => y.2, fun y => ⟨z, y⟩⟩
  · rw [if_neg z]; exact ⟨fun y => absurd y.1 z, fun y => absurd y.symm hk⟩
theorem RdR.fb {c : mz_S} {n N tt B op : Nat} {s : pS} {g : mz_S} (h : RdR c n N tt B op s g) : 0 ≤ g 99 32 ∧ g 99 32 ≤ 5 := by rw [h.2.2.1]; exact h.2.2.2.1
theorem RdR.ft {c : mz_S} {n N tt B op : Nat} {s : pS} {g : mz_S} (h : RdR c n N tt B op s g) : g 99 32 = 0 → TokR g (tk (c 119) n s.1 0) := fun z => (h.2.2.2.2.2.2 (by rw [← h.2.2.1]; exact z)).1
theorem pkR_rng {c : mz_S} {n N : Nat} {s : pS} (hs : s.1 < N) : 0 ≤ pk (tokR (c 119) n N) s ∧ pk (tokR (c 119) n N) s ≤ 156 := by
  unfold pk
  have e : (tokR (c 119) n N).1 s.1 = (tk (c 119) n s.1 0).1 := if_pos hs
  split
  · rw [e]; exact (tk_ok s.1 0 (Nat.zero_le _)).1
  · omega
theorem sX12_isSign {T : Nat × (Nat → Int32)} {d : Nat} {Q : mz_K} {X : mz_X} {g : mz_S} {c : mz_S} {n N tt B op : Nat} {s : pS} {x : Int} (h : RdR c n N tt B op s g) (hx : 0 ≤ x ∧ x ≤ 127) (k : Q (pI (pk (tokR (c 119) n N) s = x)) g) : zC T (d + 1) 248 [mx_R 99, mx_I x] g Q X := by
  have hb := h.fb
  rw [← pI_congr (pkR h x (by omega))] at k
  have no : ¬ (g 99 32 = 0 ∧ (tk (c 119) n s.1 0).1 = x) → aX12_isSign T d Q X 27 [some (mx_R 99), some (mx_I x)] [] g (0, 0) := by
    intro z
    rw [pI_f z] at k
    exact zX12_isSign_27 (zX12_isSign_28 ⟨zb0, k⟩)
  refine zX12_isSign ?_
  first | with_reducible refine c_lt ?_ ?_ (fun z1 => ?_) (fun z1 => ?_) | with_reducible refine c_le ?_ ?_ (fun z1 => ?_) (fun z1 => ?_) | with_reducible refine c_eq ?_ ?_ (fun z1 => ?_) (fun z1 => ?_) | with_reducible refine c_ne ?_ ?_ (fun z1 => ?_) (fun z1 => ?_)
  · omega
  · omega
  · exact no (fun z => z1 z.1)
  · obtain ⟨t1, t2, t3, t4, t5, t6⟩ := h.ft z1
    have tr := tcl_rng (tk (c 119) n s.1 0).1
    rw [t3]
    first | with_reducible refine c_lt ?_ ?_ (fun z2 => ?_) (fun z2 => ?_) | with_reducible refine c_le ?_ ?_ (fun z2 => ?_) (fun z2 => ?_) | with_reducible refine c_eq ?_ ?_ (fun z2 => ?_) (fun z2 => ?_) | with_reducible refine c_ne ?_ ?_ (fun z2 => ?_) (fun z2 => ?_)
    · omega
    · omega
    · refine no (fun z => z2 ?_)
      rw [z.2]
      unfold tcl
      rw [if_neg (by omega), if_neg (by omega), if_neg (by omega), if_neg (by omega)]
    · have v := t4.2 z2
      rw [v.1]
      first | with_reducible refine c_lt ?_ ?_ (fun z3 => ?_) (fun z3 => ?_) | with_reducible refine c_le ?_ ?_ (fun z3 => ?_) (fun z3 => ?_) | with_reducible refine c_eq ?_ ?_ (fun z3 => ?_) (fun z3 => ?_) | with_reducible refine c_ne ?_ ?_ (fun z3 => ?_) (fun z3 => ?_)
      · omega
      · omega
      · exact no (fun z => z3 z.2)
      · rw [pI_t ⟨z1, z3⟩] at k
        exact zX12_isSign_28 ⟨zb1, k⟩
theorem RdR.wrong {c : mz_S} {n N tt B op : Nat} {s : pS} {g : mz_S} {w v : Int} (h : RdR c n N tt B op s g) (h0 : s.2.1 = 0) (hw : 1 ≤ w ∧ w ≤ 5) (hv : v = if (tokR (c 119) n N).1 s.1 = 156 then 1 else w) : RdR c n N tt B op (pfail (tokR (c 119) n N) w s) (mx_up (mx_up g 99 32 v) 99 33 (g 99 29)) := by
  obtain ⟨h1, h2, h3, h4, h5, h6, h7⟩ := h
  have t1 := (h7 h0).1.1
  unfold pfail
  rw [if_pos h0]
  have e2 : (tokR (c 119) n N).2.1 s.1 = ((tk (c 119) n s.1 0).2.1 : Int) := if_pos h6
  have hv0 : 1 ≤ v ∧ v ≤ 5 := by rw [hv]; split <;> omega
  refine ⟨(h1.up9 (by decide)).up9 (by decide), fun i hi => ?_, ?_, ?_, fun _ => ?_, h6, fun z => ?_⟩
  · rw [up_q (by decide), up_q (by decide)]; exact h2 i hi
  · rw [up_i (by decide), up_s]; exact hv
  · rw [← hv]; dsimp only; omega
  · rw [up_s, t1]; exact e2.symm
  · have : v = 0 := by rw [hv]; exact z
    omega
theorem sX12_wrong {T : Nat × (Nat → Int32)} {d : Nat} {Q : mz_K} {X : mz_X} {g : mz_S} {c : mz_S} {n N tt B op : Nat} {s : pS} {w : Int} (h : RdR c n N tt B op s g) (hw : 1 ≤ w ∧ w ≤ 5) (k : ∀ g', RdR c n N tt B op (pfail (tokR (c 119) n N) w s) g' → Q 0 g') : zC T (d + 1) 246 [mx_R 99, mx_I w] g Q X := by
  have hb := h.fb
  have e1 : (tokR (c 119) n N).1 s.1 = (tk (c 119) n s.1 0).1 := if_pos h.2.2.2.2.2.1
  refine zX12_wrong ?_
  rw [h.2.2.1] at hb ⊢
  first | with_reducible refine c_lt ?_ ?_ (fun z1 => ?_) (fun z1 => ?_) | with_reducible refine c_le ?_ ?_ (fun z1 => ?_) (fun z1 => ?_) | with_reducible refine c_eq ?_ ?_ (fun z1 => ?_) (fun z1 => ?_) | with_reducible refine c_ne ?_ ?_ (fun z1 => ?_) (fun z1 => ?_)
  · omega
  · omega
  · obtain ⟨t1, t2, t3, t4, t5, t6⟩ := (h.2.2.2.2.2.2 z1).1
    have tr := tcl_rng (tk (c 119) n s.1 0).1
    have tc := (tcl_c (tk (c 119) n s.1 0).1).2.2.2
    have fin : ∀ v, v = (if (tokR (c 119) n N).1 s.1 = 156 then 1 else w) → aX12_wrong T d Q X 22 [some (mx_R 99), some (mx_I w)] [mx_I v, mx_R 99] g (0, 0) := by
      intro v hv
      refine zX12_wrong_22 ?_
      intro g1 eg1
      have f1 : g1 99 29 = g 99 29 := by rw [eg1, up_i (by decide)]
      rw [f1]
      intro g2 eg2
      refine k g2 ?_
      rw [eg2, eg1]
      exact h.wrong z1 hw hv
    rw [t3]
    first | with_reducible refine c_lt ?_ ?_ (fun z2 => ?_) (fun z2 => ?_) | with_reducible refine c_le ?_ ?_ (fun z2 => ?_) (fun z2 => ?_) | with_reducible refine c_eq ?_ ?_ (fun z2 => ?_) (fun z2 => ?_) | with_reducible refine c_ne ?_ ?_ (fun z2 => ?_) (fun z2 => ?_)
    · omega
    · omega
    · exact fin _ (by rw [e1, if_neg (fun y => z2 (tc.mpr y))])
    · exact fin _ (by rw [e1, if_pos (tc.mp z2)])
  · refine k g ?_
    rw [pfail_bad z1]; exact h
theorem TokR.fr {S F : List Nat} {g g' : mz_S} {x : Int × Nat × Nat × Int} (h : TokR g x) (hc : Ch S F g g') (hS : ∀ q ∈ [119], q ∉ S) (hF : ∀ f ∈ [28, 29, 30, 31], f ∉ F) : TokR g' x := by
  have e : g' 119 = g 119 := hc.1 119 (hS 119 (by decide)) (by decide)
  unfold TokR at *
  rw [e, hc.2 28 (hF 28 (by decide)), hc.2 29 (hF 29 (by decide)), hc.2 30 (hF 30 (by decide)), hc.2 31 (hF 31 (by decide))]
  exact h
theorem CodR.fr {g g' : mz_S} {A B : Nat} {l : List (Int × Int)} (h : CodR g A B l) (e : ∀ i, i < A + B + lenR l → g' 123 i = g 123 i) : CodR g' A B l := by
  intro i hi
  have a := h i hi
  have s1 := offR_step (l := l) hi
  have s2 := offR_mono (l := l) (i := i + 1) (j := l.length) (by omega) (Nat.le_refl _)
  have s3 := szR_1 (l.getD i (0, 0))
  have ll : lenR l = offR l l.length := rfl
  refine ⟨?_, fun z => ?_, fun z z2 => ⟨(a.2.2 z z2).1, ?_⟩⟩
  · rw [e _ (by omega)]; exact a.1
  · have : szR (l.getD i (0, 0)) = 2 := if_pos (by omega)
    rw [e _ (by omega)]; exact a.2.1 z
  · have : szR (l.getD i (0, 0)) = 2 := if_pos (by omega)
    rw [e _ (by omega)]; exact (a.2.2 z z2).2
/-- on to the next token -/
theorem sX12_next {T : Nat × (Nat → Int32)} {d : Nat} {Q : mz_K} {X : mz_X} {g : mz_S} {c : mz_S} {n N tt B op : Nat} {s : pS} (hW : RdW c n N tt) (h : RdR c n N tt B op s g) (hk : ¬ pk (tokR (c 119) n N) s = 155 ∧ ¬ pk (tokR (c 119) n N) s = 156) (k : ∀ g', RdR c n N tt B op (padv s) g' → Q 0 g') : zC T (d + 2) 245 [mx_R 99] g Q X := by
  have hs := pk_n hW.pN hk
  obtain ⟨h1, h2, h3, h4, h5, h6, h7⟩ := h
  obtain ⟨t, h8, h9, h10⟩ := h7 hs.1
  have e119 : g 119 = c 119 := h1.1 119 (by decide) (by decide)
  have en : g 99 27 = n := by rw [h1.2 27 (by decide)]; exact hW.2.2.1
  have ok := tk_ok (b := c 119) (n := n) s.1 0 (Nat.zero_le _)
  refine sX12_goesOn en hW.1 t.2.1 ok.2.2.1 (by rw [e119]; exact hW.2.2.2.2.2.1) (fun g' hc ht => k g' ?_)
  rw [e119, ← tk_s] at ht
  refine ⟨h1.tr (hc.sub (by decide) (by decide)), fun i hi => ?_, ?_, h4, fun z => absurd hs.1 z, hs.2.1, fun _ => ⟨ht, ?_, ?_, h10.fr (fun i _ => by rw [hc.1 123 (by decide) (by decide)])⟩⟩
  · rw [hc.1 123 (by decide) (by decide)]; exact h2 i hi
  · rw [hc.2 32 (by decide)]; exact h3
  · rw [hc.2 38 (by decide)]; exact h8
  · rw [hc.2 37 (by decide)]; exact h9
theorem sX12_need {T : Nat × (Nat → Int32)} {d : Nat} {Q : mz_K} {X : mz_X} {g : mz_S} {c : mz_S} {n N tt B op : Nat} {s : pS} {x : Int} (hW : RdW c n N tt) (h : RdR c n N tt B op s g) (hx : 0 ≤ x ∧ x ≤ 127) (k : ∀ g', RdR c n N tt B op (ptake (tokR (c 119) n N) x s) g' → Q 0 g') : zC T (d + 3) 249 [mx_R 99, mx_I x] g Q X := by
  have hb := h.fb
  refine zX12_need ?_
  first | with_reducible refine c_lt ?_ ?_ (fun z1 => ?_) (fun z1 => ?_) | with_reducible refine c_le ?_ ?_ (fun z1 => ?_) (fun z1 => ?_) | with_reducible refine c_eq ?_ ?_ (fun z1 => ?_) (fun z1 => ?_) | with_reducible refine c_ne ?_ ?_ (fun z1 => ?_) (fun z1 => ?_)
  · omega
  · omega
  · refine sX12_isSign h hx ?_
    unfold ptake at k
    first | with_reducible refine b_eq (fun z2 => ?_) (fun z2 => ?_) | with_reducible refine b_ne (fun z2 => ?_) (fun z2 => ?_)
    · rw [if_neg z2] at k
      exact sX12_wrong h (by omega) (fun g' hg' => zX12_need_28 (k g' hg'))
    · rw [if_pos z2] at k
      exact sX12_next hW h (by omega) (fun g' hg' => zX12_need_28 (k g' hg'))
  · have hb0 : ¬ s.2.1 = 0 := by rw [← h.2.2.1]; exact z1
    rw [ptake_bad (by omega) hb0] at k
    exact k g h
/-- a number more in the code -/
theorem sX12_emitR {T : Nat × (Nat → Int32)} {d : Nat} {Q : mz_K} {X : mz_X} {g : mz_S} {c : mz_S} {n N tt m : Nat} {x : Int} (h32 : 0 ≤ g 99 32 ∧ g 99 32 ≤ 5) (k0 : ¬ g 99 32 = 0 → Q 0 g) (h36 : g 99 36 = tt) (h37 : g 99 32 = 0 → g 99 37 = (m : Int)) (hm : g 99 32 = 0 → 700 * tt + m < 4200) (k : g 99 32 = 0 → Q 0 (mx_up (mx_up g 123 (700 * tt + m) x) 99 37 ((m + 1 : Nat) : Int))) : zC T (d + 1) 250 [mx_R 99, mx_I x] g Q X := by
  refine zX12_emit ?_
  first | with_reducible refine c_lt ?_ ?_ (fun z => ?_) (fun z => ?_) | with_reducible refine c_le ?_ ?_ (fun z => ?_) (fun z => ?_) | with_reducible refine c_eq ?_ ?_ (fun z => ?_) (fun z => ?_) | with_reducible refine c_ne ?_ ?_ (fun z => ?_) (fun z => ?_)
  · omega
  · omega
  · have hm := hm z
    rw [h36, h37 z]
    refine s_inE (700 * tt + m) ?_ ?_ (fun ea => ?_)
    · omega
    · omega
    try simp only [ea]
    clear ea
    intro g1 e1
    have f1 : g1 99 37 = m := by rw [e1, up_q (by decide)]; exact h37 z
    rw [f1]
    rintro _ rfl
    rw [e1]
    exact k z
  · exact k0 z
theorem CodR.app {g g' : mz_S} {A B : Nat} {l : List (Int × Int)} {e : Int × Int} (h : CodR g A B l) (hg : ∀ i, i < A + B + lenR l → g' 123 i = g 123 i) (h0 : g' 123 (A + B + lenR l) = opcR e.1) (h1 : e.1 = 154 → g' 123 (A + B + lenR l + 1) = e.2) (h2 : e.1 = 150 ∨ e.1 = 151 → e.2 = 0) : CodR g' A B (l ++ [e]) := by
  have h' := h.fr hg
  intro i hi
  rw [List.length_append] at hi ⊢
  have hi' : i < l.length + 1 := hi
  rcases Nat.lt_or_ge i l.length with z | z
  · have a := h' i z
    have eg : (l ++ [e]).getD i (0, 0) = l.getD i (0, 0) := by rw [List.getD_eq_getElem?_getD, List.getD_eq_getElem?_getD, List.getElem?_append_left z]
    rw [eg, offR_app (by omega)]
    refine ⟨a.1, a.2.1, fun y y2 => ?_⟩
    have b := a.2.2 y y2
    rw [offR_app b.1.2]
    exact ⟨⟨b.1.1, by omega⟩, b.2⟩
  · have ei : i = l.length := by omega
    subst ei
    have eg : (l ++ [e]).getD l.length (0, 0) = e := by rw [List.getD_eq_getElem?_getD, List.getElem?_append_right (Nat.le_refl _), Nat.sub_self]; rfl
    rw [eg, offR_app (Nat.le_refl _)]
    exact ⟨h0, h1, fun y y2 => absurd (h2 y) y2⟩
theorem RdR.emit {c : mz_S} {n N tt B op : Nat} {s : pS} {g g' : mz_S} {k v : Int} (h : RdR c n N tt B op s g) (h0 : s.2.1 = 0) (hc : Ch [123] [37] g g') (e37 : g' 99 37 = ((B + lenR s.2.2.2 + szR (k, v) : Nat) : Int)) (hg : ∀ i, i < 700 * tt + B + lenR s.2.2.2 → g' 123 i = g 123 i) (h1 : g' 123 (700 * tt + B + lenR s.2.2.2) = opcR k) (h2 : k = 154 → g' 123 (700 * tt + B + lenR s.2.2.2 + 1) = v) (h3 : k = 150 ∨ k = 151 → v = 0) : RdR c n N tt B op (pemit k v s) g' := by
  obtain ⟨a1, a2, a3, a4, a5, a6, a7⟩ := h
  obtain ⟨t, b1, b2, b3⟩ := a7 h0
  unfold pemit
  rw [if_pos h0]
  refine ⟨a1.tr (hc.sub (by decide) (by decide)), fun i hi => ?_, ?_, a4, fun z => absurd h0 z, a6, fun _ => ⟨t.fr hc (by decide) (by decide), ?_, ?_, b3.app hg h1 h2 h3⟩⟩
  · rw [hg i (by omega)]; exact a2 i hi
  · rw [hc.2 32 (by decide)]; exact a3
  · rw [hc.2 38 (by decide)]; exact b1
  · rw [e37]; show _ = ((B + lenR (s.2.2.2 ++ [(k, v)]) : Nat) : Int); rw [lenR_app1]; omega
/-- a step of one number -/
theorem sX12_emit1 {T : Nat × (Nat → Int32)} {d : Nat} {Q : mz_K} {X : mz_X} {g : mz_S} {c : mz_S} {n N tt B op : Nat} {s : pS} {k x : Int} (hW : RdW c n N tt) (h : RdR c n N tt B op s g) (hm : s.2.1 = 0 → B + lenR s.2.2.2 < 690) (hx : x = opcR k) (hk : ¬ (k = 154 ∨ k = 150 ∨ k = 151)) (kk : ∀ g', RdR c n N tt B op (pemit k 0 s) g' → Q 0 g') : zC T (d + 1) 250 [mx_R 99, mx_I x] g Q X := by
  have e36 : g 99 36 = tt := by rw [h.1.2 36 (by decide)]; exact hW.2.2.2.1
  have t6 := hW.2.2.2.2.1
  have e32 := h.2.2.1
  have sz : szR (k, (0 : Int)) = 1 := if_neg hk
  refine sX12_emitR (c := c) (n := n) (N := N) (m := B + lenR s.2.2.2) h.fb (fun z => kk g ?_) e36 (fun z => (h.2.2.2.2.2.2 (by rw [← e32]; exact z)).2.2.1) (fun z => by have := hm (by rw [← e32]; exact z); omega) (fun z => kk _ ?_)
  · rw [pemit_bad (by rw [← e32]; exact z)]; exact h
  · refine h.emit (by rw [← e32]; exact z) (((Ch.rf g).up (by decide) (by decide)).up9 (by decide)) ?_ (fun i hi => ?_) ?_ (fun y => absurd y (by omega)) (fun y => absurd y (by omega))
    · rw [up_s, sz]
    · rw [up_q (by decide), up_i (by omega)]
    · rw [up_q (by decide), show 700 * tt + B + lenR s.2.2.2 = 700 * tt + (B + lenR s.2.2.2) by omega, up_s]; exact hx
/-- a step of two numbers: the second is y -/
theorem sX12_emit2 {T : Nat × (Nat → Int32)} {d : Nat} {Q : mz_K} {X : mz_X} {g : mz_S} {c : mz_S} {n N tt B op : Nat} {s : pS} {k x y : Int} {dd : Nat} {R : mz_K} (hW : RdW c n N tt) (h : RdR c n N tt B op s g) (h0 : s.2.1 = 0) (hm : B + lenR s.2.2.2 < 690) (hx : x = opcR k) (hk : k = 154 ∨ k = 150 ∨ k = 151) (hk2 : k = 150 ∨ k = 151 → y = 0) (kk : ∀ g', RdR c n N tt B op (pemit k y s) g' → g' 99 37 = ((B + lenR s.2.2.2 + 2 : Nat) : Int) → R 0 g') : zC T (d + 1) 250 [mx_R 99, mx_I x] g (fun _ g1 => (∀ q, q ≠ 37 → g1 99 q = g 99 q) → g1 99 37 = ((B + lenR s.2.2.2 + 1 : Nat) : Int) → zC T (d + 1) 250 [mx_R 99, mx_I y] g1 R X) X := by
  have e36 : g 99 36 = tt := by rw [h.1.2 36 (by decide)]; exact hW.2.2.2.1
  have t6 := hW.2.2.2.2.1
  have e32 : g 99 32 = 0 := by rw [h.2.2.1]; exact h0
  have e37 := (h.2.2.2.2.2.2 h0).2.2.1
  have sz : szR (k, y) = 2 := if_pos hk
  refine sX12_emitR (c := c) (n := n) (N := N) (m := B + lenR s.2.2.2) h.fb (fun z => absurd e32 z) e36 (fun _ => e37) (fun _ => by omega) (fun _ q1 q2 => ?_)
  obtain ⟨g1, eg1⟩ : ∃ g1, g1 = mx_up (mx_up g 123 (700 * tt + (B + lenR s.2.2.2)) x) 99 37 ((B + lenR s.2.2.2 + 1 : Nat) : Int) := ⟨_, rfl⟩
  rw [← eg1]
  have f32 : g1 99 32 = 0 := by rw [eg1, up_i (by decide), up_q (by decide)]; exact e32
  have f36 : g1 99 36 = tt := by rw [eg1, up_i (by decide), up_q (by decide)]; exact e36
  have f37 : g1 99 37 = ((B + lenR s.2.2.2 + 1 : Nat) : Int) := by rw [eg1, up_s]
  refine sX12_emitR (c := c) (n := n) (N := N) (m := B + lenR s.2.2.2 + 1) (by omega) (fun z => absurd f32 z) f36 (fun _ => f37) (fun _ => by omega) (fun _ => kk _ ?_ (by rw [up_s]))
  refine h.emit h0 ?_ ?_ (fun i hi => ?_) ?_ (fun _ => ?_) (fun z => hk2 z)
  · rw [eg1]; exact ((((Ch.rf g).up (by decide) (by decide)).up9 (by decide)).up (by decide) (by decide)).up9 (by decide)
  · rw [up_s, sz]
  · rw [up_q (by decide), up_i (by omega), eg1, up_q (by decide), up_i (by omega)]
  · rw [up_q (by decide), up_i (by omega), eg1, up_q (by decide), show 700 * tt + B + lenR s.2.2.2 = 700 * tt + (B + lenR s.2.2.2) by omega, up_s]; exact hx
  · rw [up_q (by decide), show 700 * tt + B + lenR s.2.2.2 + 1 = 700 * tt + (B + lenR s.2.2.2 + 1) by omega, up_s]
theorem sW_fee {T : Nat × (Nat → Int32)} {d : Nat} {Q : mz_K} {X : mz_X} {g : mz_S} {c : mz_S} {n N tt B op : Nat} {s : pS} (h : RdR c n N tt B op s g) (k : Q (pI (pk (tokR (c 119) n N) s = 128)) g) : zC T (d + 5) 247 [mx_R 99, mx_S 12] g Q X := by
  rw [← pI_congr (pkR h 128 (by decide))] at k
  exact sIs_12 h.fb h.ft k
theorem sW_dies {T : Nat × (Nat → Int32)} {d : Nat} {Q : mz_K} {X : mz_X} {g : mz_S} {c : mz_S} {n N tt B op : Nat} {s : pS} (h : RdR c n N tt B op s g) (k : Q (pI (pk (tokR (c 119) n N) s = 129)) g) : zC T (d + 5) 247 [mx_R 99, mx_S 13] g Q X := by
  rw [← pI_congr (pkR h 129 (by decide))] at k
  exact sIs_13 h.fb h.ft k
theorem sW_bound {T : Nat × (Nat → Int32)} {d : Nat} {Q : mz_K} {X : mz_X} {g : mz_S} {c : mz_S} {n N tt B op : Nat} {s : pS} (h : RdR c n N tt B op s g) (k : Q (pI (pk (tokR (c 119) n N) s = 130)) g) : zC T (d + 5) 247 [mx_R 99, mx_S 14] g Q X := by
  rw [← pI_congr (pkR h 130 (by decide))] at k
  exact sIs_14 h.fb h.ft k
theorem sW_rank {T : Nat × (Nat → Int32)} {d : Nat} {Q : mz_K} {X : mz_X} {g : mz_S} {c : mz_S} {n N tt B op : Nat} {s : pS} (h : RdR c n N tt B op s g) (k : Q (pI (pk (tokR (c 119) n N) s = 131)) g) : zC T (d + 5) 247 [mx_R 99, mx_S 15] g Q X := by
  rw [← pI_congr (pkR h 131 (by decide))] at k
  exact sIs_15 h.fb h.ft k
theorem sW_bears {T : Nat × (Nat → Int32)} {d : Nat} {Q : mz_K} {X : mz_X} {g : mz_S} {c : mz_S} {n N tt B op : Nat} {s : pS} (h : RdR c n N tt B op s g) (k : Q (pI (pk (tokR (c 119) n N) s = 132)) g) : zC T (d + 5) 247 [mx_R 99, mx_S 16] g Q X := by
  rw [← pI_congr (pkR h 132 (by decide))] at k
  exact sIs_16 h.fb h.ft k
theorem sW_loss {T : Nat × (Nat → Int32)} {d : Nat} {Q : mz_K} {X : mz_X} {g : mz_S} {c : mz_S} {n N tt B op : Nat} {s : pS} (h : RdR c n N tt B op s g) (k : Q (pI (pk (tokR (c 119) n N) s = 133)) g) : zC T (d + 5) 247 [mx_R 99, mx_S 17] g Q X := by
  rw [← pI_congr (pkR h 133 (by decide))] at k
  exact sIs_17 h.fb h.ft k
theorem sW_ban {T : Nat × (Nat → Int32)} {d : Nat} {Q : mz_K} {X : mz_X} {g : mz_S} {c : mz_S} {n N tt B op : Nat} {s : pS} (h : RdR c n N tt B op s g) (k : Q (pI (pk (tokR (c 119) n N) s = 134)) g) : zC T (d + 5) 247 [mx_R 99, mx_S 18] g Q X := by
  rw [← pI_congr (pkR h 134 (by decide))] at k
  exact sIs_18 h.fb h.ft k
theorem sW_void {T : Nat × (Nat → Int32)} {d : Nat} {Q : mz_K} {X : mz_X} {g : mz_S} {c : mz_S} {n N tt B op : Nat} {s : pS} (h : RdR c n N tt B op s g) (k : Q (pI (pk (tokR (c 119) n N) s = 135)) g) : zC T (d + 5) 247 [mx_R 99, mx_S 19] g Q X := by
  rw [← pI_congr (pkR h 135 (by decide))] at k
  exact sIs_19 h.fb h.ft k
theorem sW_n {T : Nat × (Nat → Int32)} {d : Nat} {Q : mz_K} {X : mz_X} {g : mz_S} {c : mz_S} {n N tt B op : Nat} {s : pS} (h : RdR c n N tt B op s g) (k : Q (pI (pk (tokR (c 119) n N) s = 136)) g) : zC T (d + 5) 247 [mx_R 99, mx_S 25] g Q X := by
  rw [← pI_congr (pkR h 136 (by decide))] at k
  exact sIs_25 h.fb h.ft k
theorem sW_coin {T : Nat × (Nat → Int32)} {d : Nat} {Q : mz_K} {X : mz_X} {g : mz_S} {c : mz_S} {n N tt B op : Nat} {s : pS} (h : RdR c n N tt B op s g) (k : Q (pI (pk (tokR (c 119) n N) s = 137)) g) : zC T (d + 5) 247 [mx_R 99, mx_S 26] g Q X := by
  rw [← pI_congr (pkR h 137 (by decide))] at k
  exact sIs_26 h.fb h.ft k
theorem sW_way {T : Nat × (Nat → Int32)} {d : Nat} {Q : mz_K} {X : mz_X} {g : mz_S} {c : mz_S} {n N tt B op : Nat} {s : pS} (h : RdR c n N tt B op s g) (k : Q (pI (pk (tokR (c 119) n N) s = 138)) g) : zC T (d + 5) 247 [mx_R 99, mx_S 27] g Q X := by
  rw [← pI_congr (pkR h 138 (by decide))] at k
  exact sIs_27 h.fb h.ft k
theorem sW_seasons {T : Nat × (Nat → Int32)} {d : Nat} {Q : mz_K} {X : mz_X} {g : mz_S} {c : mz_S} {n N tt B op : Nat} {s : pS} (h : RdR c n N tt B op s g) (k : Q (pI (pk (tokR (c 119) n N) s = 139)) g) : zC T (d + 5) 247 [mx_R 99, mx_S 28] g Q X := by
  rw [← pI_congr (pkR h 139 (by decide))] at k
  exact sIs_28 h.fb h.ft k
theorem sW_kin {T : Nat × (Nat → Int32)} {d : Nat} {Q : mz_K} {X : mz_X} {g : mz_S} {c : mz_S} {n N tt B op : Nat} {s : pS} (h : RdR c n N tt B op s g) (k : Q (pI (pk (tokR (c 119) n N) s = 140)) g) : zC T (d + 5) 247 [mx_R 99, mx_S 20] g Q X := by
  rw [← pI_congr (pkR h 140 (by decide))] at k
  exact sIs_20 h.fb h.ft k
theorem sW_day {T : Nat × (Nat → Int32)} {d : Nat} {Q : mz_K} {X : mz_X} {g : mz_S} {c : mz_S} {n N tt B op : Nat} {s : pS} (h : RdR c n N tt B op s g) (k : Q (pI (pk (tokR (c 119) n N) s = 141)) g) : zC T (d + 5) 247 [mx_R 99, mx_S 29] g Q X := by
  rw [← pI_congr (pkR h 141 (by decide))] at k
  exact sIs_29 h.fb h.ft k
theorem sW_time {T : Nat × (Nat → Int32)} {d : Nat} {Q : mz_K} {X : mz_X} {g : mz_S} {c : mz_S} {n N tt B op : Nat} {s : pS} (h : RdR c n N tt B op s g) (k : Q (pI (pk (tokR (c 119) n N) s = 142)) g) : zC T (d + 5) 247 [mx_R 99, mx_S 30] g Q X := by
  rw [← pI_congr (pkR h 142 (by decide))] at k
  exact sIs_30 h.fb h.ft k
theorem sW_from {T : Nat × (Nat → Int32)} {d : Nat} {Q : mz_K} {X : mz_X} {g : mz_S} {c : mz_S} {n N tt B op : Nat} {s : pS} (h : RdR c n N tt B op s g) (k : Q (pI (pk (tokR (c 119) n N) s = 143)) g) : zC T (d + 5) 247 [mx_R 99, mx_S 31] g Q X := by
  rw [← pI_congr (pkR h 143 (by decide))] at k
  exact sIs_31 h.fb h.ft k
theorem sW_to {T : Nat × (Nat → Int32)} {d : Nat} {Q : mz_K} {X : mz_X} {g : mz_S} {c : mz_S} {n N tt B op : Nat} {s : pS} (h : RdR c n N tt B op s g) (k : Q (pI (pk (tokR (c 119) n N) s = 144)) g) : zC T (d + 5) 247 [mx_R 99, mx_S 32] g Q X := by
  rw [← pI_congr (pkR h 144 (by decide))] at k
  exact sIs_32 h.fb h.ft k
theorem sW_near {T : Nat × (Nat → Int32)} {d : Nat} {Q : mz_K} {X : mz_X} {g : mz_S} {c : mz_S} {n N tt B op : Nat} {s : pS} (h : RdR c n N tt B op s g) (k : Q (pI (pk (tokR (c 119) n N) s = 145)) g) : zC T (d + 5) 247 [mx_R 99, mx_S 21] g Q X := by
  rw [← pI_congr (pkR h 145 (by decide))] at k
  exact sIs_21 h.fb h.ft k
theorem sW_far {T : Nat × (Nat → Int32)} {d : Nat} {Q : mz_K} {X : mz_X} {g : mz_S} {c : mz_S} {n N tt B op : Nat} {s : pS} (h : RdR c n N tt B op s g) (k : Q (pI (pk (tokR (c 119) n N) s = 146)) g) : zC T (d + 5) 247 [mx_R 99, mx_S 22] g Q X := by
  rw [← pI_congr (pkR h 146 (by decide))] at k
  exact sIs_22 h.fb h.ft k
theorem sW_teller {T : Nat × (Nat → Int32)} {d : Nat} {Q : mz_K} {X : mz_X} {g : mz_S} {c : mz_S} {n N tt B op : Nat} {s : pS} (h : RdR c n N tt B op s g) (k : Q (pI (pk (tokR (c 119) n N) s = 147)) g) : zC T (d + 5) 247 [mx_R 99, mx_S 23] g Q X := by
  rw [← pI_congr (pkR h 147 (by decide))] at k
  exact sIs_23 h.fb h.ft k
theorem sW_payer {T : Nat × (Nat → Int32)} {d : Nat} {Q : mz_K} {X : mz_X} {g : mz_S} {c : mz_S} {n N tt B op : Nat} {s : pS} (h : RdR c n N tt B op s g) (k : Q (pI (pk (tokR (c 119) n N) s = 148)) g) : zC T (d + 5) 247 [mx_R 99, mx_S 24] g Q X := by
  rw [← pI_congr (pkR h 148 (by decide))] at k
  exact sIs_24 h.fb h.ft k
theorem sW_unless {T : Nat × (Nat → Int32)} {d : Nat} {Q : mz_K} {X : mz_X} {g : mz_S} {c : mz_S} {n N tt B op : Nat} {s : pS} (h : RdR c n N tt B op s g) (k : Q (pI (pk (tokR (c 119) n N) s = 149)) g) : zC T (d + 5) 247 [mx_R 99, mx_S 33] g Q X := by
  rw [← pI_congr (pkR h 149 (by decide))] at k
  exact sIs_33 h.fb h.ft k
theorem sW_or {T : Nat × (Nat → Int32)} {d : Nat} {Q : mz_K} {X : mz_X} {g : mz_S} {c : mz_S} {n N tt B op : Nat} {s : pS} (h : RdR c n N tt B op s g) (k : Q (pI (pk (tokR (c 119) n N) s = 150)) g) : zC T (d + 5) 247 [mx_R 99, mx_S 36] g Q X := by
  rw [← pI_congr (pkR h 150 (by decide))] at k
  exact sIs_36 h.fb h.ft k
theorem sW_and {T : Nat × (Nat → Int32)} {d : Nat} {Q : mz_K} {X : mz_X} {g : mz_S} {c : mz_S} {n N tt B op : Nat} {s : pS} (h : RdR c n N tt B op s g) (k : Q (pI (pk (tokR (c 119) n N) s = 151)) g) : zC T (d + 5) 247 [mx_R 99, mx_S 35] g Q X := by
  rw [← pI_congr (pkR h 151 (by decide))] at k
  exact sIs_35 h.fb h.ft k
theorem sW_not {T : Nat × (Nat → Int32)} {d : Nat} {Q : mz_K} {X : mz_X} {g : mz_S} {c : mz_S} {n N tt B op : Nat} {s : pS} (h : RdR c n N tt B op s g) (k : Q (pI (pk (tokR (c 119) n N) s = 152)) g) : zC T (d + 5) 247 [mx_R 99, mx_S 34] g Q X := by
  rw [← pI_congr (pkR h 152 (by decide))] at k
  exact sIs_34 h.fb h.ft k
theorem sX12_nameNow {T : Nat × (Nat → Int32)} {d : Nat} {Q : mz_K} {X : mz_X} {g : mz_S} {c : mz_S} {n N tt B op : Nat} {s : pS} (h : RdR c n N tt B op s g) (k : Q (if 136 ≤ pk (tokR (c 119) n N) s ∧ pk (tokR (c 119) n N) s ≤ 144 then pk (tokR (c 119) n N) s - 136 else -1) g) : zC T (d + 6) 251 [mx_R 99] g Q X := by
  refine zX12_nameNow ?_
  refine sW_n h ?_
  first | with_reducible refine b_eq (fun z0 => ?_) (fun z0 => ?_) | with_reducible refine b_ne (fun z0 => ?_) (fun z0 => ?_)
  · skip
    refine sW_coin h ?_
    first | with_reducible refine b_eq (fun z1 => ?_) (fun z1 => ?_) | with_reducible refine b_ne (fun z1 => ?_) (fun z1 => ?_)
    · skip
      refine sW_way h ?_
      first | with_reducible refine b_eq (fun z2 => ?_) (fun z2 => ?_) | with_reducible refine b_ne (fun z2 => ?_) (fun z2 => ?_)
      · skip
        refine sW_seasons h ?_
        first | with_reducible refine b_eq (fun z3 => ?_) (fun z3 => ?_) | with_reducible refine b_ne (fun z3 => ?_) (fun z3 => ?_)
        · skip
          refine sW_kin h ?_
          first | with_reducible refine b_eq (fun z4 => ?_) (fun z4 => ?_) | with_reducible refine b_ne (fun z4 => ?_) (fun z4 => ?_)
          · skip
            refine sW_day h ?_
            first | with_reducible refine b_eq (fun z5 => ?_) (fun z5 => ?_) | with_reducible refine b_ne (fun z5 => ?_) (fun z5 => ?_)
            · skip
              refine sW_time h ?_
              first | with_reducible refine b_eq (fun z6 => ?_) (fun z6 => ?_) | with_reducible refine b_ne (fun z6 => ?_) (fun z6 => ?_)
              · skip
                refine sW_from h ?_
                first | with_reducible refine b_eq (fun z7 => ?_) (fun z7 => ?_) | with_reducible refine b_ne (fun z7 => ?_) (fun z7 => ?_)
                · skip
                  refine sW_to h ?_
                  first | with_reducible refine b_eq (fun z8 => ?_) (fun z8 => ?_) | with_reducible refine b_ne (fun z8 => ?_) (fun z8 => ?_)
                  · refine zX12_nameNow_130 ?_
                    have e : (if 136 ≤ pk (tokR (c 119) n N) s ∧ pk (tokR (c 119) n N) s ≤ 144 then pk (tokR (c 119) n N) s - 136 else -1) = -1 := by
                      repeat rw [if_neg (by omega)]
                    rw [e] at k; exact k
                  · refine zX12_nameNow_130 ?_
                    have e : (if 136 ≤ pk (tokR (c 119) n N) s ∧ pk (tokR (c 119) n N) s ≤ 144 then pk (tokR (c 119) n N) s - 136 else -1) = 8 := by rw [z8]; decide
                    rw [e] at k; exact k
                · refine zX12_nameNow_130 ?_
                  have e : (if 136 ≤ pk (tokR (c 119) n N) s ∧ pk (tokR (c 119) n N) s ≤ 144 then pk (tokR (c 119) n N) s - 136 else -1) = 7 := by rw [z7]; decide
                  rw [e] at k; exact k
              · refine zX12_nameNow_130 ?_
                have e : (if 136 ≤ pk (tokR (c 119) n N) s ∧ pk (tokR (c 119) n N) s ≤ 144 then pk (tokR (c 119) n N) s - 136 else -1) = 6 := by rw [z6]; decide
                rw [e] at k; exact k
            · refine zX12_nameNow_130 ?_
              have e : (if 136 ≤ pk (tokR (c 119) n N) s ∧ pk (tokR (c 119) n N) s ≤ 144 then pk (tokR (c 119) n N) s - 136 else -1) = 5 := by rw [z5]; decide
              rw [e] at k; exact k
          · refine zX12_nameNow_130 ?_
            have e : (if 136 ≤ pk (tokR (c 119) n N) s ∧ pk (tokR (c 119) n N) s ≤ 144 then pk (tokR (c 119) n N) s - 136 else -1) = 4 := by rw [z4]; decide
            rw [e] at k; exact k
        · refine zX12_nameNow_130 ?_
          have e : (if 136 ≤ pk (tokR (c 119) n N) s ∧ pk (tokR (c 119) n N) s ≤ 144 then pk (tokR (c 119) n N) s - 136 else -1) = 3 := by rw [z3]; decide
          rw [e] at k; exact k
      · refine zX12_nameNow_130 ?_
        have e : (if 136 ≤ pk (tokR (c 119) n N) s ∧ pk (tokR (c 119) n N) s ≤ 144 then pk (tokR (c 119) n N) s - 136 else -1) = 2 := by rw [z2]; decide
        rw [e] at k; exact k
    · refine zX12_nameNow_130 ?_
      have e : (if 136 ≤ pk (tokR (c 119) n N) s ∧ pk (tokR (c 119) n N) s ≤ 144 then pk (tokR (c 119) n N) s - 136 else -1) = 1 := by rw [z1]; decide
      rw [e] at k; exact k
  · refine zX12_nameNow_130 ?_
    have e : (if 136 ≤ pk (tokR (c 119) n N) s ∧ pk (tokR (c 119) n N) s ≤ 144 then pk (tokR (c 119) n N) s - 136 else -1) = 0 := by rw [z0]; decide
    rw [e] at k; exact k
theorem sX12_whomNow {T : Nat × (Nat → Int32)} {d : Nat} {Q : mz_K} {X : mz_X} {g : mz_S} {c : mz_S} {n N tt B op : Nat} {s : pS} (h : RdR c n N tt B op s g) (k : Q (if pk (tokR (c 119) n N) s = 140 then 0 else if pk (tokR (c 119) n N) s = 145 then 1 else if pk (tokR (c 119) n N) s = 146 then 2 else -1) g) : zC T (d + 6) 252 [mx_R 99] g Q X := by
  refine zX12_whomNow ?_
  refine sW_kin h ?_
  first | with_reducible refine b_eq (fun z0 => ?_) (fun z0 => ?_) | with_reducible refine b_ne (fun z0 => ?_) (fun z0 => ?_)
  · skip
    refine sW_near h ?_
    first | with_reducible refine b_eq (fun z1 => ?_) (fun z1 => ?_) | with_reducible refine b_ne (fun z1 => ?_) (fun z1 => ?_)
    · skip
      refine sW_far h ?_
      first | with_reducible refine b_eq (fun z2 => ?_) (fun z2 => ?_) | with_reducible refine b_ne (fun z2 => ?_) (fun z2 => ?_)
      · refine zX12_whomNow_43 ?_
        have e : (if pk (tokR (c 119) n N) s = 140 then 0 else if pk (tokR (c 119) n N) s = 145 then 1 else if pk (tokR (c 119) n N) s = 146 then 2 else -1) = -1 := by
          repeat rw [if_neg (by omega)]
        rw [e] at k; exact k
      · refine zX12_whomNow_43 ?_
        have e : (if pk (tokR (c 119) n N) s = 140 then 0 else if pk (tokR (c 119) n N) s = 145 then 1 else if pk (tokR (c 119) n N) s = 146 then 2 else -1) = 2 := by rw [z2]; decide
        rw [e] at k; exact k
    · refine zX12_whomNow_43 ?_
      have e : (if pk (tokR (c 119) n N) s = 140 then 0 else if pk (tokR (c 119) n N) s = 145 then 1 else if pk (tokR (c 119) n N) s = 146 then 2 else -1) = 1 := by rw [z1]; decide
      rw [e] at k; exact k
  · refine zX12_whomNow_43 ?_
    have e : (if pk (tokR (c 119) n N) s = 140 then 0 else if pk (tokR (c 119) n N) s = 145 then 1 else if pk (tokR (c 119) n N) s = 146 then 2 else -1) = 0 := by rw [z0]; decide
    rw [e] at k; exact k
theorem sX12_saysNow {T : Nat × (Nat → Int32)} {d : Nat} {Q : mz_K} {X : mz_X} {g : mz_S} {c : mz_S} {n N tt B op : Nat} {s : pS} (h : RdR c n N tt B op s g) (k : Q (if 128 ≤ pk (tokR (c 119) n N) s ∧ pk (tokR (c 119) n N) s ≤ 135 then (if pk (tokR (c 119) n N) s ≤ 131 then pk (tokR (c 119) n N) s - 128 else pk (tokR (c 119) n N) s - 126) else -1) g) : zC T (d + 6) 253 [mx_R 99] g Q X := by
  refine zX12_saysNow ?_
  refine sW_fee h ?_
  first | with_reducible refine b_eq (fun z0 => ?_) (fun z0 => ?_) | with_reducible refine b_ne (fun z0 => ?_) (fun z0 => ?_)
  · skip
    refine sW_dies h ?_
    first | with_reducible refine b_eq (fun z1 => ?_) (fun z1 => ?_) | with_reducible refine b_ne (fun z1 => ?_) (fun z1 => ?_)
    · skip
      refine sW_bound h ?_
      first | with_reducible refine b_eq (fun z2 => ?_) (fun z2 => ?_) | with_reducible refine b_ne (fun z2 => ?_) (fun z2 => ?_)
      · skip
        refine sW_rank h ?_
        first | with_reducible refine b_eq (fun z3 => ?_) (fun z3 => ?_) | with_reducible refine b_ne (fun z3 => ?_) (fun z3 => ?_)
        · skip
          refine sW_bears h ?_
          first | with_reducible refine b_eq (fun z4 => ?_) (fun z4 => ?_) | with_reducible refine b_ne (fun z4 => ?_) (fun z4 => ?_)
          · skip
            refine sW_loss h ?_
            first | with_reducible refine b_eq (fun z5 => ?_) (fun z5 => ?_) | with_reducible refine b_ne (fun z5 => ?_) (fun z5 => ?_)
            · skip
              refine sW_ban h ?_
              first | with_reducible refine b_eq (fun z6 => ?_) (fun z6 => ?_) | with_reducible refine b_ne (fun z6 => ?_) (fun z6 => ?_)
              · skip
                refine sW_void h ?_
                first | with_reducible refine b_eq (fun z7 => ?_) (fun z7 => ?_) | with_reducible refine b_ne (fun z7 => ?_) (fun z7 => ?_)
                · refine zX12_saysNow_117 ?_
                  have e : (if 128 ≤ pk (tokR (c 119) n N) s ∧ pk (tokR (c 119) n N) s ≤ 135 then (if pk (tokR (c 119) n N) s ≤ 131 then pk (tokR (c 119) n N) s - 128 else pk (tokR (c 119) n N) s - 126) else -1) = -1 := by
                    repeat rw [if_neg (by omega)]
                  rw [e] at k; exact k
                · refine zX12_saysNow_117 ?_
                  have e : (if 128 ≤ pk (tokR (c 119) n N) s ∧ pk (tokR (c 119) n N) s ≤ 135 then (if pk (tokR (c 119) n N) s ≤ 131 then pk (tokR (c 119) n N) s - 128 else pk (tokR (c 119) n N) s - 126) else -1) = 9 := by rw [z7]; decide
                  rw [e] at k; exact k
              · refine zX12_saysNow_117 ?_
                have e : (if 128 ≤ pk (tokR (c 119) n N) s ∧ pk (tokR (c 119) n N) s ≤ 135 then (if pk (tokR (c 119) n N) s ≤ 131 then pk (tokR (c 119) n N) s - 128 else pk (tokR (c 119) n N) s - 126) else -1) = 8 := by rw [z6]; decide
                rw [e] at k; exact k
            · refine zX12_saysNow_117 ?_
              have e : (if 128 ≤ pk (tokR (c 119) n N) s ∧ pk (tokR (c 119) n N) s ≤ 135 then (if pk (tokR (c 119) n N) s ≤ 131 then pk (tokR (c 119) n N) s - 128 else pk (tokR (c 119) n N) s - 126) else -1) = 7 := by rw [z5]; decide
              rw [e] at k; exact k
          · refine zX12_saysNow_117 ?_
            have e : (if 128 ≤ pk (tokR (c 119) n N) s ∧ pk (tokR (c 119) n N) s ≤ 135 then (if pk (tokR (c 119) n N) s ≤ 131 then pk (tokR (c 119) n N) s - 128 else pk (tokR (c 119) n N) s - 126) else -1) = 6 := by rw [z4]; decide
            rw [e] at k; exact k
        · refine zX12_saysNow_117 ?_
          have e : (if 128 ≤ pk (tokR (c 119) n N) s ∧ pk (tokR (c 119) n N) s ≤ 135 then (if pk (tokR (c 119) n N) s ≤ 131 then pk (tokR (c 119) n N) s - 128 else pk (tokR (c 119) n N) s - 126) else -1) = 3 := by rw [z3]; decide
          rw [e] at k; exact k
      · refine zX12_saysNow_117 ?_
        have e : (if 128 ≤ pk (tokR (c 119) n N) s ∧ pk (tokR (c 119) n N) s ≤ 135 then (if pk (tokR (c 119) n N) s ≤ 131 then pk (tokR (c 119) n N) s - 128 else pk (tokR (c 119) n N) s - 126) else -1) = 2 := by rw [z2]; decide
        rw [e] at k; exact k
    · refine zX12_saysNow_117 ?_
      have e : (if 128 ≤ pk (tokR (c 119) n N) s ∧ pk (tokR (c 119) n N) s ≤ 135 then (if pk (tokR (c 119) n N) s ≤ 131 then pk (tokR (c 119) n N) s - 128 else pk (tokR (c 119) n N) s - 126) else -1) = 1 := by rw [z1]; decide
      rw [e] at k; exact k
  · refine zX12_saysNow_117 ?_
    have e : (if 128 ≤ pk (tokR (c 119) n N) s ∧ pk (tokR (c 119) n N) s ≤ 135 then (if pk (tokR (c 119) n N) s ≤ 131 then pk (tokR (c 119) n N) s - 128 else pk (tokR (c 119) n N) s - 126) else -1) = 0 := by rw [z0]; decide
    rw [e] at k; exact k
