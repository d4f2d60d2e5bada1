/-! a line as a pure function of tokens -/
def pnum (t : pT) (s : pS) : Int × pS := if pk t s = 154 then (if 1 ≤ t.2.2 s.1 ∧ t.2.2 s.1 ≤ 999 then (t.2.2 s.1, padv s) else (0, pfail t 4 s)) else (0, pfail t 2 s)
def pcho (t : pT) (a b c : Int) (s : pS) : Int × pS := if pk t s = a then (0, padv s) else if pk t s = b then (1, padv s) else if pk t s = c then (2, padv s) else (0, pfail t 2 s)
def pF : Nat := 7000
/-- sort, what is voided, the state with the sum's steps -/
def psay (t : pT) (s : pS) : Int × Int × pS :=
  if 128 ≤ pk t s ∧ pk t s ≤ 135 then
    (if pk t s = 135 then (9, (pnum t (padv s)).1, (pnum t (padv s)).2)
     else if pk t s = 134 then (8, 0, pemit 154 1 (padv s))
     else if pk t s = 133 then (7, 0, pemit 154 (pcho t 148 147 147 (padv s)).1 (pcho t 148 147 147 (padv s)).2)
     else if pk t s = 131 then (3 + (pcho t 140 145 146 (padv s)).1, 0, prs t pF 4 0 (pcho t 140 145 146 (padv s)).2)
     else ((if pk t s ≤ 131 then pk t s - 128 else pk t s - 128 + 6 - 3 - 1), 0, prs t pF 4 0 (padv s)))
  else (0, 0, pfail t 2 s)
abbrev pA : Type := Int × Int × Int × List (Int × Int) × List (Int × Int)
def pre0 (s : pS) : pS := (s.1, s.2.1, s.2.2.1, [])
def phead (t : pT) (k : Nat) (s : pS) : pS := if ¬ pk t s = 154 ∧ ¬ (128 ≤ pk t s ∧ pk t s ≤ 135) then pfail t 2 s else if k = 24 then pfail t 3 s else s
def pnumb (t : pT) (s : pS) : Int × pS := if pk t s = 154 then ((pnum t s).1, ptake t 58 (pnum t s).2) else (0, s)
def ptest (t : pT) (s : pS) : pS := if pk t s = 149 then prs t pF 9 0 (padv s) else s
/-- a line that begins: its parts, the state behind it -/
def pbody (t : pT) (s : pS) : pA × pS :=
  (((pnumb t s).1, (psay t (pnumb t s).2).1, (psay t (pnumb t s).2).2.1, (psay t (pnumb t s).2).2.2.2.2.2, (ptest t (pre0 (psay t (pnumb t s).2).2.2)).2.2.2),
   ptake t 59 (ptest t (pre0 (psay t (pnumb t s).2).2.2)))
/-- growth of a state with its own list -/
theorem pG.num {t : pT} {N : Nat} (hN : pN t N) {s : pS} : pG N s (pnum t s).2 ∧ pL 0 s (pnum t s).2 := by
  unfold pnum
  split
  · next z =>
    split
    · exact ⟨pG.adv hN (by omega), pL.adv.weak⟩
    · exact ⟨pG.fail, pL.fail⟩
  · exact ⟨pG.fail, pL.fail⟩
theorem pG.cho {t : pT} {N : Nat} (hN : pN t N) {a b c : Int} (ha : a ≤ 154) (hb : b ≤ 154) (hc : c ≤ 154) {s : pS} : pG N s (pcho t a b c s).2 ∧ pL 0 s (pcho t a b c s).2 ∧ (0 ≤ (pcho t a b c s).1 ∧ (pcho t a b c s).1 ≤ 2) := by
  unfold pcho
  split
  · exact ⟨pG.adv hN (by omega), pL.adv.weak, (by simp : (0 : Int) ≤ _), (by simp)⟩
  · split
    · exact ⟨pG.adv hN (by omega), pL.adv.weak, (by simp : (0 : Int) ≤ _), (by simp)⟩
    · split
      · exact ⟨pG.adv hN (by omega), pL.adv.weak, (by simp : (0 : Int) ≤ _), (by simp)⟩
      · exact ⟨pG.fail, pL.fail, (by simp : (0 : Int) ≤ _), (by simp)⟩
theorem sX7_readNumber {T : Nat × (Nat → Int32)} {d : Nat} {Q : mz_K} {X : mz_X} {g : mz_S} {c : mz_S} {N b : Nat} {s : pS} (hW : TkW c N) (h : RdC c N b s g) (k : ∀ g', RdC c N b (pnum (tokC c N) s).2 g' → Q (pnum (tokC c N) s).1 g') : zC T (d + 2) 99 [mx_R 31] g Q X := by
  have hN := hW.pN
  have hsN := h.2.2.2.2.2.2.2.2.2
  have hr := pk_rng hW hsN
  have hn1 := hW.1
  refine zX7_readNumber (sX7_kind hW h ?_)
  unfold pnum at k
  first | with_reducible refine c_lt ?_ ?_ (fun z1 => ?_) (fun z1 => ?_) | with_reducible refine c_le ?_ ?_ (fun z1 => ?_) (fun z1 => ?_) | with_reducible refine c_eq ?_ ?_ (fun z1 => ?_) (fun z1 => ?_) | with_reducible refine c_ne ?_ ?_ (fun z1 => ?_) (fun z1 => ?_)
  · omega
  · omega
  · rw [if_pos z1] at k
    have h1 : g 31 1 = s.1 := h.2.2.1
    have e30 : g 30 = c 30 := h.1.1 30 (by decide) (by decide)
    have hv := (hW.2.2.1 s.1 (by omega)).2
    have hs := pk_n hN (s := s) (by omega)
    have et : (tokC c N).2.2 s.1 = c 30 s.1 := if_pos (by omega)
    rw [et] at k
    rw [h1, e30]
    refine s_inN ?_ (fun ea => ?_)
    · omega
    try simp only [ea]
    clear ea
    refine sX11_within (by omega) (by omega) (by omega) ?_
    first | with_reducible refine b_eq (fun z2 => ?_) (fun z2 => ?_) | with_reducible refine b_ne (fun z2 => ?_) (fun z2 => ?_)
    · rw [if_pos z2] at k
      rintro _ rfl
      exact k _ (h.adv hs.2.1)
    · rw [if_neg z2] at k
      exact sX7_fail hW h (by omega) k
  · rw [if_neg z1] at k
    exact sX7_fail hW h (by omega) k
theorem sX7_readChoice {T : Nat × (Nat → Int32)} {d : Nat} {Q : mz_K} {X : mz_X} {g : mz_S} {c : mz_S} {N b : Nat} {s : pS} {x y z : Int} (hW : TkW c N) (h : RdC c N b s g) (hx : 0 ≤ x ∧ x ≤ 154) (hy : 0 ≤ y ∧ y ≤ 154) (hz : 0 ≤ z ∧ z ≤ 154) (k : ∀ g', RdC c N b (pcho (tokC c N) x y z s).2 g' → Q (pcho (tokC c N) x y z s).1 g') : zC T (d + 2) 101 [mx_R 31, mx_I x, mx_I y, mx_I z] g Q X := by
  have hN := hW.pN
  have hsN := h.2.2.2.2.2.2.2.2.2
  have hr := pk_rng hW hsN
  have go : (pk (tokC c N) s = x ∨ pk (tokC c N) s = y ∨ pk (tokC c N) s = z) → aX7_readChoice T (d + 1) Q X 31 [some (mx_R 31), some (mx_I x), some (mx_I y), some (mx_I z), some (mx_I (pk (tokC c N) s))] [] g (0, 0) := by
    intro q
    have hs := pk_n hN (s := s) (by omega)
    refine zX7_readChoice_31 ?_
    rintro _ rfl
    unfold pcho at k
    first | with_reducible refine c_lt ?_ ?_ (fun y1 => ?_) (fun y1 => ?_) | with_reducible refine c_le ?_ ?_ (fun y1 => ?_) (fun y1 => ?_) | with_reducible refine c_eq ?_ ?_ (fun y1 => ?_) (fun y1 => ?_) | with_reducible refine c_ne ?_ ?_ (fun y1 => ?_) (fun y1 => ?_)
    · omega
    · omega
    · rw [if_neg y1] at k
      first | with_reducible refine c_lt ?_ ?_ (fun y2 => ?_) (fun y2 => ?_) | with_reducible refine c_le ?_ ?_ (fun y2 => ?_) (fun y2 => ?_) | with_reducible refine c_eq ?_ ?_ (fun y2 => ?_) (fun y2 => ?_) | with_reducible refine c_ne ?_ ?_ (fun y2 => ?_) (fun y2 => ?_)
      · omega
      · omega
      · rw [if_neg y2, if_pos (by omega)] at k
        exact zX7_readChoice_60 (k _ (h.adv hs.2.1))
      · rw [if_pos y2] at k
        exact zX7_readChoice_60 (k _ (h.adv hs.2.1))
    · rw [if_pos y1] at k
      exact k _ (h.adv hs.2.1)
  refine zX7_readChoice (sX7_kind hW h ?_)
  first | with_reducible refine c_lt ?_ ?_ (fun z1 => ?_) (fun z1 => ?_) | with_reducible refine c_le ?_ ?_ (fun z1 => ?_) (fun z1 => ?_) | with_reducible refine c_eq ?_ ?_ (fun z1 => ?_) (fun z1 => ?_) | with_reducible refine c_ne ?_ ?_ (fun z1 => ?_) (fun z1 => ?_)
  · omega
  · omega
  · exact go (by omega)
  · first | with_reducible refine c_lt ?_ ?_ (fun z2 => ?_) (fun z2 => ?_) | with_reducible refine c_le ?_ ?_ (fun z2 => ?_) (fun z2 => ?_) | with_reducible refine c_eq ?_ ?_ (fun z2 => ?_) (fun z2 => ?_) | with_reducible refine c_ne ?_ ?_ (fun z2 => ?_) (fun z2 => ?_)
    · omega
    · omega
    · exact go (by omega)
    · first | with_reducible refine c_lt ?_ ?_ (fun z3 => ?_) (fun z3 => ?_) | with_reducible refine c_le ?_ ?_ (fun z3 => ?_) (fun z3 => ?_) | with_reducible refine c_eq ?_ ?_ (fun z3 => ?_) (fun z3 => ?_) | with_reducible refine c_ne ?_ ?_ (fun z3 => ?_) (fun z3 => ?_)
      · omega
      · omega
      · exact go (by omega)
      · unfold pcho at k
        rw [if_neg z1, if_neg z2, if_neg z3] at k
        exact sX7_fail hW h (by omega) k
theorem sX7_isSaying {T : Nat × (Nat → Int32)} {d : Nat} {Q : mz_K} {X : mz_X} {g : mz_S} {x : Int} (hx : R32 x) (k : Q (pI (128 ≤ x ∧ x ≤ 135)) g) : zC T (d + 2) 97 [mx_I x] g Q X := zX7_isSaying (sX11_within hx (by omega) (by omega) ⟨pI_01 _, k⟩)
/-- a reader's state may be looked at anew from where it stands -/
theorem RdC.here {c c' : mz_S} {N b : Nat} {s : pS} {g : mz_S} (h : RdC c N b s g) (e1 : c' 31 = g 31) : RdC c' N (b + s.2.2.2.length) (pre0 s) c' := by
  obtain ⟨h1, h2, h3, h4, h5, h6, h7, h8, h9, h10⟩ := h
  refine ⟨Ch.rf c', fun _ _ _ _ _ => rfl, ?_, ?_, ?_, ?_, fun _ _ => rfl, fun i hi => ?_, h9, h10⟩
  · rw [e1]; exact h3
  · rw [e1]; exact h4
  · rw [e1]; exact h5
  · rw [e1, h6]; show (b : Int) + (s.2.2.2.length : Int) = ((b + s.2.2.2.length : Nat) : Int) + (([] : List (Int × Int)).length : Nat); simp
  · exact absurd hi (Nat.not_lt_zero _)
theorem tokC_same {c c' : mz_S} {N : Nat} (h : ∀ q ∈ [28, 29, 30], c' q = c q) : tokC c' N = tokC c N := by
  unfold tokC
  rw [h 28 (by decide), h 29 (by decide), h 30 (by decide)]
theorem TkW.same {c c' : mz_S} {N : Nat} (w : TkW c N) (h : ∀ q ∈ [26, 28, 29, 30], c' q = c q) : TkW c' N := by
  unfold TkW at w ⊢
  rw [h 26 (by decide), h 28 (by decide), h 30 (by decide)]
  exact w
