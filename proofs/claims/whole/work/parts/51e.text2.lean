/-! readText behind its tokens -/
theorem TextF.tr {G G1 G2 : mz_S} {L B l b : Nat} (h : TextF G G1 L B) (h2 : LineF G1 G2 l b) (hl : L ≤ l) (hb : B ≤ b) : TextF G G2 L B := ⟨h.1.tr h2.1, fun q hq i hi => (h2.2.1 q hq i (by omega)).trans (h.2.1 q hq i hi), fun i hi => (h2.2.2 i (by omega)).trans (h.2.2 i hi)⟩
theorem TextF.tk {G G' : mz_S} {N L B : Nat} (h : TextF G G' L B) (hW : TkW G N) : TkW G' N ∧ tokC G' N = tokC G N :=
  ⟨hW.same (fun q hq => h.1.1 q (by revert hq; revert q; decide) (by intro z; subst z; revert hq; decide)), tokC_same (fun q hq => h.1.1 q (by revert hq; revert q; decide) (by intro z; subst z; revert hq; decide))⟩
/-- what the reading leaves -/
def RtOut (c : mz_S) (N L B : Nat) (r : pS × List pA) (g' : mz_S) : Prop := TextF c g' L B ∧ RdP N r.1 g' ∧ (r.1.2.1 = 0 → g' 31 4 = ((L + r.2.length : Nat) : Int) ∧ r.2.length ≤ 24 ∧ ∃ b : Nat, g' 31 11 = b ∧ B ≤ b ∧ b ≤ B + 400 ∧ LnsC g' L b r.2)
theorem rt_loop {T : Nat × (Nat → Int32)} {d : Nat} {Q : mz_K} {X : mz_X} {c : mz_S} {u : Nat × Nat} {N L B : Nat} {x2 x3 x1 : Int} (hW : TkW c N) (hL : L ≤ 120) (hB : B ≤ 2000) (hd : 175 ≤ d) (f : Nat) : ∀ (k : Nat) (s : pS) (ls : List pA) (g : mz_S), k ≤ 25 → 26 - k ≤ f → s.2.2.2 = [] → TextF c g L B → RdP N s g → (s.2.1 = 0 → g 31 4 = ((L + k : Nat) : Int) ∧ ls.length = k ∧ k ≤ 24 ∧ ∃ b : Nat, g 31 11 = b ∧ B ≤ b ∧ b ≤ B + s.1 ∧ LnsC g L b ls)
    → (∀ g' (j : Int), RtOut c N L B (pgo (tokC c N) f k s ls) g' → aX7_readText T d Q X 65 [some (mx_R 31), some (mx_I x1), some (mx_I x2), some (mx_I x3), some (mx_I j)] [] g' u)
    → aX7_readText T d Q X 36 [some (mx_R 31), some (mx_I x1), some (mx_I x2), some (mx_I x3), some (mx_I (k : Int))] [] g u := by
  obtain ⟨d, rfl⟩ : ∃ d', d = d' + 2 := ⟨d - 2, by omega⟩
  induction f with
  | zero => intro k s ls g hk hf; omega
  | succ f ih =>
    intro k s ls g hk hf p0 hF hP hI kk
    have hN := hW.pN
    obtain ⟨hWg, tg⟩ := hF.tk hW
    have hr := pk_rng hWg hP.2.2.2.1
    rw [tg] at hr
    have hn1 := hW.1
    have w1 := hP.2.2.2.1
    have done : pk (tokC c N) s = 155 → RtOut c N L B (pgo (tokC c N) (f + 1) k s ls) g := by
      intro z
      have e : pgo (tokC c N) (f + 1) k s ls = (s, ls) := by unfold pgo; rw [if_pos z]
      rw [e]
      refine ⟨hF, hP, fun z2 => ?_⟩
      obtain ⟨i1, i2, i3, b, i4, i5, i6, i7⟩ := hI z2
      exact ⟨by rw [i1]; show ((L + k : Nat) : Int) = ((L + ls.length : Nat) : Int); rw [i2], by show ls.length ≤ 24; omega, b, i4, i5, by omega, i7⟩
    refine zX7_readText_36 ?_
    first | with_reducible refine c_lt ?_ ?_ (fun z0 => ?_) (fun z0 => ?_) | with_reducible refine c_le ?_ ?_ (fun z0 => ?_) (fun z0 => ?_) | with_reducible refine c_eq ?_ ?_ (fun z0 => ?_) (fun z0 => ?_) | with_reducible refine c_ne ?_ ?_ (fun z0 => ?_) (fun z0 => ?_)
    · omega
    · omega
    · have hft : ¬ s.2.1 = 0 := fun z => by have := (hI z).2.2.1; omega
      exact kk g _ (done (pk_bad hft))
    · refine sX7_kindP hWg hP ?_
      rw [tg]
      first | with_reducible refine c_lt ?_ ?_ (fun z1 => ?_) (fun z1 => ?_) | with_reducible refine c_le ?_ ?_ (fun z1 => ?_) (fun z1 => ?_) | with_reducible refine c_eq ?_ ?_ (fun z1 => ?_) (fun z1 => ?_) | with_reducible refine c_ne ?_ ?_ (fun z1 => ?_) (fun z1 => ?_)
      · omega
      · omega
      · exact kk g _ (done z1)
      · have hft : s.2.1 = 0 := Decidable.byContradiction (fun z => z1 (pk_bad z))
        obtain ⟨i1, i2, i3, b, i4, i5, i6, i7⟩ := hI hft
        have rC := hP.c p0 i4
        clear hI
        have f1 : k + 1 ≤ 25 := by omega
        have f2 : 26 - (k + 1) ≤ f := by omega
        have e : pgo (tokC c N) (f + 1) k s ls = if (phead (tokC c N) k s).2.1 = 0 then pgo (tokC c N) f (k + 1) (pre0 (pbody (tokC c N) s).2) (ls ++ [(pbody (tokC c N) s).1]) else (phead (tokC c N) k s, ls) := by
          show (if pk (tokC c N) s = 155 then _ else _) = _
          rw [if_neg z1]
        rw [e] at kk
        clear e done
        rw [show (k : Int) + 1 = ((k + 1 : Nat) : Int) by omega]
        refine sX7_readLine (kk := k) (l := L + k) hWg rC p0 hft i1 (by omega) (by omega) i3 hB i6 (by omega) (fun hb g' hg' => ?_) (fun hh h24 g' hF' e4 hP' hl => ?_)
        · rw [tg] at hb hg'
          rw [if_neg hb] at kk
          have hF2 : TextF c g' L B := hF.tr (hg'.line (l := L + k)) (by omega) i5
          -- the state is at fault: one more look, and the end
          obtain ⟨hW2, t2⟩ := hF2.tk hW
          refine zX7_readText_36 ?_
          have fin : ∀ j, aX7_readText T (d + 2) Q X 65 [some (mx_R 31), some (mx_I x1), some (mx_I x2), some (mx_I x3), some (mx_I j)] [] g' u := fun j => kk g' j ⟨hF2, hg'.p, fun z => absurd z hb⟩
          first | with_reducible refine c_lt ?_ ?_ (fun y0 => ?_) (fun y0 => ?_) | with_reducible refine c_le ?_ ?_ (fun y0 => ?_) (fun y0 => ?_) | with_reducible refine c_eq ?_ ?_ (fun y0 => ?_) (fun y0 => ?_) | with_reducible refine c_ne ?_ ?_ (fun y0 => ?_) (fun y0 => ?_)
          · omega
          · omega
          · exact fin _
          · refine sX7_kindP hW2 hg'.p ?_
            rw [pk_bad hb]
            exact ⟨fun _ => fin _, fun z => absurd rfl z⟩
        · rw [tg] at hh hP' hl
          have hh0 : (phead (tokC c N) k s).2.1 = 0 := by rw [hh]; exact hft
          rw [if_pos hh0] at kk
          have bl := body_L (t := tokC c N) hN p0
          have hF2 : TextF c g' L B := hF.tr hF' (by omega) i5
          refine ih (k + 1) (pre0 (pbody (tokC c N) s).2) (ls ++ [(pbody (tokC c N) s).1]) g' f1 f2 rfl hF2 hP' (fun z => ?_) kk
          obtain ⟨l1, l2⟩ := hl z
          refine ⟨by rw [e4]; omega, by rw [List.length_append, i2]; rfl, by omega, _, l2, by omega, ?_, ?_⟩
          · show b + _ + _ ≤ B + (pbody (tokC c N) s).2.1
            omega
          · intro j hj
            rw [List.length_append, i2] at hj
            have hj' : j < k + 1 := hj
            rcases Nat.lt_or_ge j k with y | y
            · obtain ⟨a, a1, a2⟩ := i7 j (by omega)
              have eg : (ls ++ [(pbody (tokC c N) s).1]).getD j (0, 0, 0, [], []) = ls.getD j (0, 0, 0, [], []) := by
                rw [List.getD_eq_getElem?_getD, List.getD_eq_getElem?_getD, List.getElem?_append_left (by omega)]
              rw [eg]
              refine ⟨a, a1.fr (b := b) (fun q hq => hF'.2.1 q hq _ (by omega)) hF'.2.2 a2, by omega⟩
            · have ej : j = k := by omega
              subst ej
              have eg : (ls ++ [(pbody (tokC c N) s).1]).getD j (0, 0, 0, [], []) = (pbody (tokC c N) s).1 := by
                rw [List.getD_eq_getElem?_getD, List.getElem?_append_right (by omega), i2, Nat.sub_self]; rfl
              rw [eg]
              exact ⟨b, l1, Nat.le_refl _⟩
/-- the text as it is read: its state at the end and its lines -/
def ptext (t : pT) : pS × List pA := pgo t 26 0 (0, 0, -1, []) []
