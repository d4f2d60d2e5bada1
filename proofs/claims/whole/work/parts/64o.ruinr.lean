/-! the call ruin, whole -/
theorem sX12_ruinL {T : Nat × (Nat → Int32)} {d : Nat} {Q : mz_K} {X : mz_X} {g : mz_S} {c : mz_S} {nt m y : Nat} {al : Nat → List pA} {x1 x2 D : Int} {o6 o7 : Option mx_v} (wlc : WfL0 c) (wb : WfB c) (ie : IE c) (tw : TxW c nt al) (rs : RS c nt g) (em : c 9 1 = (m : Int)) (hy : y < m) (hD : zb D = ruS0 c m y) (k : ∀ g' R D', Ch [130, 131, 132, 133, 168, 169, 172, 173] [50, 54] g g' → (∀ i, i < R → ¬ fxP c nt al m (ruSs c nt al m y i)) → fxP c nt al m (ruSs c nt al m y R) → zb D' = ruSs c nt al m y R → (w32 x2 = w32 0 → Q D' g') ∧ (¬ w32 x2 = w32 0 → Q (R : Int) g')) : aX12_ruin T (d + 9) Q X 61 [some (mx_R 99), some (mx_I x1), some (mx_I x2), some (mx_I D), some (mx_I 0), some (mx_I 1), o6, o7] [] g (0, 0) := by
  have hw := wb.1
  have main : ∀ n t : Nat, t + n = 13 → ∀ G D o6 o7, Ch [130, 131, 132, 133, 168, 169, 172, 173] [50, 54] g G → zb D = ruSs c nt al m y t → (∀ i, i < t → ¬ fxP c nt al m (ruSs c nt al m y i)) → aX12_ruin T (d + 9) Q X 61 [some (mx_R 99), some (mx_I x1), some (mx_I x2), some (mx_I D), some (mx_I (t : Int)), some (mx_I 1), o6, o7] [] G (0, 0) := by
    intro n
    induction n with
    | zero =>
      intro t ht G D o6 o7 cG hD hn
      have := ru_lt hy hn
      omega
    | succ n ih =>
      intro t ht G D o6 o7 cG hD hn
      refine zX12_ruin_61 ⟨fun q => absurd q (by decide), fun _ => ?_⟩
      have inner : ∀ b s : Nat, s + b = m → ∀ G2 v, Ch [130, 131, 132, 133, 168, 169, 172, 173] [50, 54] g G2 → (∀ i, i < 32 → (zb v i = true ↔ ruSs c nt al m y t i = true ∨ (i < s ∧ w64 (weF c nt al m (ruSs c nt al m y t) i) < 0))) → aX12_ruin T (d + 9) Q X 72 [some (mx_R 99), some (mx_I x1), some (mx_I x2), some (mx_I D), some (mx_I (t : Int)), some (mx_I 1), some (mx_I v), some (mx_I (s : Int))] [] G2 (0, 0) := by
        intro b
        induction b with
        | zero =>
          intro s hs G2 v c2 hv
          refine zX12_ruin_72 ?_
          rw [c2.2 10 (by decide), rs.2.1.1, em]
          have : s = m := by omega
          subst this
          have ev : zb v = ruSs c nt al s y (t + 1) := nx_bits (by omega) (fun i hi => by rw [← hD, zb_big hi]) hv
          first | with_reducible refine c_lt ?_ ?_ (fun z => ?_) (fun z => ?_) | with_reducible refine c_le ?_ ?_ (fun z => ?_) (fun z => ?_) | with_reducible refine c_eq ?_ ?_ (fun z => ?_) (fun z => ?_) | with_reducible refine c_ne ?_ ?_ (fun z => ?_) (fun z => ?_)
          · omega
          · omega
          · refine ⟨fun q => ?_, fun q => ?_⟩
            · have fx : fxP c nt al s (ruSs c nt al s y t) := fun x hx h0 h1 => by
                have h2 := (hv x (by omega)).mpr (Or.inr ⟨hx, h1⟩)
                rw [← zb_w, q, zb_w, hD, h0] at h2
                exact absurd h2 (by decide)
              have e2 : zb v = ruSs c nt al s y t := by
                funext i
                rw [← zb_w, q, zb_w, hD]
              refine zX12_ruin_128 ⟨fun _ => ?_, fun q => absurd rfl q⟩
              refine zX12_ruin_142 ?_
              have kk := k G2 t v c2 hn fx e2
              refine zX12_ruin_61 ⟨fun _ => ⟨fun q2 => zX12_ruin_161 ?_, fun q2 => zX12_ruin_161 ?_⟩, fun q => absurd rfl q⟩
              · rw [Int.add_zero]
                exact kk.2 q2
              · exact kk.1 (Decidable.not_not.mp q2)
            · refine zX12_ruin_128 ⟨fun q => absurd q (by decide), fun _ => ?_⟩
              refine zX12_ruin_142 ?_
              rw [show (t : Int) + 1 = ((t + 1 : Nat) : Int) by omega]
              refine ih (t + 1) (by omega) G2 v _ _ c2 ev (fun i hi => ?_)
              by_cases e : i = t
              · rw [e]
                intro fx
                refine q (zb_ext (fun i hi => ?_))
                rw [hD]
                refine Bool.eq_iff_iff.mpr ((hv i hi).trans ⟨fun h => ?_, Or.inl⟩)
                rcases h with h | ⟨h1, h2⟩
                · exact h
                · cases hh : ruSs c nt al s y t i with
                  | true => rfl
                  | false => exact absurd h2 (fx i h1 hh)
              · exact hn i (by omega)
          · omega
        | succ b ihb =>
          intro s hs G2 v c2 hv
          have skip : ∀ G3, Ch [130, 131, 132, 133, 168, 169, 172, 173] [50, 54] g G3 → (ruSs c nt al m y t s = true ∨ ¬ w64 (weF c nt al m (ruSs c nt al m y t) s) < 0) → aX12_ruin T (d + 9) Q X 111 [some (mx_R 99), some (mx_I x1), some (mx_I x2), some (mx_I D), some (mx_I (t : Int)), some (mx_I 1), some (mx_I v), some (mx_I (s : Int))] [] G3 (0, 0) := by
            intro G3 c3 hq
            refine zX12_ruin_111 ?_
            rw [show (s : Int) + 1 = ((s + 1 : Nat) : Int) by omega]
            refine ihb (s + 1) (by omega) G3 v c3 (fun i hi => (hv i hi).trans ?_)
            constructor
            · rintro (h | h)
              · exact Or.inl h
              · exact Or.inr ⟨by omega, h.2⟩
            · rintro (h | h)
              · exact Or.inl h
              · by_cases e : i = s
                · subst e
                  rcases hq with hq | hq
                  · exact Or.inl hq
                  · exact absurd h.2 hq
                · exact Or.inr ⟨by omega, h.2⟩
          refine zX12_ruin_72 ?_
          rw [c2.2 10 (by decide), rs.2.1.1, em]
          first | with_reducible refine c_lt ?_ ?_ (fun z => ?_) (fun z => ?_) | with_reducible refine c_le ?_ ?_ (fun z => ?_) (fun z => ?_) | with_reducible refine c_eq ?_ ?_ (fun z => ?_) (fun z => ?_) | with_reducible refine c_ne ?_ ?_ (fun z => ?_) (fun z => ?_)
          · omega
          · omega
          · omega
          · rw [zb_holds (by omega), hD]
            refine zt0 (fun hz => skip G2 c2 (Or.inl hz)) (fun hz => ?_)
            refine sX12_wealthOf (d := d) (c := c) (nt := nt) (m := m) (al := al) wlc wb ie tw (rs.fr c2 (by decide) (by decide)) em (by omega) (fun G3 c3 => ?_)
            rw [hD]
            have c4 := c2.tr c3
            refine ⟨fun q => skip G3 c4 (Or.inr (fun r => ?_)), fun q => ?_⟩
            · have := lc_ge.mp q
              rw [show w64 0 = 0 by decide] at this
              omega
            · have q' : ¬ w64 0 ≤ w64 (weF c nt al m (ruSs c nt al m y t) s) := fun r => q (lc_ge.mpr r)
              rw [show w64 0 = 0 by decide] at q'
              refine zX12_ruin_111 ?_
              rw [show (s : Int) + 1 = ((s + 1 : Nat) : Int) by omega]
              refine ihb (s + 1) (by omega) G3 _ c4 (fun i hi => ?_)
              rw [zb_ior, zb_bit (by omega) hi, Bool.or_eq_true, hv i hi, decide_eq_true_iff]
              constructor
              · rintro ((h | h) | h)
                · exact Or.inl h
                · exact Or.inr ⟨by omega, h.2⟩
                · rw [h]; exact Or.inr ⟨by omega, by omega⟩
              · rintro (h | h)
                · exact Or.inl (Or.inl h)
                · by_cases e : i = s
                  · exact Or.inr e
                  · exact Or.inl (Or.inr ⟨by omega, h.2⟩)
      rw [show (0 : Int) = ((0 : Nat) : Int) from rfl]
      refine inner m 0 (by omega) G D cG (fun i hi => ?_)
      rw [hD]
      exact ⟨Or.inl, fun h => h.elim id (fun q => absurd q.1 (Nat.not_lt_zero i))⟩
  rw [show (0 : Int) = ((0 : Nat) : Int) from rfl]
  exact main 13 0 (by omega) g D o6 o7 (Ch.rf g) hD (fun i hi => absurd hi (Nat.not_lt_zero i))
