/-! what such a run gives holds of the small machine -/
theorem mu_st_ok {F1 : Nat → Option (Nat × (Nat → Int))} {E : mu_T} (hE : mu_ok F1 E) {D : Nat} {lim : Nat × Nat} {tb : List mx_E} {e : mx_E} {r : List mx_E} {L : mx_L} {st : List mx_v} {sh : List mx_d} {ws : mu_W} {u : Nat × Nat} {sh2 : List mx_d} {ws2 : mu_W} (h : mu_st E D lim tb e r L st sh ws u = some (sh2, ws2)) (mt : List (Nat × Nat × Nat × Nat × Nat)) (Q : mx_O → mx_H → Prop) (k : Q (.inl none) (sh2, mu_g ws2)) : mx_B (F1, mt, lim) (mx_CA mx_mT mx_mB F1 D) (mx_A (F1, mt, lim) (mx_CA mx_mT mx_mB F1 D) tb Q) Q (e :: r) L st (sh, mu_g ws) u := by
  have go : ∀ {is : List mx_E} {L : mx_L} {st : List mx_v} {sh : List mx_d} {ws : mu_W} {u : Nat × Nat}, E D lim tb is L st sh ws u = some (sh2, ws2) → mx_B (F1, mt, lim) (mx_CA mx_mT mx_mB F1 D) (mx_A (F1, mt, lim) (mx_CA mx_mT mx_mB F1 D) tb Q) Q is L st (sh, mu_g ws) u := fun h => hE _ _ _ _ _ _ _ _ _ _ _ h mt Q k
  have jump : ∀ {t : Nat} {L : mx_L} {st : List mx_v} {sh : List mx_d} {ws : mu_W} {u : Nat × Nat}, E D lim tb (mx_sfx tb t) L st sh ws u = some (sh2, ws2) → mx_A (F1, mt, lim) (mx_CA mx_mT mx_mB F1 D) tb Q t L st (sh, mu_g ws) u := fun h => mx_A_in (fun _ _ _ _ _ z => z) (go h)
  have call : ∀ {pc m : Nat} {as rest : List mx_v} {L : mx_L} {sh sh3 : List mx_d} {ws ws3 : mu_W} {u' : Nat × Nat}, mu_cl E D m as sh ws = some (sh3, ws3) → Nat.ble (mx_wt rest) 8 = true → E D lim tb r L rest sh3 ws3 u' = some (sh2, ws2) → mx_go (F1, mt, lim) (mx_CA mx_mT mx_mB F1 D) pc L (fun L st h u => mx_B (F1, mt, lim) (mx_CA mx_mT mx_mB F1 D) (mx_A (F1, mt, lim) (mx_CA mx_mT mx_mB F1 D) tb Q) Q r L st h u) (mx_A (F1, mt, lim) (mx_CA mx_mT mx_mB F1 D) tb Q) Q m as rest (sh, mu_g ws) u' := by
    intro pc m as rest L sh sh3 ws ws3 u' h1 h2 h3
    unfold mx_go
    simp only [h2]
    exact mu_cl_ok hE h1 (show mx_aft _ _ _ _ _ _ _ _ _ from go h3)
  show mx_step (F1, mt, lim) (mx_CA mx_mT mx_mB F1 D) e L st (sh, mu_g ws) u (fun L st h u => mx_B (F1, mt, lim) (mx_CA mx_mT mx_mB F1 D) (mx_A (F1, mt, lim) (mx_CA mx_mT mx_mB F1 D) tb Q) Q r L st h u) (mx_A (F1, mt, lim) (mx_CA mx_mT mx_mB F1 D) tb Q) Q
  obtain ⟨pc, i, len, inf⟩ := e
  cases i
  case iconst n => exact go h
  case bipush n => exact go h
  case sipush n => exact go h
  case iload_n kk =>
    unfold mu_st at h
    unfold mx_step
    dsimp only at h ⊢
    split at h
    · next e9 => simp only [e9]; exact go h
    · cases h
  case aload_n kk =>
    unfold mu_st at h
    unfold mx_step
    dsimp only at h ⊢
    split at h
    · next e9 => simp only [e9]; exact go h
    · cases h
  case aload kk =>
    unfold mu_st at h
    unfold mx_step
    dsimp only at h ⊢
    split at h
    · next e9 => simp only [e9]; exact go h
    · cases h
  case istore_n kk =>
    unfold mu_st at h
    unfold mx_step
    dsimp only at h ⊢
    split at h
    · exact go h
    · cases h
  case iinc kk n =>
    unfold mu_st at h
    unfold mx_step
    dsimp only at h ⊢
    split at h
    · next e9 => simp only [e9]; exact go h
    · cases h
  case iadd =>
    unfold mu_st at h
    unfold mx_step
    dsimp only at h ⊢
    split at h
    · exact go h
    · cases h
  case imul =>
    unfold mu_st at h
    unfold mx_step
    dsimp only at h ⊢
    split at h
    · exact go h
    · cases h
  case dup =>
    unfold mu_st at h
    unfold mx_step
    dsimp only at h ⊢
    split at h
    · exact go h
    · cases h
  case if_icmp cd off =>
    unfold mu_st at h
    unfold mx_step
    dsimp only at h ⊢
    split at h
    · split at h
      · next hc => exact ⟨fun _ => jump h, fun z => absurd hc z⟩
      · next hc => exact ⟨fun z => absurd z hc, fun _ => go h⟩
    · cases h
  case goto off =>
    unfold mu_st at h
    unfold mx_step
    dsimp only at h ⊢
    split at h
    · exact jump h
    · cases h
  case getfield fi =>
    unfold mu_st at h
    unfold mx_step
    dsimp only at h ⊢
    split at h
    · split at h
      · next hb =>
        split at h
        · next e9 =>
          split at h
          · next hc =>
            split at h
            · next e8 =>
              split
              · next heq => cases heq; exact absurd hb (by decide)
              · next heq =>
                cases heq
                simp only [e9]
                refine ⟨hc, ?_⟩
                simp only [e8]
                exact go h
              · next hn => exact absurd rfl (hn _ _ _ _)
            · cases h
          · cases h
        · cases h
      · cases h
    · cases h
  case putfield fi =>
    unfold mu_st at h
    unfold mx_step
    dsimp only at h ⊢
    split at h
    · split at h
      · split at h
        · next e9 =>
          split at h
          · next hc => simp only [e9]; exact ⟨hc, go h⟩
          · cases h
        · cases h
      · cases h
    · split at h
      · split at h
        · next e9 =>
          split at h
          · next hc => simp only [e9]; exact ⟨hc, go h⟩
          · cases h
        · cases h
      · cases h
    · cases h
  case iastore =>
    unfold mu_st at h
    unfold mx_step
    dsimp only at h ⊢
    split at h
    · split at h
      · next e9 =>
        split at h
        · next hc => simp only [e9]; exact ⟨hc, go h⟩
        · cases h
      · cases h
    · cases h
  case arraylength =>
    unfold mu_st at h
    unfold mx_step
    dsimp only at h ⊢
    split at h
    · split at h
      · next e9 => simp only [e9]; exact go h
      · cases h
    · cases h
  case newarray ty =>
    unfold mu_st at h
    unfold mx_step
    dsimp only at h ⊢
    split at h
    · split at h
      · next hc =>
        rw [mu_g_new hc.2]
        exact ⟨hc.1.1, hc.1.2.1, hc.1.2.2.1, hc.1.2.2.2, go h⟩
      · cases h
    · cases h
  case new fi =>
    unfold mu_st at h
    unfold mx_step
    dsimp only at h ⊢
    split at h
    · split at h
      · next hc =>
        rw [mu_g_new hc.2]
        exact ⟨hc.1.1, hc.1.2, go h⟩
      · cases h
    · cases h
  case invokespecial fi =>
    unfold mu_st at h
    unfold mx_step
    dsimp only at h ⊢
    split at h
    · split at h
      · next e9 =>
        split at h
        · next hb hcl => simp only [e9]; exact call hcl hb h
        · cases h
      · cases h
    · split at h
      · next e9 =>
        split at h
        · next hb hcl =>
          split at h
          · next hu => simp only [e9]; exact ⟨hu.1, hu.2, call hcl hb h⟩
          · cases h
        · cases h
      · cases h
    · split at h
      · split at h
        · next hb => simp only [hb]; exact go h
        · cases h
      · cases h
    · cases h
  case invokestatic fi =>
    unfold mu_st at h
    unfold mx_step
    dsimp only at h ⊢
    split at h
    · split at h
      · next e9 =>
        split at h
        · next hb hcl => simp only [e9]; exact call hcl hb h
        · cases h
      · cases h
    · cases h
  case return_ =>
    unfold mu_st at h
    unfold mx_step
    dsimp only at h ⊢
    split at h
    · cases h
      exact k
    · cases h
  all_goals
    unfold mu_st at h
    dsimp only at h
    cases h
theorem mu_ev_ok (F1 : Nat → Option (Nat × (Nat → Int))) : ∀ n, mu_ok F1 (mu_ev n) := by
  intro n
  induction n with
  | zero => intro D lim tb is L st sh ws u sh2 ws2 h; cases h
  | succ n ih =>
    intro D lim tb is L st sh ws u sh2 ws2 h mt Q k
    match is, h with
    | e :: r, h => exact mu_st_ok ih h mt Q k
/-- a call that such a run has made -/
theorem mu_call {F1 : Nat → Option (Nat × (Nat → Int))} {n D m : Nat} {as : List mx_v} {sh sh2 : List mx_d} {ws ws2 : mu_W} (h : mu_cl (mu_ev n) D m as sh ws = some (sh2, ws2)) {Q : mx_O → mx_H → Prop} (k : Q (.inl none) (sh2, mu_g ws2)) : mx_CA mx_mT mx_mB F1 D m as (sh, mu_g ws) Q := mu_cl_ok (mu_ev_ok F1 n) h k
