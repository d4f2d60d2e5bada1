/-! the check of a method, and what it gives -/
def mx_okA (cc : ByteArray) (hp i q : Nat) : Bool := (decide (decode cc hp = .ok (.astore i, 2)) && decide (q = hp + 2)) || (decide (q = hp + 1) && (match i with
  | 0 => decide (decode cc hp = .ok (.astore_n 0, 1))
  | 1 => decide (decode cc hp = .ok (.astore_n 1, 1))
  | 2 => decide (decode cc hp = .ok (.astore_n 2, 1))
  | 3 => decide (decode cc hp = .ok (.astore_n 3, 1))
  | _ => false))
def mx_okH (own : String) (cc : ByteArray) (nL : Nat) : List (Nat × Nat × Nat × Nat) → List (Nat × Nat × Nat × Nat × Nat) → List (Nat × Nat) → Bool
  | [], [], _ => true
  | r :: hh, q :: ht, c :: hs => decide (r.1 = q.1) && decide (r.2.1 = q.2.1) && decide (q.2.2.1 < 4) && decide (r.2.2.2 ≠ 0) && mx_inB c.1 c.2 (.classLink own r.2.2.2 (mx_ex q.2.2.1)) && decide (q.2.2.2.1 < nL) && mx_okA cc r.2.2.1 q.2.2.2.1 q.2.2.2.2 && mx_okH own cc nL hh ht hs
  | _, _, _ => false
def mx_okM (t : mx_MT) (hs : List (Nat × Nat)) : Bool := match hs with
  | _ :: b :: c :: d :: hs => plainFor (mx_my t) && mx_inB b.1 b.2 (.initialized (mx_my t).cls) && decide ((mx_my t).cls ≠ "java/lang/invoke/MethodHandle" ∧ (mx_my t).cls ≠ "java/lang/invoke/VarHandle") &&
      decide ((parseMethodDescriptor (mx_my t).desc).map (fun d => d.parameters.length) = some (mx_mn t)) && decide (mx_ml t ≤ 45) && (match mx_mk t with
        | 0 => mx_inB c.1 c.2 (.static (mx_my t))
        | 1 => mx_inB c.1 c.2 (.instanceMethod (mx_my t)) && mx_inB d.1 d.2 (.selects (mx_my t).cls (mx_my t) (mx_my t)) && decide (mx_mh t = [])
        | 2 => mx_inB c.1 c.2 (.instanceMethod (mx_my t)) && decide ((mx_my t).name = "<init>") && decide (mx_mr t = none) && decide (mx_mh t = [])
        | _ => false) && mx_okH (mx_my t).cls (mx_mb t) (mx_ml t) (mx_mh t) (mx_mt t) hs
  | _ => false
def mx_okX (x : mx_Ml) : Bool := mx_okM x.1 x.2.2 && (mx_ch x.2.1 && x.2.1.all (fun e => mx_okB (mx_my x.1).cls (mx_mb x.1) (mx_ml x.1) (mx_mr x.1) (decide (mx_mk x.1 = 2)) mx_mT e))
theorem mx_okA_of {cc : ByteArray} {hp i q : Nat} (h : mx_okA cc hp i q = true) : (∃ j : Fin 4, (j : Nat) = i ∧ decode cc hp = .ok (.astore_n j, 1) ∧ q = hp + 1) ∨ (decode cc hp = .ok (.astore i, 2) ∧ q = hp + 2) := by
  unfold mx_okA at h
  simp only [Bool.or_eq_true, Bool.and_eq_true, decide_eq_true_eq] at h
  rcases h with h | ⟨h1, h2⟩
  · exact Or.inr h
  · left
    split at h2
    · exact ⟨0, rfl, of_decide_eq_true h2, h1⟩
    · exact ⟨1, rfl, of_decide_eq_true h2, h1⟩
    · exact ⟨2, rfl, of_decide_eq_true h2, h1⟩
    · exact ⟨3, rfl, of_decide_eq_true h2, h1⟩
    · cases h2
theorem mx_okH_of {own : String} {cc : ByteArray} {nL : Nat} : ∀ {hh : List (Nat × Nat × Nat × Nat)} {ht : List (Nat × Nat × Nat × Nat × Nat)} {hs : List (Nat × Nat)}, mx_okH own cc nL hh ht hs = true → mx_hok own cc nL hh ht
  | [], [], _, _ => ⟨rfl, fun k r q h => by cases h⟩
  | [], _ :: _, _, h => by cases h
  | _ :: _, [], _, h => by cases h
  | _ :: _, _ :: _, [], h => by cases h
  | r :: hh, q :: ht, c :: hs, h => by
    unfold mx_okH at h
    simp only [Bool.and_eq_true, decide_eq_true_eq] at h
    obtain ⟨⟨⟨⟨⟨⟨⟨h1, h2⟩, h3⟩, h4⟩, h5⟩, h6⟩, h7⟩, h8⟩ := h
    obtain ⟨k1, k2⟩ := mx_okH_of h8
    refine ⟨by rw [List.length_cons, List.length_cons, k1], fun k r' q' hr hq => ?_⟩
    match k, hr, hq with
    | 0, hr, hq =>
      cases hr; cases hq
      exact ⟨h1, h2, h3, h4, mx_inB_of h5, h6, mx_okA_of h7⟩
    | k + 1, hr, hq => exact k2 k r' q' hr hq
theorem mx_okM_of {t : mx_MT} {hs : List (Nat × Nat)} (hw : mx_cw t ∈ mx_Ts) (h : mx_okM t hs = true) : mx_mok t ∧ mx_hok (mx_my t).cls (mx_mb t) (mx_ml t) (mx_mh t) (mx_mt t) := by
  unfold mx_okM at h
  split at h
  · simp only [Bool.and_eq_true, decide_eq_true_eq] at h
    obtain ⟨⟨⟨⟨⟨⟨h2, h3⟩, h4⟩, h5⟩, h6⟩, h7⟩, h8⟩ := h
    refine ⟨⟨hw, h2, mx_inB_of h3, h4, h5, h6, fun hk => ?_, fun hk => ?_, fun hk => ?_⟩, mx_okH_of h8⟩
    · simp only [hk] at h7
      exact mx_inB_of h7
    · simp only [hk, Bool.and_eq_true, decide_eq_true_eq] at h7
      exact ⟨mx_inB_of h7.1.1, mx_inB_of h7.1.2, h7.2⟩
    · simp only [hk, Bool.and_eq_true, decide_eq_true_eq] at h7
      exact ⟨mx_inB_of h7.1.1.1, h7.1.1.2, h7.1.2, h7.2⟩
  · cases h
theorem mx_tok_of (h : ∀ x ∈ mx_mL, mx_okX x = true ∧ mx_cw x.1 ∈ mx_Ts) : mx_tok mx_mT mx_mB := by
  intro k t hk
  unfold mx_mT at hk
  split at hk
  · next x hx =>
    cases hk
    obtain ⟨h1, hw⟩ := h x (List.mem_of_getElem? hx)
    unfold mx_okX at h1
    simp only [Bool.and_eq_true, List.all_eq_true] at h1
    obtain ⟨h1, h2, h3⟩ := h1
    obtain ⟨h4, h5⟩ := mx_okM_of hw h1
    have e : mx_mB k = x.2.1 := by unfold mx_mB; rw [hx]
    rw [e]
    exact ⟨h4, h2, h3, h5⟩
  · cases hk
theorem mx_allc {α : Type} {l : List α} {f : α → Bool} (n : Nat) (h1 : (l.take n).all f = true) (h2 : (l.drop n).all f = true) : l.all f = true := by
  rw [← List.take_append_drop n l, List.all_append, h1, h2]
  rfl
theorem mx_okX_of {t : mx_MT} {b : List mx_E} {hs : List (Nat × Nat)} (h1 : mx_okM t hs = true) (h2 : mx_ch b = true) (h3 : b.all (fun e => mx_okB (mx_my t).cls (mx_mb t) (mx_ml t) (mx_mr t) (decide (mx_mk t = 2)) mx_mT e) = true) : mx_okX (t, b, hs) = true := by
  unfold mx_okX
  simp only [Bool.and_eq_true]
  exact ⟨h1, h2, h3⟩
